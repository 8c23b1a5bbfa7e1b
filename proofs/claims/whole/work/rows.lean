section
-- ===== PART A: goes FIRST, ahead of the names: the tables' words, and 'selects' of the private methods out of them =====
/-- a private method of a class that the tables say can be made, by its rows of tables_1 -/
def lw_okq (q : MethodName × Nat) : Prop := (q.1.cls ≠ "java/lang/invoke/MethodHandle" ∧ q.1.cls ≠ "java/lang/invoke/VarHandle") ∧ Cond.instantiable q.1.cls q.2 ∈ tables_1 ∧ Cond.privateMethod q.1 ∈ tables_1 ∧ Cond.instanceMethod q.1 ∈ tables_1
theorem lw_p0 : lw_okq (⟨"FerryForAlone", "tapeOne", "(I)V"⟩, 9) := ⟨⟨by decide +kernel, by decide +kernel⟩, List.mem_of_getElem? (i := 15) (by decide +kernel), List.mem_of_getElem? (i := 269) (by decide +kernel), List.mem_of_getElem? (i := 270) (by decide +kernel)⟩
theorem lw_p1 : lw_okq (⟨"FerryForAlone$Reader", "take", "()V"⟩, 9) := ⟨⟨by decide +kernel, by decide +kernel⟩, List.mem_of_getElem? (i := 51) (by decide +kernel), List.mem_of_getElem? (i := 282) (by decide +kernel), List.mem_of_getElem? (i := 283) (by decide +kernel)⟩
theorem lw_p2 : lw_okq (⟨"FerryForAlone$Reader", "takeWord", "()V"⟩, 9) := ⟨⟨by decide +kernel, by decide +kernel⟩, List.mem_of_getElem? (i := 51) (by decide +kernel), List.mem_of_getElem? (i := 289) (by decide +kernel), List.mem_of_getElem? (i := 290) (by decide +kernel)⟩
theorem lw_p3 : lw_okq (⟨"FerryForAlone$Reader", "isWord", "(Ljava/lang/String;)Z"⟩, 9) := ⟨⟨by decide +kernel, by decide +kernel⟩, List.mem_of_getElem? (i := 51) (by decide +kernel), List.mem_of_getElem? (i := 294) (by decide +kernel), List.mem_of_getElem? (i := 295) (by decide +kernel)⟩
theorem lw_p4 : lw_okq (⟨"FerryForAlone$Reader", "takeNumber", "()V"⟩, 9) := ⟨⟨by decide +kernel, by decide +kernel⟩, List.mem_of_getElem? (i := 51) (by decide +kernel), List.mem_of_getElem? (i := 360) (by decide +kernel), List.mem_of_getElem? (i := 361) (by decide +kernel)⟩
theorem lw_p5 : lw_okq (⟨"FerryForAlone$Reader", "expect", "(I)V"⟩, 9) := ⟨⟨by decide +kernel, by decide +kernel⟩, List.mem_of_getElem? (i := 51) (by decide +kernel), List.mem_of_getElem? (i := 367) (by decide +kernel), List.mem_of_getElem? (i := 368) (by decide +kernel)⟩
theorem lw_p6 : lw_okq (⟨"FerryForAlone$Reader", "fail", "()V"⟩, 9) := ⟨⟨by decide +kernel, by decide +kernel⟩, List.mem_of_getElem? (i := 51) (by decide +kernel), List.mem_of_getElem? (i := 371) (by decide +kernel), List.mem_of_getElem? (i := 372) (by decide +kernel)⟩
theorem lw_p7 : lw_okq (⟨"FerryForAlone$Reader", "either", "(I)V"⟩, 9) := ⟨⟨by decide +kernel, by decide +kernel⟩, List.mem_of_getElem? (i := 51) (by decide +kernel), List.mem_of_getElem? (i := 375) (by decide +kernel), List.mem_of_getElem? (i := 376) (by decide +kernel)⟩
theorem lw_p8 : lw_okq (⟨"FerryForAlone$Reader", "both", "(I)V"⟩, 9) := ⟨⟨by decide +kernel, by decide +kernel⟩, List.mem_of_getElem? (i := 51) (by decide +kernel), List.mem_of_getElem? (i := 379) (by decide +kernel), List.mem_of_getElem? (i := 380) (by decide +kernel)⟩
theorem lw_p9 : lw_okq (⟨"FerryForAlone$Reader", "negation", "(I)V"⟩, 9) := ⟨⟨by decide +kernel, by decide +kernel⟩, List.mem_of_getElem? (i := 51) (by decide +kernel), List.mem_of_getElem? (i := 383) (by decide +kernel), List.mem_of_getElem? (i := 384) (by decide +kernel)⟩
theorem lw_p10 : lw_okq (⟨"FerryForAlone$Reader", "comparison", "(I)V"⟩, 9) := ⟨⟨by decide +kernel, by decide +kernel⟩, List.mem_of_getElem? (i := 51) (by decide +kernel), List.mem_of_getElem? (i := 387) (by decide +kernel), List.mem_of_getElem? (i := 388) (by decide +kernel)⟩
theorem lw_p11 : lw_okq (⟨"FerryForAlone$Reader", "sum", "(I)V"⟩, 9) := ⟨⟨by decide +kernel, by decide +kernel⟩, List.mem_of_getElem? (i := 51) (by decide +kernel), List.mem_of_getElem? (i := 391) (by decide +kernel), List.mem_of_getElem? (i := 392) (by decide +kernel)⟩
theorem lw_p12 : lw_okq (⟨"FerryForAlone$Reader", "term", "(I)V"⟩, 9) := ⟨⟨by decide +kernel, by decide +kernel⟩, List.mem_of_getElem? (i := 51) (by decide +kernel), List.mem_of_getElem? (i := 395) (by decide +kernel), List.mem_of_getElem? (i := 396) (by decide +kernel)⟩
theorem lw_p13 : lw_okq (⟨"FerryForAlone$Reader", "one", "(I)V"⟩, 9) := ⟨⟨by decide +kernel, by decide +kernel⟩, List.mem_of_getElem? (i := 51) (by decide +kernel), List.mem_of_getElem? (i := 399) (by decide +kernel), List.mem_of_getElem? (i := 400) (by decide +kernel)⟩
theorem lw_p14 : lw_okq (⟨"FerryForAlone$Reader", "write", "(I)V"⟩, 9) := ⟨⟨by decide +kernel, by decide +kernel⟩, List.mem_of_getElem? (i := 51) (by decide +kernel), List.mem_of_getElem? (i := 403) (by decide +kernel), List.mem_of_getElem? (i := 404) (by decide +kernel)⟩
theorem lw_p15 : lw_okq (⟨"FerryForAlone", "fetchedInThought", "(I)I"⟩, 9) := ⟨⟨by decide +kernel, by decide +kernel⟩, List.mem_of_getElem? (i := 15) (by decide +kernel), List.mem_of_getElem? (i := 496) (by decide +kernel), List.mem_of_getElem? (i := 497) (by decide +kernel)⟩
def lw_privs_1 : List (MethodName × Nat) := [(⟨"FerryForAlone", "tapeOne", "(I)V"⟩, 9), (⟨"FerryForAlone$Reader", "take", "()V"⟩, 9), (⟨"FerryForAlone$Reader", "takeWord", "()V"⟩, 9), (⟨"FerryForAlone$Reader", "isWord", "(Ljava/lang/String;)Z"⟩, 9), (⟨"FerryForAlone$Reader", "takeNumber", "()V"⟩, 9), (⟨"FerryForAlone$Reader", "expect", "(I)V"⟩, 9), (⟨"FerryForAlone$Reader", "fail", "()V"⟩, 9), (⟨"FerryForAlone$Reader", "either", "(I)V"⟩, 9), (⟨"FerryForAlone$Reader", "both", "(I)V"⟩, 9), (⟨"FerryForAlone$Reader", "negation", "(I)V"⟩, 9), (⟨"FerryForAlone$Reader", "comparison", "(I)V"⟩, 9), (⟨"FerryForAlone$Reader", "sum", "(I)V"⟩, 9), (⟨"FerryForAlone$Reader", "term", "(I)V"⟩, 9), (⟨"FerryForAlone$Reader", "one", "(I)V"⟩, 9), (⟨"FerryForAlone$Reader", "write", "(I)V"⟩, 9), (⟨"FerryForAlone", "fetchedInThought", "(I)I"⟩, 9)]
theorem lw_r1 : ∀ q ∈ lw_privs_1, lw_okq q := List.forall_mem_cons.mpr ⟨lw_p0, List.forall_mem_cons.mpr ⟨lw_p1, List.forall_mem_cons.mpr ⟨lw_p2, List.forall_mem_cons.mpr ⟨lw_p3, List.forall_mem_cons.mpr ⟨lw_p4, List.forall_mem_cons.mpr ⟨lw_p5, List.forall_mem_cons.mpr ⟨lw_p6, List.forall_mem_cons.mpr ⟨lw_p7, List.forall_mem_cons.mpr ⟨lw_p8, List.forall_mem_cons.mpr ⟨lw_p9, List.forall_mem_cons.mpr ⟨lw_p10, List.forall_mem_cons.mpr ⟨lw_p11, List.forall_mem_cons.mpr ⟨lw_p12, List.forall_mem_cons.mpr ⟨lw_p13, List.forall_mem_cons.mpr ⟨lw_p14, List.forall_mem_cons.mpr ⟨lw_p15, fun _ h => absurd h List.not_mem_nil⟩⟩⟩⟩⟩⟩⟩⟩⟩⟩⟩⟩⟩⟩⟩⟩
theorem lw_p16 : lw_okq (⟨"FerryForAlone", "hoursTillOver", "(II)I"⟩, 9) := ⟨⟨by decide +kernel, by decide +kernel⟩, List.mem_of_getElem? (i := 15) (by decide +kernel), List.mem_of_getElem? (i := 505) (by decide +kernel), List.mem_of_getElem? (i := 506) (by decide +kernel)⟩
theorem lw_p17 : lw_okq (⟨"FerryForAlone", "wouldBeAlone", "(II)Z"⟩, 9) := ⟨⟨by decide +kernel, by decide +kernel⟩, List.mem_of_getElem? (i := 15) (by decide +kernel), List.mem_of_getElem? (i := 513) (by decide +kernel), List.mem_of_getElem? (i := 514) (by decide +kernel)⟩
theorem lw_p18 : lw_okq (⟨"FerryForAlone", "othersAloneWithout", "(I)Z"⟩, 9) := ⟨⟨by decide +kernel, by decide +kernel⟩, List.mem_of_getElem? (i := 15) (by decide +kernel), List.mem_of_getElem? (i := 527) (by decide +kernel), List.mem_of_getElem? (i := 528) (by decide +kernel)⟩
theorem lw_p19 : lw_okq (⟨"FerryForAlone", "refusalToJudge", "(I)I"⟩, 9) := ⟨⟨by decide +kernel, by decide +kernel⟩, List.mem_of_getElem? (i := 15) (by decide +kernel), List.mem_of_getElem? (i := 552) (by decide +kernel), List.mem_of_getElem? (i := 553) (by decide +kernel)⟩
theorem lw_p20 : lw_okq (⟨"FerryForAlone", "firstOtherwise", "(I)I"⟩, 9) := ⟨⟨by decide +kernel, by decide +kernel⟩, List.mem_of_getElem? (i := 15) (by decide +kernel), List.mem_of_getElem? (i := 560) (by decide +kernel), List.mem_of_getElem? (i := 561) (by decide +kernel)⟩
theorem lw_p21 : lw_okq (⟨"FerryForAlone", "fetchedAmongGulls", "(I)I"⟩, 9) := ⟨⟨by decide +kernel, by decide +kernel⟩, List.mem_of_getElem? (i := 15) (by decide +kernel), List.mem_of_getElem? (i := 605) (by decide +kernel), List.mem_of_getElem? (i := 606) (by decide +kernel)⟩
theorem lw_p22 : lw_okq (⟨"FerryForAloneModel", "next", "()V"⟩, 32) := ⟨⟨by decide +kernel, by decide +kernel⟩, List.mem_of_getElem? (i := 663) (by decide +kernel), List.mem_of_getElem? (i := 673) (by decide +kernel), List.mem_of_getElem? (i := 674) (by decide +kernel)⟩
theorem lw_p23 : lw_okq (⟨"FerryForAloneModel", "wordFrom", "(II)I"⟩, 32) := ⟨⟨by decide +kernel, by decide +kernel⟩, List.mem_of_getElem? (i := 663) (by decide +kernel), List.mem_of_getElem? (i := 680) (by decide +kernel), List.mem_of_getElem? (i := 681) (by decide +kernel)⟩
theorem lw_p24 : lw_okq (⟨"FerryForAloneModel", "eRead", "()Z"⟩, 32) := ⟨⟨by decide +kernel, by decide +kernel⟩, List.mem_of_getElem? (i := 663) (by decide +kernel), List.mem_of_getElem? (i := 684) (by decide +kernel), List.mem_of_getElem? (i := 685) (by decide +kernel)⟩
theorem lw_p25 : lw_okq (⟨"FerryForAloneModel", "puts", "(I)V"⟩, 32) := ⟨⟨by decide +kernel, by decide +kernel⟩, List.mem_of_getElem? (i := 663) (by decide +kernel), List.mem_of_getElem? (i := 689) (by decide +kernel), List.mem_of_getElem? (i := 690) (by decide +kernel)⟩
theorem lw_p26 : lw_okq (⟨"FerryForAloneModel", "unwinds", "(I)V"⟩, 32) := ⟨⟨by decide +kernel, by decide +kernel⟩, List.mem_of_getElem? (i := 663) (by decide +kernel), List.mem_of_getElem? (i := 693) (by decide +kernel), List.mem_of_getElem? (i := 694) (by decide +kernel)⟩
theorem lw_p27 : lw_okq (⟨"FerryForAloneModel", "opensOne", "(I)Z"⟩, 32) := ⟨⟨by decide +kernel, by decide +kernel⟩, List.mem_of_getElem? (i := 663) (by decide +kernel), List.mem_of_getElem? (i := 700) (by decide +kernel), List.mem_of_getElem? (i := 701) (by decide +kernel)⟩
theorem lw_p28 : lw_okq (⟨"FerryForAloneModel", "holds", "(I)V"⟩, 32) := ⟨⟨by decide +kernel, by decide +kernel⟩, List.mem_of_getElem? (i := 663) (by decide +kernel), List.mem_of_getElem? (i := 704) (by decide +kernel), List.mem_of_getElem? (i := 705) (by decide +kernel)⟩
theorem lw_p29 : lw_okq (⟨"FerryForAloneModel", "signOf", "()I"⟩, 32) := ⟨⟨by decide +kernel, by decide +kernel⟩, List.mem_of_getElem? (i := 663) (by decide +kernel), List.mem_of_getElem? (i := 708) (by decide +kernel), List.mem_of_getElem? (i := 709) (by decide +kernel)⟩
theorem lw_p30 : lw_okq (⟨"FerryForAloneModel", "between", "(I)Z"⟩, 32) := ⟨⟨by decide +kernel, by decide +kernel⟩, List.mem_of_getElem? (i := 663) (by decide +kernel), List.mem_of_getElem? (i := 712) (by decide +kernel), List.mem_of_getElem? (i := 713) (by decide +kernel)⟩
theorem lw_p31 : lw_okq (⟨"FerryForAloneModel", "choice", "()I"⟩, 32) := ⟨⟨by decide +kernel, by decide +kernel⟩, List.mem_of_getElem? (i := 663) (by decide +kernel), List.mem_of_getElem? (i := 825) (by decide +kernel), List.mem_of_getElem? (i := 826) (by decide +kernel)⟩
def lw_privs_2 : List (MethodName × Nat) := [(⟨"FerryForAlone", "hoursTillOver", "(II)I"⟩, 9), (⟨"FerryForAlone", "wouldBeAlone", "(II)Z"⟩, 9), (⟨"FerryForAlone", "othersAloneWithout", "(I)Z"⟩, 9), (⟨"FerryForAlone", "refusalToJudge", "(I)I"⟩, 9), (⟨"FerryForAlone", "firstOtherwise", "(I)I"⟩, 9), (⟨"FerryForAlone", "fetchedAmongGulls", "(I)I"⟩, 9), (⟨"FerryForAloneModel", "next", "()V"⟩, 32), (⟨"FerryForAloneModel", "wordFrom", "(II)I"⟩, 32), (⟨"FerryForAloneModel", "eRead", "()Z"⟩, 32), (⟨"FerryForAloneModel", "puts", "(I)V"⟩, 32), (⟨"FerryForAloneModel", "unwinds", "(I)V"⟩, 32), (⟨"FerryForAloneModel", "opensOne", "(I)Z"⟩, 32), (⟨"FerryForAloneModel", "holds", "(I)V"⟩, 32), (⟨"FerryForAloneModel", "signOf", "()I"⟩, 32), (⟨"FerryForAloneModel", "between", "(I)Z"⟩, 32), (⟨"FerryForAloneModel", "choice", "()I"⟩, 32)]
theorem lw_r2 : ∀ q ∈ lw_privs_2, lw_okq q := List.forall_mem_cons.mpr ⟨lw_p16, List.forall_mem_cons.mpr ⟨lw_p17, List.forall_mem_cons.mpr ⟨lw_p18, List.forall_mem_cons.mpr ⟨lw_p19, List.forall_mem_cons.mpr ⟨lw_p20, List.forall_mem_cons.mpr ⟨lw_p21, List.forall_mem_cons.mpr ⟨lw_p22, List.forall_mem_cons.mpr ⟨lw_p23, List.forall_mem_cons.mpr ⟨lw_p24, List.forall_mem_cons.mpr ⟨lw_p25, List.forall_mem_cons.mpr ⟨lw_p26, List.forall_mem_cons.mpr ⟨lw_p27, List.forall_mem_cons.mpr ⟨lw_p28, List.forall_mem_cons.mpr ⟨lw_p29, List.forall_mem_cons.mpr ⟨lw_p30, List.forall_mem_cons.mpr ⟨lw_p31, fun _ h => absurd h List.not_mem_nil⟩⟩⟩⟩⟩⟩⟩⟩⟩⟩⟩⟩⟩⟩⟩⟩
theorem lw_p32 : lw_okq (⟨"FerryForAloneModel", "isAlone", "(I)Z"⟩, 32) := ⟨⟨by decide +kernel, by decide +kernel⟩, List.mem_of_getElem? (i := 663) (by decide +kernel), List.mem_of_getElem? (i := 829) (by decide +kernel), List.mem_of_getElem? (i := 830) (by decide +kernel)⟩
theorem lw_p33 : lw_okq (⟨"FerryForAloneModel", "isSeen", "(I)Z"⟩, 32) := ⟨⟨by decide +kernel, by decide +kernel⟩, List.mem_of_getElem? (i := 663) (by decide +kernel), List.mem_of_getElem? (i := 833) (by decide +kernel), List.mem_of_getElem? (i := 834) (by decide +kernel)⟩
theorem lw_p34 : lw_okq (⟨"FerryForAloneModel", "isAt", "(I)Z"⟩, 32) := ⟨⟨by decide +kernel, by decide +kernel⟩, List.mem_of_getElem? (i := 663) (by decide +kernel), List.mem_of_getElem? (i := 837) (by decide +kernel), List.mem_of_getElem? (i := 838) (by decide +kernel)⟩
theorem lw_p35 : lw_okq (⟨"FerryForAloneModel", "farOf", "(I)I"⟩, 32) := ⟨⟨by decide +kernel, by decide +kernel⟩, List.mem_of_getElem? (i := 663) (by decide +kernel), List.mem_of_getElem? (i := 841) (by decide +kernel), List.mem_of_getElem? (i := 842) (by decide +kernel)⟩
theorem lw_p36 : lw_okq (⟨"FerryForAloneModel", "gapOf", "(I)I"⟩, 32) := ⟨⟨by decide +kernel, by decide +kernel⟩, List.mem_of_getElem? (i := 663) (by decide +kernel), List.mem_of_getElem? (i := 845) (by decide +kernel), List.mem_of_getElem? (i := 846) (by decide +kernel)⟩
theorem lw_p37 : lw_okq (⟨"FerryForAloneModel", "asksOf", "(II)I"⟩, 32) := ⟨⟨by decide +kernel, by decide +kernel⟩, List.mem_of_getElem? (i := 663) (by decide +kernel), List.mem_of_getElem? (i := 849) (by decide +kernel), List.mem_of_getElem? (i := 850) (by decide +kernel)⟩
theorem lw_p38 : lw_okq (⟨"FerryForAloneModel", "seenSet", "()I"⟩, 32) := ⟨⟨by decide +kernel, by decide +kernel⟩, List.mem_of_getElem? (i := 663) (by decide +kernel), List.mem_of_getElem? (i := 853) (by decide +kernel), List.mem_of_getElem? (i := 854) (by decide +kernel)⟩
theorem lw_p39 : lw_okq (⟨"FerryForAloneModel", "says", "(I)I"⟩, 32) := ⟨⟨by decide +kernel, by decide +kernel⟩, List.mem_of_getElem? (i := 663) (by decide +kernel), List.mem_of_getElem? (i := 860) (by decide +kernel), List.mem_of_getElem? (i := 861) (by decide +kernel)⟩
theorem lw_p40 : lw_okq (⟨"FerryForAloneModel", "likedOf", "(I)I"⟩, 32) := ⟨⟨by decide +kernel, by decide +kernel⟩, List.mem_of_getElem? (i := 663) (by decide +kernel), List.mem_of_getElem? (i := 870) (by decide +kernel), List.mem_of_getElem? (i := 871) (by decide +kernel)⟩
theorem lw_p41 : lw_okq (⟨"FerryForAloneModel", "aloneSet", "()I"⟩, 32) := ⟨⟨by decide +kernel, by decide +kernel⟩, List.mem_of_getElem? (i := 663) (by decide +kernel), List.mem_of_getElem? (i := 874) (by decide +kernel), List.mem_of_getElem? (i := 875) (by decide +kernel)⟩
theorem lw_p42 : lw_okq (⟨"FerryForAloneModel", "overSet", "()I"⟩, 32) := ⟨⟨by decide +kernel, by decide +kernel⟩, List.mem_of_getElem? (i := 663) (by decide +kernel), List.mem_of_getElem? (i := 878) (by decide +kernel), List.mem_of_getElem? (i := 879) (by decide +kernel)⟩
theorem lw_p43 : lw_okq (⟨"FerryForAloneModel", "isOver", "(I)Z"⟩, 32) := ⟨⟨by decide +kernel, by decide +kernel⟩, List.mem_of_getElem? (i := 663) (by decide +kernel), List.mem_of_getElem? (i := 882) (by decide +kernel), List.mem_of_getElem? (i := 883) (by decide +kernel)⟩
theorem lw_p44 : lw_okq (⟨"FerryForAloneModel", "isOne", "(I)Z"⟩, 32) := ⟨⟨by decide +kernel, by decide +kernel⟩, List.mem_of_getElem? (i := 663) (by decide +kernel), List.mem_of_getElem? (i := 902) (by decide +kernel), List.mem_of_getElem? (i := 903) (by decide +kernel)⟩
theorem lw_p45 : lw_okq (⟨"FerryForAloneModel", "walksOf", "(I)I"⟩, 32) := ⟨⟨by decide +kernel, by decide +kernel⟩, List.mem_of_getElem? (i := 663) (by decide +kernel), List.mem_of_getElem? (i := 918) (by decide +kernel), List.mem_of_getElem? (i := 919) (by decide +kernel)⟩
theorem lw_p46 : lw_okq (⟨"FerryForAloneModel", "hourOf", "()I"⟩, 32) := ⟨⟨by decide +kernel, by decide +kernel⟩, List.mem_of_getElem? (i := 663) (by decide +kernel), List.mem_of_getElem? (i := 926) (by decide +kernel), List.mem_of_getElem? (i := 927) (by decide +kernel)⟩
theorem lw_p47 : lw_okq (⟨"FerryForAloneModel", "fetches", "(I)V"⟩, 32) := ⟨⟨by decide +kernel, by decide +kernel⟩, List.mem_of_getElem? (i := 663) (by decide +kernel), List.mem_of_getElem? (i := 930) (by decide +kernel), List.mem_of_getElem? (i := 931) (by decide +kernel)⟩
def lw_privs_3 : List (MethodName × Nat) := [(⟨"FerryForAloneModel", "isAlone", "(I)Z"⟩, 32), (⟨"FerryForAloneModel", "isSeen", "(I)Z"⟩, 32), (⟨"FerryForAloneModel", "isAt", "(I)Z"⟩, 32), (⟨"FerryForAloneModel", "farOf", "(I)I"⟩, 32), (⟨"FerryForAloneModel", "gapOf", "(I)I"⟩, 32), (⟨"FerryForAloneModel", "asksOf", "(II)I"⟩, 32), (⟨"FerryForAloneModel", "seenSet", "()I"⟩, 32), (⟨"FerryForAloneModel", "says", "(I)I"⟩, 32), (⟨"FerryForAloneModel", "likedOf", "(I)I"⟩, 32), (⟨"FerryForAloneModel", "aloneSet", "()I"⟩, 32), (⟨"FerryForAloneModel", "overSet", "()I"⟩, 32), (⟨"FerryForAloneModel", "isOver", "(I)Z"⟩, 32), (⟨"FerryForAloneModel", "isOne", "(I)Z"⟩, 32), (⟨"FerryForAloneModel", "walksOf", "(I)I"⟩, 32), (⟨"FerryForAloneModel", "hourOf", "()I"⟩, 32), (⟨"FerryForAloneModel", "fetches", "(I)V"⟩, 32)]
theorem lw_r3 : ∀ q ∈ lw_privs_3, lw_okq q := List.forall_mem_cons.mpr ⟨lw_p32, List.forall_mem_cons.mpr ⟨lw_p33, List.forall_mem_cons.mpr ⟨lw_p34, List.forall_mem_cons.mpr ⟨lw_p35, List.forall_mem_cons.mpr ⟨lw_p36, List.forall_mem_cons.mpr ⟨lw_p37, List.forall_mem_cons.mpr ⟨lw_p38, List.forall_mem_cons.mpr ⟨lw_p39, List.forall_mem_cons.mpr ⟨lw_p40, List.forall_mem_cons.mpr ⟨lw_p41, List.forall_mem_cons.mpr ⟨lw_p42, List.forall_mem_cons.mpr ⟨lw_p43, List.forall_mem_cons.mpr ⟨lw_p44, List.forall_mem_cons.mpr ⟨lw_p45, List.forall_mem_cons.mpr ⟨lw_p46, List.forall_mem_cons.mpr ⟨lw_p47, fun _ h => absurd h List.not_mem_nil⟩⟩⟩⟩⟩⟩⟩⟩⟩⟩⟩⟩⟩⟩⟩⟩
theorem lw_p48 : lw_okq (⟨"FerryForAloneModel", "keeps", "()V"⟩, 32) := ⟨⟨by decide +kernel, by decide +kernel⟩, List.mem_of_getElem? (i := 663) (by decide +kernel), List.mem_of_getElem? (i := 942) (by decide +kernel), List.mem_of_getElem? (i := 943) (by decide +kernel)⟩
theorem lw_p49 : lw_okq (⟨"FerryForAloneModel", "goes", "(I)I"⟩, 32) := ⟨⟨by decide +kernel, by decide +kernel⟩, List.mem_of_getElem? (i := 663) (by decide +kernel), List.mem_of_getElem? (i := 946) (by decide +kernel), List.mem_of_getElem? (i := 947) (by decide +kernel)⟩
theorem lw_p50 : lw_okq (⟨"FerryForAloneModel", "lays", "()V"⟩, 32) := ⟨⟨by decide +kernel, by decide +kernel⟩, List.mem_of_getElem? (i := 663) (by decide +kernel), List.mem_of_getElem? (i := 950) (by decide +kernel), List.mem_of_getElem? (i := 951) (by decide +kernel)⟩
theorem lw_p51 : lw_okq (⟨"FerryForAloneModel", "firstTime", "(II)I"⟩, 32) := ⟨⟨by decide +kernel, by decide +kernel⟩, List.mem_of_getElem? (i := 663) (by decide +kernel), List.mem_of_getElem? (i := 958) (by decide +kernel), List.mem_of_getElem? (i := 959) (by decide +kernel)⟩
theorem lw_p52 : lw_okq (⟨"FerryForAloneModel", "isNow", "(II)Z"⟩, 32) := ⟨⟨by decide +kernel, by decide +kernel⟩, List.mem_of_getElem? (i := 663) (by decide +kernel), List.mem_of_getElem? (i := 962) (by decide +kernel), List.mem_of_getElem? (i := 963) (by decide +kernel)⟩
theorem lw_p53 : lw_okq (⟨"FerryForAloneModel", "fetchedIn", "(I)I"⟩, 32) := ⟨⟨by decide +kernel, by decide +kernel⟩, List.mem_of_getElem? (i := 663) (by decide +kernel), List.mem_of_getElem? (i := 970) (by decide +kernel), List.mem_of_getElem? (i := 971) (by decide +kernel)⟩
theorem lw_p54 : lw_okq (⟨"FerryForAloneModel", "areAllAlone", "(II)Z"⟩, 32) := ⟨⟨by decide +kernel, by decide +kernel⟩, List.mem_of_getElem? (i := 663) (by decide +kernel), List.mem_of_getElem? (i := 986) (by decide +kernel), List.mem_of_getElem? (i := 987) (by decide +kernel)⟩
theorem lw_p55 : lw_okq (⟨"FerryForAloneModel", "isBetween", "(II)Z"⟩, 32) := ⟨⟨by decide +kernel, by decide +kernel⟩, List.mem_of_getElem? (i := 663) (by decide +kernel), List.mem_of_getElem? (i := 994) (by decide +kernel), List.mem_of_getElem? (i := 995) (by decide +kernel)⟩
theorem lw_p56 : lw_okq (⟨"FerryForAloneModel", "sheetWrong", "(I)I"⟩, 32) := ⟨⟨by decide +kernel, by decide +kernel⟩, List.mem_of_getElem? (i := 663) (by decide +kernel), List.mem_of_getElem? (i := 1010) (by decide +kernel), List.mem_of_getElem? (i := 1011) (by decide +kernel)⟩
theorem lw_p57 : lw_okq (⟨"FerryForAloneModel", "unlike", "(I)I"⟩, 32) := ⟨⟨by decide +kernel, by decide +kernel⟩, List.mem_of_getElem? (i := 663) (by decide +kernel), List.mem_of_getElem? (i := 1014) (by decide +kernel), List.mem_of_getElem? (i := 1015) (by decide +kernel)⟩
theorem lw_p58 : lw_okq (⟨"FerryForAloneModel", "gulls", "(I)I"⟩, 32) := ⟨⟨by decide +kernel, by decide +kernel⟩, List.mem_of_getElem? (i := 663) (by decide +kernel), List.mem_of_getElem? (i := 1047) (by decide +kernel), List.mem_of_getElem? (i := 1048) (by decide +kernel)⟩
def lw_privs_4 : List (MethodName × Nat) := [(⟨"FerryForAloneModel", "keeps", "()V"⟩, 32), (⟨"FerryForAloneModel", "goes", "(I)I"⟩, 32), (⟨"FerryForAloneModel", "lays", "()V"⟩, 32), (⟨"FerryForAloneModel", "firstTime", "(II)I"⟩, 32), (⟨"FerryForAloneModel", "isNow", "(II)Z"⟩, 32), (⟨"FerryForAloneModel", "fetchedIn", "(I)I"⟩, 32), (⟨"FerryForAloneModel", "areAllAlone", "(II)Z"⟩, 32), (⟨"FerryForAloneModel", "isBetween", "(II)Z"⟩, 32), (⟨"FerryForAloneModel", "sheetWrong", "(I)I"⟩, 32), (⟨"FerryForAloneModel", "unlike", "(I)I"⟩, 32), (⟨"FerryForAloneModel", "gulls", "(I)I"⟩, 32)]
theorem lw_r4 : ∀ q ∈ lw_privs_4, lw_okq q := List.forall_mem_cons.mpr ⟨lw_p48, List.forall_mem_cons.mpr ⟨lw_p49, List.forall_mem_cons.mpr ⟨lw_p50, List.forall_mem_cons.mpr ⟨lw_p51, List.forall_mem_cons.mpr ⟨lw_p52, List.forall_mem_cons.mpr ⟨lw_p53, List.forall_mem_cons.mpr ⟨lw_p54, List.forall_mem_cons.mpr ⟨lw_p55, List.forall_mem_cons.mpr ⟨lw_p56, List.forall_mem_cons.mpr ⟨lw_p57, List.forall_mem_cons.mpr ⟨lw_p58, fun _ h => absurd h List.not_mem_nil⟩⟩⟩⟩⟩⟩⟩⟩⟩⟩⟩
def lw_privs : List (MethodName × Nat) := lw_privs_1 ++ (lw_privs_2 ++ (lw_privs_3 ++ (lw_privs_4)))
def lw_tbl : List Cond := k2_sels lw_privs ++ tables_1
theorem lw_privs_ok : ∀ q ∈ lw_privs, lw_okq q := by
  show ∀ q ∈ lw_privs_1 ++ (lw_privs_2 ++ (lw_privs_3 ++ (lw_privs_4))), lw_okq q
  exact List.forall_mem_append.mpr ⟨lw_r1, List.forall_mem_append.mpr ⟨lw_r2, List.forall_mem_append.mpr ⟨lw_r3, lw_r4⟩⟩⟩
-- ===== end of PART A =====
/-! NAMES: classes, fields -/
def qR0 : String := "FerryForAlone$Reader"
def qT0 : u_T := fun k => match k with
  | 0 => ("FerryForAlone$Reader", "tape", "[I", true)
  | 1 => ("FerryForAlone$Reader", "texts", "LFerryForAlone$Texts;", true)
  | 2 => ("FerryForAlone$Reader", "size", "I", false)
  | 3 => ("FerryForAlone$Reader", "next", "I", false)
  | 4 => ("FerryForAlone$Reader", "start", "I", false)
  | 5 => ("FerryForAlone$Reader", "token", "I", false)
  | 6 => ("FerryForAlone$Reader", "number", "I", false)
  | 7 => ("FerryForAlone$Reader", "fault", "I", false)
  | _ => ("FerryForAlone$Reader", "written", "I", false)
def qy0 : Nat → FieldType := fun k => match k with
  | 0 => .array .int
  | 1 => .object "FerryForAlone$Texts"
  | 2 => .int
  | 3 => .int
  | 4 => .int
  | 5 => .int
  | 6 => .int
  | 7 => .int
  | _ => .int
def qR1 : String := "FerryForAlone$Sheets"
def qT1 : u_T := fun k => match k with
  | 0 => ("FerryForAlone$Sheets", "cells", "[I", true)
  | 1 => ("FerryForAlone$Sheets", "sort", "[I", true)
  | _ => ("FerryForAlone$Sheets", "size", "[I", true)
def qy1 : Nat → FieldType := fun k => match k with
  | 0 => .array .int
  | 1 => .array .int
  | _ => .array .int
def qR2 : String := "FerryForAlone$Strand"
def qT2 : u_T := fun k => match k with
  | 0 => ("FerryForAlone$Strand", "texts", "LFerryForAlone$Texts;", true)
  | 1 => ("FerryForAlone$Strand", "kind", "[I", true)
  | 2 => ("FerryForAlone$Strand", "more", "[I", true)
  | 3 => ("FerryForAlone$Strand", "place", "[I", true)
  | 4 => ("FerryForAlone$Strand", "hidden", "[Z", true)
  | 5 => ("FerryForAlone$Strand", "waited", "[I", true)
  | 6 => ("FerryForAlone$Strand", "people", "I", false)
  | 7 => ("FerryForAlone$Strand", "hour", "I", false)
  | 8 => ("FerryForAlone$Strand", "out", "I", false)
  | 9 => ("FerryForAlone$Strand", "boat", "I", false)
  | 10 => ("FerryForAlone$Strand", "fetched", "I", false)
  | _ => ("FerryForAlone$Strand", "law", "I", false)
def qy2 : Nat → FieldType := fun k => match k with
  | 0 => .object "FerryForAlone$Texts"
  | 1 => .array .int
  | 2 => .array .int
  | 3 => .array .int
  | 4 => .array .boolean
  | 5 => .array .int
  | 6 => .int
  | 7 => .int
  | 8 => .int
  | 9 => .int
  | 10 => .int
  | _ => .int
def qR3 : String := "FerryForAlone$Texts"
def qT3 : u_T := fun k => match k with
  | 0 => ("FerryForAlone$Texts", "code", "[I", true)
  | 1 => ("FerryForAlone$Texts", "from", "[I", true)
  | 2 => ("FerryForAlone$Texts", "to", "[I", true)
  | 3 => ("FerryForAlone$Texts", "pile", "[I", true)
  | _ => ("FerryForAlone$Texts", "known", "I", false)
def qy3 : Nat → FieldType := fun k => match k with
  | 0 => .array .int
  | 1 => .array .int
  | 2 => .array .int
  | 3 => .array .int
  | _ => .int
def qR4 : String := "FerryForAlone"
def qT4 : u_T := fun k => match k with
  | 0 => ("FerryForAlone", "tape", "[I", true)
  | 1 => ("FerryForAlone", "texts", "LFerryForAlone$Texts;", true)
  | 2 => ("FerryForAlone", "reader", "LFerryForAlone$Reader;", true)
  | 3 => ("FerryForAlone", "now", "LFerryForAlone$Strand;", true)
  | 4 => ("FerryForAlone", "thought", "LFerryForAlone$Strand;", true)
  | 5 => ("FerryForAlone", "kept", "LFerryForAlone$Strand;", true)
  | 6 => ("FerryForAlone", "sheets", "LFerryForAlone$Sheets;", true)
  | 7 => ("FerryForAlone", "taped", "I", false)
  | _ => ("FerryForAlone", "imageIsKept", "Z", false)
def qy4 : Nat → FieldType := fun k => match k with
  | 0 => .array .int
  | 1 => .object "FerryForAlone$Texts"
  | 2 => .object "FerryForAlone$Reader"
  | 3 => .object "FerryForAlone$Strand"
  | 4 => .object "FerryForAlone$Strand"
  | 5 => .object "FerryForAlone$Strand"
  | 6 => .object "FerryForAlone$Sheets"
  | 7 => .int
  | _ => .boolean
def qR5 : String := "FerryForAloneModel"
def qT5 : u_T := fun k => match k with
  | 0 => ("FerryForAloneModel", "people", "I", false)
  | 1 => ("FerryForAloneModel", "kind", "[I", true)
  | 2 => ("FerryForAloneModel", "moreOf", "[I", true)
  | 3 => ("FerryForAloneModel", "rows", "[I", true)
  | 4 => ("FerryForAloneModel", "boat", "[I", true)
  | 5 => ("FerryForAloneModel", "tape", "[I", true)
  | 6 => ("FerryForAloneModel", "taped", "I", false)
  | 7 => ("FerryForAloneModel", "codes", "[I", true)
  | 8 => ("FerryForAloneModel", "starts", "[I", true)
  | 9 => ("FerryForAloneModel", "texts", "I", false)
  | 10 => ("FerryForAloneModel", "rule", "I", false)
  | 11 => ("FerryForAloneModel", "hasImage", "Z", false)
  | 12 => ("FerryForAloneModel", "imageRows", "[I", true)
  | 13 => ("FerryForAloneModel", "imageHeld", "[I", true)
  | 14 => ("FerryForAloneModel", "sheetSort", "[I", true)
  | 15 => ("FerryForAloneModel", "sheetSize", "[I", true)
  | 16 => ("FerryForAloneModel", "cells", "[I", true)
  | 17 => ("FerryForAloneModel", "law", "[I", true)
  | 18 => ("FerryForAloneModel", "at", "I", false)
  | 19 => ("FerryForAloneModel", "begun", "I", false)
  | 20 => ("FerryForAloneModel", "token", "I", false)
  | 21 => ("FerryForAloneModel", "value", "I", false)
  | 22 => ("FerryForAloneModel", "words", "[I", true)
  | 23 => ("FerryForAloneModel", "held", "[I", true)
  | 24 => ("FerryForAloneModel", "heldMany", "I", false)
  | 25 => ("FerryForAloneModel", "opens", "I", false)
  | 26 => ("FerryForAloneModel", "out", "I", false)
  | 27 => ("FerryForAloneModel", "stack", "[I", true)
  | 28 => ("FerryForAloneModel", "named", "[I", true)
  | 29 => ("FerryForAloneModel", "kept", "[I", true)
  | 30 => ("FerryForAloneModel", "fetchedDigits", "I", false)
  | _ => ("FerryForAloneModel", "overThen", "I", false)
def qy5 : Nat → FieldType := fun k => match k with
  | 0 => .int
  | 1 => .array .int
  | 2 => .array .int
  | 3 => .array .int
  | 4 => .array .int
  | 5 => .array .int
  | 6 => .int
  | 7 => .array .int
  | 8 => .array .int
  | 9 => .int
  | 10 => .int
  | 11 => .boolean
  | 12 => .array .int
  | 13 => .array .int
  | 14 => .array .int
  | 15 => .array .int
  | 16 => .array .int
  | 17 => .array .int
  | 18 => .int
  | 19 => .int
  | 20 => .int
  | 21 => .int
  | 22 => .array .int
  | 23 => .array .int
  | 24 => .int
  | 25 => .int
  | 26 => .int
  | 27 => .array .int
  | 28 => .array .int
  | 29 => .array .int
  | 30 => .int
  | _ => .int
abbrev qcl : List vw_C := [(qR0, qT0, 9), (qR1, qT1, 3), (qR2, qT2, 12), (qR3, qT3, 5), (qR4, qT4, 9), (qR5, qT5, 32)]
/-! CELLS: objects (their kind; of each field: none: a number, some r: the cell to which it refers), rows (of booleans or of ints; their length) -/
abbrev Cs : Type := (Nat × List (Option Nat)) ⊕ (Bool × Nat)
def nth {α : Type} : List α → Nat → Option α
  | [], _ => none
  | a :: _, 0 => some a
  | _ :: l, n + 1 => nth l n
def cellsL : List Cs := [.inl (4, [some 1, some 2, some 7, some 12, some 18, some 24, some 8, none, none]),
  .inr (false, 160),
  .inl (3, [some 3, some 4, some 5, some 6, none]),
  .inr (false, 960),
  .inr (false, 18),
  .inr (false, 18),
  .inr (false, 160),
  .inl (0, [some 1, some 2, none, none, none, none, none, none, none]),
  .inl (1, [some 9, some 10, some 11]),
  .inr (false, 160),
  .inr (false, 4),
  .inr (false, 4),
  .inl (2, [some 2, some 13, some 14, some 15, some 16, some 17, none, none, none, none, none, none]),
  .inr (false, 6),
  .inr (false, 6),
  .inr (false, 6),
  .inr (true, 6),
  .inr (false, 6),
  .inl (2, [some 2, some 19, some 20, some 21, some 22, some 23, none, none, none, none, none, none]),
  .inr (false, 6),
  .inr (false, 6),
  .inr (false, 6),
  .inr (true, 6),
  .inr (false, 6),
  .inl (2, [some 2, some 25, some 26, some 27, some 28, some 29, none, none, none, none, none, none]),
  .inr (false, 6),
  .inr (false, 6),
  .inr (false, 6),
  .inr (true, 6),
  .inr (false, 6),
  .inl (5, [none, some 31, some 32, some 33, some 34, some 35, none, some 36, some 37, none, none, none, some 38, some 39, some 40, some 41, some 42, some 43, none, none, none, none, some 44, some 45, none, none, none, some 46, some 47, some 48, none, none]),
  .inr (false, 6),
  .inr (false, 6),
  .inr (false, 18),
  .inr (false, 4),
  .inr (false, 160),
  .inr (false, 1200),
  .inr (false, 24),
  .inr (false, 22),
  .inr (false, 2),
  .inr (false, 4),
  .inr (false, 4),
  .inr (false, 160),
  .inr (false, 33),
  .inr (false, 96),
  .inr (false, 200),
  .inr (false, 200),
  .inr (false, 6),
  .inr (false, 22)]
def ShF (c : Nat) : Option Cs := nth cellsL c
def ShM (c : Nat) : Option Cs := if c < 30 then none else nth cellsL c
/-! INSTRUCTIONS: as decoded, its place among the bytes, and what its numbers stand for -/
abbrev RI : Type := Instr × Nat × Nat × Nat × Nat × Nat × Nat × Nat × Int32 × Int64 × List (Int32 × Nat)
abbrev r0 (I : Instr) (q : Nat) : RI := (I, q, 0, 0, 0, 0, 0, 0, 0, 0, [])
abbrev ra (I : Instr) (q a : Nat) : RI := (I, q, a, 0, 0, 0, 0, 0, 0, 0, [])
abbrev rv (I : Instr) (q p : Nat) (v : Int32) : RI := (I, q, 0, 0, 0, 0, 0, p, v, 0, [])
abbrev rs (I : Instr) (q a b p : Nat) : RI := (I, q, a, b, 0, 0, 0, p, 0, 0, [])
abbrev rg (I : Instr) (q a p : Nat) (v : Int32) : RI := (I, q, a, 0, 0, 0, 0, p, v, 0, [])
abbrev rw (I : Instr) (q p : Nat) (w : Int64) : RI := (I, q, 0, 0, 0, 0, 0, p, 0, w, [])
abbrev rf (I : Instr) (q a b d p : Nat) : RI := (I, q, a, b, d, 0, 0, p, 0, 0, [])
abbrev ri (I : Instr) (q a b d e f p : Nat) : RI := (I, q, a, b, d, e, f, p, 0, 0, [])
abbrev rj (I : Instr) (q a b d e f p : Nat) : RI := (I, q, a, b, d, e, f, p, 0, 0, [(0, 0)])
abbrev rt (I : Instr) (q a : Nat) (ts : List (Int32 × Nat)) : RI := (I, q, a, 0, 0, 0, 0, 0, 0, 0, ts)
abbrev nJ6_bitCount : Nat := 0
abbrev nJ0_length : Nat := 1
abbrev nJ0_coder : Nat := 2
abbrev nJ0_isLatin1 : Nat := 3
abbrev nJ0_charAt : Nat := 4
abbrev nJ0_checkIndex : Nat := 5
abbrev nJ1_charAt : Nat := 6
abbrev nJ3_checkIndex : Nat := 7
abbrev nD_faultOf : Nat := 8
abbrev nD_fail : Nat := 9
abbrev nD_expect : Nat := 10
abbrev nD_write : Nat := 11
abbrev nD_either : Nat := 12
abbrev nD_both : Nat := 13
abbrev nD_negation : Nat := 14
abbrev nD_comparison : Nat := 15
abbrev nD_sum : Nat := 16
abbrev nD_term : Nat := 17
abbrev nD_one : Nat := 18
abbrev nD_take : Nat := 19
abbrev nD_takeWord : Nat := 20
abbrev nD_isWord : Nat := 21
abbrev nD_takeNumber : Nat := 22
abbrev nD_isLetter : Nat := 23
abbrev nD_isDigit : Nat := 24
abbrev nD_signOf : Nat := 25
abbrev nH_has : Nat := 26
abbrev nH_holds : Nat := 27
abbrev nH_renew : Nat := 28
abbrev nH_read : Nat := 29
abbrev nH_write : Nat := 30
abbrev nH_carry : Nat := 31
abbrev nS_becomes : Nat := 32
abbrev nS_has : Nat := 33
abbrev nS_welcome : Nat := 34
abbrev nS_isSeen : Nat := 35
abbrev nS_isOver : Nat := 36
abbrev nS_isAlone : Nat := 37
abbrev nS_farFrom : Nat := 38
abbrev nS_areNeighbours : Nat := 39
abbrev nS_gapAbout : Nat := 40
abbrev nS_likedHow : Nat := 41
abbrev nS_walksFar : Nat := 42
abbrev nS_choice : Nat := 43
abbrev nS_goOn : Nat := 44
abbrev nS_passHour : Nat := 45
abbrev nS_fetch : Nat := 46
abbrev nS_aloneBits : Nat := 47
abbrev nS_seenBits : Nat := 48
abbrev nS_overBits : Nat := 49
abbrev nS_valueOf : Nat := 50
abbrev nT_addFirstLaw : Nat := 51
abbrev nT_says : Nat := 52
abbrev nT_joined : Nat := 53
abbrev nF_count : Nat := 54
abbrev nF_bay : Nat := 55
abbrev nF_ferry : Nat := 56
abbrev nF_feed : Nat := 57
abbrev nF_text : Nat := 58
abbrev nF_force : Nat := 59
abbrev nF_asks : Nat := 60
abbrev nF_traveller : Nat := 61
abbrev nF_put : Nat := 62
abbrev nF_told : Nat := 63
abbrev nF_hour : Nat := 64
abbrev nF_walk : Nat := 65
abbrev nF_run : Nat := 66
abbrev nF_when : Nat := 67
abbrev nF_hide : Nat := 68
abbrev nF_stand : Nat := 69
abbrev nF_apart : Nat := 70
abbrev nF_breakwater : Nat := 71
abbrev nF_gap : Nat := 72
abbrev nF_middle : Nat := 73
abbrev nF_judge : Nat := 74
abbrev nF_kinds : Nat := 75
abbrev nF_places : Nat := 76
abbrev nF_turned : Nat := 77
abbrev nF_waits : Nat := 78
abbrev nF_laws : Nat := 79
abbrev nF_film : Nat := 80
abbrev nF_drawn : Nat := 81
abbrev nF_odds : Nat := 82
abbrev nF_image : Nat := 83
abbrev nF_back : Nat := 84
abbrev nF_sheet : Nat := 85
abbrev nF_cell : Nat := 86
abbrev nF_copy : Nat := 87
abbrev nF_peopleBy : Nat := 88
abbrev nF_taken : Nat := 89
abbrev nF_within : Nat := 90
abbrev nF_isByte : Nat := 91
abbrev nF_bit : Nat := 92
abbrev nF_tapeOne : Nat := 93
abbrev nF_isOfKind : Nat := 94
abbrev nF_fetchedInThought : Nat := 95
abbrev nF_hoursTillOver : Nat := 96
abbrev nF_wouldBeAlone : Nat := 97
abbrev nF_othersAloneWithout : Nat := 98
abbrev nF_refusalToJudge : Nat := 99
abbrev nF_firstOtherwise : Nat := 100
abbrev nF_fetchedAmongGulls : Nat := 101
abbrev nF_lotAfter : Nat := 102
abbrev nF_fraction : Nat := 103
abbrev nM_in : Nat := 104
abbrev nM_within : Nat := 105
abbrev nM_onesOf : Nat := 106
abbrev nM_isOne : Nat := 107
abbrev nM_isAt : Nat := 108
abbrev nM_isSeen : Nat := 109
abbrev nM_seenSet : Nat := 110
abbrev nM_isOver : Nat := 111
abbrev nM_overSet : Nat := 112
abbrev nM_count : Nat := 113
abbrev nM_bay : Nat := 114
abbrev nM_ferry : Nat := 115
abbrev nM_isByte : Nat := 116
abbrev nM_feed : Nat := 117
abbrev nM_wordFrom : Nat := 118
abbrev nM_next : Nat := 119
abbrev nM_rank : Nat := 120
abbrev nM_puts : Nat := 121
abbrev nM_unwinds : Nat := 122
abbrev nM_holds : Nat := 123
abbrev nM_opensOne : Nat := 124
abbrev nM_between : Nat := 125
abbrev nM_signOf : Nat := 126
abbrev nM_eRead : Nat := 127
abbrev nM_text : Nat := 128
abbrev nM_two : Nat := 129
abbrev nM_says : Nat := 130
abbrev nM_force : Nat := 131
abbrev nM_asksOf : Nat := 132
abbrev nM_asks : Nat := 133
abbrev nM_traveller : Nat := 134
abbrev nM_put : Nat := 135
abbrev nM_gapOf : Nat := 136
abbrev nM_likedOf : Nat := 137
abbrev nM_walksOf : Nat := 138
abbrev nM_farOf : Nat := 139
abbrev nM_isAlone : Nat := 140
abbrev nM_aloneSet : Nat := 141
abbrev nM_choice : Nat := 142
abbrev nM_told : Nat := 143
abbrev nM_fetches : Nat := 144
abbrev nM_hourOf : Nat := 145
abbrev nM_hour : Nat := 146
abbrev nM_walk : Nat := 147
abbrev nM_keeps : Nat := 148
abbrev nM_lays : Nat := 149
abbrev nM_goes : Nat := 150
abbrev nM_run : Nat := 151
abbrev nM_isNow : Nat := 152
abbrev nM_firstTime : Nat := 153
abbrev nM_when : Nat := 154
abbrev nM_fetchedIn : Nat := 155
abbrev nM_hide : Nat := 156
abbrev nM_stand : Nat := 157
abbrev nM_apart : Nat := 158
abbrev nM_areAllAlone : Nat := 159
abbrev nM_breakwater : Nat := 160
abbrev nM_isBetween : Nat := 161
abbrev nM_gap : Nat := 162
abbrev nM_lowest : Nat := 163
abbrev nM_middle : Nat := 164
abbrev nM_sheetWrong : Nat := 165
abbrev nM_unlike : Nat := 166
abbrev nM_judge : Nat := 167
abbrev nM_kinds : Nat := 168
abbrev nM_places : Nat := 169
abbrev nM_turned : Nat := 170
abbrev nM_waits : Nat := 171
abbrev nM_laws : Nat := 172
abbrev nM_film : Nat := 173
abbrev nM_gulls : Nat := 174
abbrev nM_drawn : Nat := 175
abbrev nM_odds : Nat := 176
abbrev nM_image : Nat := 177
abbrev nM_back : Nat := 178
abbrev nM_sheet : Nat := 179
abbrev nM_cell : Nat := 180
abbrev nM_copy : Nat := 181
abbrev nM_peopleBy : Nat := 182
abbrev nM_isUnder : Nat := 183
abbrev nM_taken : Nat := 184
abbrev nL_law : Nat := 185
def mt0_0 : List RI := [r0 (.iload_n 0) 0, r0 (.iload_n 0) 1, rv (.iconst 1) 2 0 1, r0 .iushr 3, rv (.ldc_w 265) 4 582 1431655765, r0 .iand 7, r0 .isub 8, r0 (.istore_n 0) 9, r0 (.iload_n 0) 10, rv (.ldc_w 266) 11 583 858993459, r0 .iand 14, r0 (.iload_n 0) 15, rv (.iconst 2) 16 0 2, r0 .iushr 17, rv (.ldc_w 266) 18 583 858993459, r0 .iand 21, r0 .iadd 22, r0 (.istore_n 0) 23, r0 (.iload_n 0) 24, r0 (.iload_n 0) 25, rv (.iconst 4) 26 0 4, r0 .iushr 27, r0 .iadd 28, rv (.ldc_w 267) 29 584 252645135, r0 .iand 32, r0 (.istore_n 0) 33, r0 (.iload_n 0) 34, r0 (.iload_n 0) 35, rv (.bipush 8) 36 0 8, r0 .iushr 38, r0 .iadd 39, r0 (.istore_n 0) 40]
def mt0_1 : List RI := [r0 (.iload_n 0) 41, r0 (.iload_n 0) 42, rv (.bipush 16) 43 0 16, r0 .iushr 45, r0 .iadd 46, r0 (.istore_n 0) 47, r0 (.iload_n 0) 48, rv (.bipush 63) 49 0 63, r0 .iand 51, r0 .ireturn 52]
def mt0 : List (List RI) := [mt0_0, mt0_1]
def mt1_0 : List RI := [r0 (.aload_n 0) 0, rf (.getfield 9) 1 50 0 0 1149, ra .arraylength 4 2, r0 (.aload_n 0) 5, ri (.invokevirtual 335) 6 2 1 0 1 50 360, r0 .ishr 9, r0 .ireturn 10]
def mt1 : List (List RI) := [mt1_0]
def mt2_0 : List RI := [rg (.getstatic 38) 0 1 364 1, ra (.ifCond .eq 10) 3 5, r0 (.aload_n 0) 6, rf (.getfield 15) 7 51 0 0 1150, ra (.goto 4) 10 6, rv (.iconst 1) 13 0 1, ra .ireturn 14 2]
def mt2 : List (List RI) := [mt2_0]
def mt3_0 : List RI := [rg (.getstatic 38) 0 1 364 1, ra (.ifCond .eq 14) 3 7, r0 (.aload_n 0) 6, rf (.getfield 15) 7 51 0 0 1150, ra (.ifCond .ne 7) 10 7, rv (.iconst 1) 13 0 1, ra (.goto 4) 14 8, rv (.iconst 0) 17 0 0, ra .ireturn 18 1]
def mt3 : List (List RI) := [mt3_0]
def mt4_0 : List RI := [r0 (.aload_n 0) 0, ri (.invokevirtual 492) 1 3 1 0 1 50 370, ra (.ifCond .eq 12) 4 8, r0 (.aload_n 0) 7, rf (.getfield 9) 8 50 0 0 1149, r0 (.iload_n 1) 11, ri (.invokestatic 495) 12 6 2 1 1 50 374, ra .ireturn 15 3, r0 (.aload_n 0) 16, rf (.getfield 9) 17 50 0 0 1149, r0 (.iload_n 1) 20, ri (.invokestatic 498) 21 255 0 9 0 0 0, ra .ireturn 24 3]
def mt4 : List (List RI) := [mt4_0]
def mt5_0 : List RI := [r0 (.iload_n 0) 0, r0 (.iload_n 1) 1, rg (.getstatic 1053) 2 2 380 0, ri (.invokestatic 1059) 5 7 3 1 1 50 382, r0 .pop 8, r0 .return_ 9]
def mt5 : List (List RI) := [mt5_0]
def mt6_0 : List RI := [r0 (.iload_n 1) 0, r0 (.aload_n 0) 1, ra .arraylength 2 2, ri (.invokestatic 9) 3 5 2 1 0 50 377, r0 (.aload_n 0) 6, r0 (.iload_n 1) 7, ra .baload 8 2, rv (.sipush 255) 9 0 255, r0 .iand 12, r0 .i2c 13, ra .ireturn 14 3]
def mt6 : List (List RI) := [mt6_0]
def mt7_0 : List RI := [r0 (.iload_n 0) 0, ra (.ifCond .lt 8) 1 5, r0 (.iload_n 0) 4, r0 (.iload_n 1) 5, ra (.if_icmp .lt 10) 6 10, r0 (.aload_n 2) 9, r0 (.iload_n 0) 10, r0 (.iload_n 1) 11, ri (.invokestatic 95) 12 255 0 9 0 0 0, r0 .athrow 15, r0 (.iload_n 0) 16, r0 .ireturn 17]
def mt7 : List (List RI) := [mt7_0]
def mt8_0 : List RI := [r0 (.aload_n 0) 0, r0 (.iload_n 1) 1, rv (.sipush 160) 2 0 160, ri (.invokestatic 41) 5 200 2 6 1 0 339, rf (.putfield 9) 8 0 2 0 117, r0 (.aload_n 0) 11, rv (.iconst 0) 12 0 0, rf (.putfield 15) 13 0 3 0 118, r0 (.aload_n 0) 16, rv (.iconst (-1)) 17 0 (-1), rf (.putfield 27) 18 0 7 0 122, r0 (.aload_n 0) 21, r0 (.aload_n 0) 22, rf (.getfield 37) 23 0 1 0 116, rf (.getfield 47) 26 3 4 0 95, rv (.sipush 160) 29 0 160, r0 .imul 32, rf (.putfield 30) 33 0 8 0 123, r0 (.aload_n 0) 36, ri (.invokevirtual 52) 37 19 1 0 0 0 340, rv (.iconst 0) 40 0 0, r0 (.istore_n 2) 41, r0 (.iload_n 2) 42, rv (.iconst 3) 43 0 3, ra (.if_icmp .ge 65) 44 60, r0 (.aload_n 0) 47, rf (.getfield 37) 48 0 1 0 116, rf (.getfield 47) 51 3 4 0 95, rv (.iconst 3) 54 0 3, r0 .imul 55, r0 (.iload_n 2) 56, r0 .iadd 57]
def mt8_1 : List RI := [r0 (.istore_n 3) 58, r0 (.aload_n 0) 59, rv (.bipush 10) 60 0 10, r0 (.iload_n 2) 62, r0 .iadd 63, ri (.invokevirtual 55) 64 10 2 0 0 0 425, r0 (.aload_n 0) 67, rf (.getfield 37) 68 0 1 0 116, rf (.getfield 59) 71 3 1 0 90, r0 (.iload_n 3) 74, r0 (.aload_n 0) 75, rf (.getfield 30) 76 0 8 0 123, r0 .iastore 79, r0 (.aload_n 0) 80, rv (.iconst 0) 81 0 0, ri (.invokevirtual 62) 82 12 2 0 0 0 433, r0 (.aload_n 0) 85, rf (.getfield 37) 86 0 1 0 116, rf (.getfield 65) 89 3 2 0 92, r0 (.iload_n 3) 92, r0 (.aload_n 0) 93, rf (.getfield 30) 94 0 8 0 123, r0 .iastore 97, r0 (.aload_n 0) 98, rv (.iconst 4) 99 0 4, ri (.invokevirtual 55) 100 10 2 0 0 0 425, rv (.iinc 2 1) 103 0 1, ra (.goto (-64)) 106 22, r0 (.aload_n 0) 109, rv (.iconst 5) 110 0 5, ri (.invokevirtual 55) 111 10 2 0 0 0 425, r0 (.aload_n 0) 114]
def mt8_2 : List RI := [rf (.getfield 27) 115 0 7 0 122, r0 .ireturn 118]
def mt8 : List (List RI) := [mt8_0, mt8_1, mt8_2]
def mt9_0 : List RI := [r0 (.aload_n 0) 0, rf (.getfield 27) 1 0 7 0 122, rv (.iconst (-1)) 4 0 (-1), ra (.if_icmp .ne 11) 5 8, r0 (.aload_n 0) 8, r0 (.aload_n 0) 9, rf (.getfield 18) 10 0 4 0 119, rf (.putfield 27) 13 0 7 0 122, r0 (.aload_n 0) 16, rv (.bipush 6) 17 0 6, rf (.putfield 21) 19 0 5 0 120, r0 .return_ 22]
def mt9 : List (List RI) := [mt9_0]
def mt10_0 : List RI := [r0 (.aload_n 0) 0, rf (.getfield 21) 1 0 5 0 120, r0 (.iload_n 1) 4, ra (.if_icmp .ne 10) 5 7, r0 (.aload_n 0) 8, ri (.invokevirtual 52) 9 19 1 0 0 0 340, ra (.goto 7) 12 9, r0 (.aload_n 0) 15, ri (.invokevirtual 68) 16 9 1 0 0 0 429, r0 .return_ 19]
def mt10 : List (List RI) := [mt10_0]
def mt11_0 : List RI := [r0 (.aload_n 0) 0, rf (.getfield 30) 1 0 8 0 123, rv (.sipush 960) 4 0 960, ra (.if_icmp .ge 26) 7 17, r0 (.aload_n 0) 10, rf (.getfield 37) 11 0 1 0 116, rf (.getfield 71) 14 3 0 0 88, r0 (.aload_n 0) 17, rf (.getfield 30) 18 0 8 0 123, r0 (.iload_n 1) 21, r0 .iastore 22, r0 (.aload_n 0) 23, r0 .dup 24, rf (.getfield 30) 25 0 8 0 123, rv (.iconst 1) 28 0 1, r0 .iadd 29, rf (.putfield 30) 30 0 8 0 123, r0 .return_ 33]
def mt11 : List (List RI) := [mt11_0]
def mt12_0 : List RI := [r0 (.aload_n 0) 0, r0 (.iload_n 1) 1, ri (.invokevirtual 74) 2 13 2 0 0 0 437, rv (.iconst 0) 5 0 0, r0 (.istore_n 2) 6, r0 (.iload_n 2) 7, rv (.sipush 160) 8 0 160, ra (.if_icmp .ge 33) 11 22, r0 (.aload_n 0) 14, rf (.getfield 21) 15 0 5 0 120, rv (.bipush (-9)) 18 0 (-9), ra (.if_icmp .ne 24) 20 22, r0 (.aload_n 0) 23, ri (.invokevirtual 52) 24 19 1 0 0 0 340, r0 (.aload_n 0) 27, r0 (.iload_n 1) 28, ri (.invokevirtual 74) 29 13 2 0 0 0 437, r0 (.aload_n 0) 32, rv (.bipush (-9)) 33 0 (-9), ri (.invokevirtual 77) 35 11 2 0 0 0 461, rv (.iinc 2 1) 38 0 1, ra (.goto (-34)) 41 5, r0 .return_ 44]
def mt12 : List (List RI) := [mt12_0]
def mt13_0 : List RI := [r0 (.aload_n 0) 0, r0 (.iload_n 1) 1, ri (.invokevirtual 80) 2 14 2 0 0 0 441, rv (.iconst 0) 5 0 0, r0 (.istore_n 2) 6, r0 (.iload_n 2) 7, rv (.sipush 160) 8 0 160, ra (.if_icmp .ge 33) 11 22, r0 (.aload_n 0) 14, rf (.getfield 21) 15 0 5 0 120, rv (.bipush (-10)) 18 0 (-10), ra (.if_icmp .ne 24) 20 22, r0 (.aload_n 0) 23, ri (.invokevirtual 52) 24 19 1 0 0 0 340, r0 (.aload_n 0) 27, r0 (.iload_n 1) 28, ri (.invokevirtual 80) 29 14 2 0 0 0 441, r0 (.aload_n 0) 32, rv (.bipush (-10)) 33 0 (-10), ri (.invokevirtual 77) 35 11 2 0 0 0 461, rv (.iinc 2 1) 38 0 1, ra (.goto (-34)) 41 5, r0 .return_ 44]
def mt13 : List (List RI) := [mt13_0]
def mt14_0 : List RI := [r0 (.aload_n 0) 0, rf (.getfield 21) 1 0 5 0 120, rv (.bipush (-8)) 4 0 (-8), ra (.if_icmp .eq 11) 6 8, r0 (.aload_n 0) 9, r0 (.iload_n 1) 10, ri (.invokevirtual 83) 11 15 2 0 0 0 445, ra (.goto 32) 14 24, r0 (.iload_n 1) 17, rv (.iconst 5) 18 0 5, ra (.if_icmp .lt 10) 19 14, r0 (.aload_n 0) 22, ri (.invokevirtual 68) 23 9 1 0 0 0 429, ra (.goto 20) 26 24, r0 (.aload_n 0) 29, ri (.invokevirtual 52) 30 19 1 0 0 0 340, r0 (.aload_n 0) 33, r0 (.iload_n 1) 34, rv (.iconst 1) 35 0 1, r0 .iadd 36, rj (.invokevirtual 80) 37 14 2 0 0 0 441, r0 (.aload_n 0) 40, rv (.bipush (-8)) 41 0 (-8), ri (.invokevirtual 77) 43 11 2 0 0 0 461, r0 .return_ 46]
def mt14 : List (List RI) := [mt14_0]
def mt15_0 : List RI := [r0 (.aload_n 0) 0, r0 (.iload_n 1) 1, ri (.invokevirtual 86) 2 16 2 0 0 0 449, r0 (.aload_n 0) 5, rf (.getfield 21) 6 0 5 0 120, r0 (.istore_n 2) 9, r0 (.iload_n 2) 10, rv (.bipush (-11)) 11 0 (-11), ra (.if_icmp .eq 9) 13 12, r0 (.iload_n 2) 16, rv (.bipush (-12)) 17 0 (-12), ra (.if_icmp .ne 17) 19 20, r0 (.aload_n 0) 22, ri (.invokevirtual 52) 23 19 1 0 0 0 340, r0 (.aload_n 0) 26, r0 (.iload_n 1) 27, ri (.invokevirtual 86) 28 16 2 0 0 0 449, r0 (.aload_n 0) 31, r0 (.iload_n 2) 32, ri (.invokevirtual 77) 33 11 2 0 0 0 461, r0 .return_ 36]
def mt15 : List (List RI) := [mt15_0]
def mt16_0 : List RI := [r0 (.aload_n 0) 0, r0 (.iload_n 1) 1, ri (.invokevirtual 89) 2 17 2 0 0 0 453, rv (.iconst 0) 5 0 0, r0 (.istore_n 2) 6, r0 (.iload_n 2) 7, rv (.sipush 160) 8 0 160, ra (.if_icmp .ge 46) 11 29, r0 (.aload_n 0) 14, rf (.getfield 21) 15 0 5 0 120, rv (.bipush (-13)) 18 0 (-13), ra (.if_icmp .eq 12) 20 16, r0 (.aload_n 0) 23, rf (.getfield 21) 24 0 5 0 120, rv (.bipush (-14)) 27 0 (-14), ra (.if_icmp .ne 28) 29 29, r0 (.aload_n 0) 32, rf (.getfield 21) 33 0 5 0 120, r0 (.istore_n 3) 36, r0 (.aload_n 0) 37, ri (.invokevirtual 52) 38 19 1 0 0 0 340, r0 (.aload_n 0) 41, r0 (.iload_n 1) 42, ri (.invokevirtual 89) 43 17 2 0 0 0 453, r0 (.aload_n 0) 46, r0 (.iload_n 3) 47, ri (.invokevirtual 77) 48 11 2 0 0 0 461, rv (.iinc 2 1) 51 0 1, ra (.goto (-47)) 54 5, r0 .return_ 57]
def mt16 : List (List RI) := [mt16_0]
def mt17_0 : List RI := [r0 (.aload_n 0) 0, r0 (.iload_n 1) 1, ri (.invokevirtual 92) 2 18 2 0 0 0 457, rv (.iconst 0) 5 0 0, r0 (.istore_n 2) 6, r0 (.iload_n 2) 7, rv (.sipush 160) 8 0 160, ra (.if_icmp .ge 33) 11 22, r0 (.aload_n 0) 14, rf (.getfield 21) 15 0 5 0 120, rv (.bipush (-15)) 18 0 (-15), ra (.if_icmp .ne 24) 20 22, r0 (.aload_n 0) 23, ri (.invokevirtual 52) 24 19 1 0 0 0 340, r0 (.aload_n 0) 27, r0 (.iload_n 1) 28, ri (.invokevirtual 92) 29 18 2 0 0 0 457, r0 (.aload_n 0) 32, rv (.bipush (-15)) 33 0 (-15), ri (.invokevirtual 77) 35 11 2 0 0 0 461, rv (.iinc 2 1) 38 0 1, ra (.goto (-34)) 41 5, r0 .return_ 44]
def mt17 : List (List RI) := [mt17_0]
def mt18_0 : List RI := [r0 (.aload_n 0) 0, rf (.getfield 21) 1 0 5 0 120, rv (.bipush (-14)) 4 0 (-14), ra (.if_icmp .eq 11) 6 8, r0 (.aload_n 0) 9, rf (.getfield 21) 10 0 5 0 120, rv (.iconst 2) 13 0 2, ra (.if_icmp .ne 7) 14 10, rv (.iconst 1) 17 0 1, ra (.goto 4) 18 11, rv (.iconst 0) 21 0 0, r0 (.istore_n 2) 22, r0 (.aload_n 0) 23, rf (.getfield 21) 24 0 5 0 120, rv (.iconst 1) 27 0 1, ra (.if_icmp .ne 18) 28 23, r0 (.aload_n 0) 31, r0 (.aload_n 0) 32, rf (.getfield 24) 33 0 6 0 121, ri (.invokevirtual 77) 36 11 2 0 0 0 461, r0 (.aload_n 0) 39, ri (.invokevirtual 52) 40 19 1 0 0 0 340, ra (.goto 96) 43 71, r0 (.aload_n 0) 46, rf (.getfield 21) 47 0 5 0 120, rv (.iconst (-1)) 50 0 (-1), ra (.if_icmp .gt 27) 51 38, r0 (.aload_n 0) 54, rf (.getfield 21) 55 0 5 0 120, rv (.bipush (-6)) 58 0 (-6), ra (.if_icmp .lt 18) 60 38, r0 (.aload_n 0) 63]
def mt18_1 : List RI := [r0 (.aload_n 0) 64, rf (.getfield 21) 65 0 5 0 120, ri (.invokevirtual 77) 68 11 2 0 0 0 461, r0 (.aload_n 0) 71, ri (.invokevirtual 52) 72 19 1 0 0 0 340, ra (.goto 64) 75 71, r0 (.iload_n 2) 78, ra (.ifCond .eq 8) 79 43, r0 (.iload_n 1) 82, rv (.iconst 5) 83 0 5, ra (.if_icmp .lt 10) 84 46, r0 (.aload_n 0) 87, ri (.invokevirtual 68) 88 9 1 0 0 0 429, ra (.goto 48) 91 71, r0 (.aload_n 0) 94, rf (.getfield 21) 95 0 5 0 120, rv (.bipush (-14)) 98 0 (-14), ra (.if_icmp .ne 23) 100 61, r0 (.aload_n 0) 103, ri (.invokevirtual 52) 104 19 1 0 0 0 340, r0 (.aload_n 0) 107, r0 (.iload_n 1) 108, rv (.iconst 1) 109 0 1, r0 .iadd 110, rj (.invokevirtual 92) 111 18 2 0 0 0 457, r0 (.aload_n 0) 114, rv (.bipush (-7)) 115 0 (-7), ri (.invokevirtual 77) 117 11 2 0 0 0 461, ra (.goto 19) 120 71, r0 (.aload_n 0) 123, ri (.invokevirtual 52) 124 19 1 0 0 0 340, r0 (.aload_n 0) 127]
def mt18_2 : List RI := [r0 (.iload_n 1) 128, rv (.iconst 1) 129 0 1, r0 .iadd 130, rj (.invokevirtual 62) 131 12 2 0 0 0 433, r0 (.aload_n 0) 134, rv (.iconst 3) 135 0 3, ri (.invokevirtual 55) 136 10 2 0 0 0 425, r0 .return_ 139]
def mt18 : List (List RI) := [mt18_0, mt18_1, mt18_2]
def mt19_0 : List RI := [r0 (.aload_n 0) 0, rf (.getfield 27) 1 0 7 0 122, rv (.iconst (-1)) 4 0 (-1), ra (.if_icmp .eq 4) 5 5, r0 .return_ 8, r0 (.aload_n 0) 9, rf (.getfield 15) 10 0 3 0 118, r0 (.istore_n 1) 13, r0 (.iload_n 1) 14, r0 (.aload_n 0) 15, rf (.getfield 9) 16 0 2 0 117, ra (.if_icmp .ge 38) 19 31, r0 (.aload_n 0) 22, rf (.getfield 33) 23 0 0 0 115, r0 (.iload_n 1) 26, r0 .iaload 27, rv (.bipush 32) 28 0 32, ra (.if_icmp .eq 14) 30 24, r0 (.aload_n 0) 33, rf (.getfield 33) 34 0 0 0 115, r0 (.iload_n 1) 37, r0 .iaload 38, rv (.bipush 10) 39 0 10, ra (.if_icmp .ne 16) 41 31, r0 (.aload_n 0) 44, r0 (.iload_n 1) 45, rv (.iconst 1) 46 0 1, r0 .iadd 47, rf (.putfield 15) 48 0 3 0 118, rv (.iinc 1 1) 51 0 1, ra (.goto (-40)) 54 8, r0 (.aload_n 0) 57]
def mt19_1 : List RI := [r0 (.aload_n 0) 58, rf (.getfield 15) 59 0 3 0 118, rf (.putfield 18) 62 0 4 0 119, r0 (.aload_n 0) 65, rf (.getfield 15) 66 0 3 0 118, r0 (.aload_n 0) 69, rf (.getfield 9) 70 0 2 0 117, ra (.if_icmp .lt 11) 73 44, r0 (.aload_n 0) 76, rv (.iconst 5) 77 0 5, rf (.putfield 21) 78 0 5 0 120, ra (.goto 73) 81 78, r0 (.aload_n 0) 84, rf (.getfield 33) 85 0 0 0 115, r0 (.aload_n 0) 88, rf (.getfield 15) 89 0 3 0 118, r0 .iaload 92, ri (.invokestatic 95) 93 23 1 1 1 0 344, ra (.ifCond .eq 10) 96 54, r0 (.aload_n 0) 99, ri (.invokevirtual 99) 100 20 1 0 0 0 347, ra (.goto 51) 103 78, r0 (.aload_n 0) 106, rf (.getfield 33) 107 0 0 0 115, r0 (.aload_n 0) 110, rf (.getfield 15) 111 0 3 0 118, r0 .iaload 114, ri (.invokestatic 102) 115 24 1 1 1 0 415, ra (.ifCond .eq 10) 118 64, r0 (.aload_n 0) 121, ri (.invokevirtual 105) 122 22 1 0 0 0 418, ra (.goto 29) 125 78]
def mt19_2 : List RI := [r0 (.aload_n 0) 128, r0 (.aload_n 0) 129, rf (.getfield 33) 130 0 0 0 115, r0 (.aload_n 0) 133, rf (.getfield 15) 134 0 3 0 118, r0 .iaload 137, ri (.invokestatic 108) 138 25 1 1 1 0 422, rf (.putfield 21) 141 0 5 0 120, r0 (.aload_n 0) 144, r0 .dup 145, rf (.getfield 15) 146 0 3 0 118, rv (.iconst 1) 149 0 1, r0 .iadd 150, rf (.putfield 15) 151 0 3 0 118, r0 .return_ 154]
def mt19 : List (List RI) := [mt19_0, mt19_1, mt19_2]
def mt20_0 : List RI := [r0 (.aload_n 0) 0, rf (.getfield 18) 1 0 4 0 119, r0 (.istore_n 1) 4, r0 (.iload_n 1) 5, r0 (.aload_n 0) 6, rf (.getfield 9) 7 0 2 0 117, ra (.if_icmp .ge 28) 10 20, r0 (.aload_n 0) 13, rf (.getfield 33) 14 0 0 0 115, r0 (.iload_n 1) 17, r0 .iaload 18, ri (.invokestatic 95) 19 23 1 1 1 0 344, ra (.ifCond .eq 16) 22 20, r0 (.aload_n 0) 25, r0 (.iload_n 1) 26, rv (.iconst 1) 27 0 1, r0 .iadd 28, rf (.putfield 15) 29 0 3 0 118, rv (.iinc 1 1) 32 0 1, ra (.goto (-30)) 35 3, r0 (.aload_n 0) 38, r0 (.aload_n 0) 39, rs (.ldc 112) 40 1 100 351, ri (.invokevirtual 114) 42 21 2 0 1 0 352, ra (.ifCond .eq 8) 45 27, rv (.bipush 10) 48 0 10, ra (.goto 158) 50 94, r0 (.aload_n 0) 53, rs (.ldc 118) 54 1 101 404, ri (.invokevirtual 114) 56 21 2 0 1 0 352, ra (.ifCond .eq 8) 59 33, rv (.bipush 11) 62 0 11]
def mt20_1 : List RI := [ra (.goto 144) 64 94, r0 (.aload_n 0) 67, rs (.ldc 120) 68 1 102 405, ri (.invokevirtual 114) 70 21 2 0 1 0 352, ra (.ifCond .eq 8) 73 39, rv (.bipush 12) 76 0 12, ra (.goto 130) 78 94, r0 (.aload_n 0) 81, rs (.ldc 122) 82 1 103 406, ri (.invokevirtual 114) 84 21 2 0 1 0 352, ra (.ifCond .eq 8) 87 45, rv (.bipush (-9)) 90 0 (-9), ra (.goto 116) 92 94, r0 (.aload_n 0) 95, rs (.ldc 124) 96 1 104 407, ri (.invokevirtual 114) 98 21 2 0 1 0 352, ra (.ifCond .eq 8) 101 51, rv (.bipush (-10)) 104 0 (-10), ra (.goto 102) 106 94, r0 (.aload_n 0) 109, rs (.ldc 126) 110 1 105 408, ri (.invokevirtual 114) 112 21 2 0 1 0 352, ra (.ifCond .eq 8) 115 57, rv (.bipush (-8)) 118 0 (-8), ra (.goto 88) 120 94, r0 (.aload_n 0) 123, rs (.ldc 128) 124 1 106 409, ri (.invokevirtual 114) 126 21 2 0 1 0 352, ra (.ifCond .eq 7) 129 63, rv (.iconst (-1)) 132 0 (-1), ra (.goto 75) 133 94, r0 (.aload_n 0) 136]
def mt20_2 : List RI := [rs (.ldc 130) 137 1 107 410, ri (.invokevirtual 114) 139 21 2 0 1 0 352, ra (.ifCond .eq 8) 142 69, rv (.bipush (-2)) 145 0 (-2), ra (.goto 61) 147 94, r0 (.aload_n 0) 150, rs (.ldc 132) 151 1 108 411, ri (.invokevirtual 114) 153 21 2 0 1 0 352, ra (.ifCond .eq 8) 156 75, rv (.bipush (-3)) 159 0 (-3), ra (.goto 47) 161 94, r0 (.aload_n 0) 164, rs (.ldc 134) 165 1 109 412, ri (.invokevirtual 114) 167 21 2 0 1 0 352, ra (.ifCond .eq 8) 170 81, rv (.bipush (-4)) 173 0 (-4), ra (.goto 33) 175 94, r0 (.aload_n 0) 178, rs (.ldc 136) 179 1 110 413, ri (.invokevirtual 114) 181 21 2 0 1 0 352, ra (.ifCond .eq 8) 184 87, rv (.bipush (-5)) 187 0 (-5), ra (.goto 19) 189 94, r0 (.aload_n 0) 192, rs (.ldc 138) 193 1 111 414, ri (.invokevirtual 114) 195 21 2 0 1 0 352, ra (.ifCond .eq 8) 198 93, rv (.bipush (-6)) 201 0 (-6), ra (.goto 5) 203 94, rv (.bipush 6) 206 0 6, rf (.putfield 21) 208 0 5 0 120, r0 .return_ 211]
def mt20 : List (List RI) := [mt20_0, mt20_1, mt20_2]
def mt21_0 : List RI := [r0 (.aload_n 0) 0, rf (.getfield 15) 1 0 3 0 118, r0 (.aload_n 0) 4, rf (.getfield 18) 5 0 4 0 119, r0 .isub 8, r0 (.aload_n 1) 9, ri (.invokevirtual 140) 10 1 1 0 1 50 356, ra (.if_icmp .eq 5) 13 10, rv (.iconst 0) 16 0 0, ra .ireturn 17 1, rv (.iconst 0) 18 0 0, r0 (.istore_n 2) 19, r0 (.iload_n 2) 20, r0 (.aload_n 1) 21, ri (.invokevirtual 140) 22 1 1 0 1 50 356, ra (.if_icmp .ge 30) 25 31, r0 (.aload_n 0) 28, rf (.getfield 33) 29 0 0 0 115, r0 (.aload_n 0) 32, rf (.getfield 18) 33 0 4 0 119, r0 (.iload_n 2) 36, r0 .iadd 37, r0 .iaload 38, r0 (.aload_n 1) 39, r0 (.iload_n 2) 40, ri (.invokevirtual 146) 41 4 2 0 1 50 366, ra (.if_icmp .eq 5) 44 29, rv (.iconst 0) 47 0 0, ra .ireturn 48 1, rv (.iinc 2 1) 49 0 1, ra (.goto (-32)) 52 12, rv (.iconst 1) 55 0 1]
def mt21_1 : List RI := [ra .ireturn 56 1]
def mt21 : List (List RI) := [mt21_0, mt21_1]
def mt22_0 : List RI := [r0 (.aload_n 0) 0, rv (.iconst 0) 1 0 0, rf (.putfield 24) 2 0 6 0 121, r0 (.aload_n 0) 5, rf (.getfield 18) 6 0 4 0 119, r0 (.istore_n 1) 9, r0 (.iload_n 1) 10, r0 (.aload_n 0) 11, rf (.getfield 9) 12 0 2 0 117, ra (.if_icmp .ge 49) 15 36, r0 (.aload_n 0) 18, rf (.getfield 33) 19 0 0 0 115, r0 (.iload_n 1) 22, r0 .iaload 23, ri (.invokestatic 102) 24 24 1 1 1 0 415, ra (.ifCond .eq 37) 27 36, r0 (.aload_n 0) 30, r0 (.iload_n 1) 31, rv (.iconst 1) 32 0 1, r0 .iadd 33, rf (.putfield 15) 34 0 3 0 118, r0 (.aload_n 0) 37, r0 (.aload_n 0) 38, rf (.getfield 24) 39 0 6 0 121, rv (.bipush 10) 42 0 10, r0 .imul 44, r0 (.aload_n 0) 45, rf (.getfield 33) 46 0 0 0 115, r0 (.iload_n 1) 49, r0 .iaload 50, r0 .iadd 51, rv (.bipush 48) 52 0 48]
def mt22_1 : List RI := [r0 .isub 54, rf (.putfield 24) 55 0 6 0 121, rv (.iinc 1 1) 58 0 1, ra (.goto (-51)) 61 6, r0 (.aload_n 0) 64, r0 (.aload_n 0) 65, rf (.getfield 15) 66 0 3 0 118, r0 (.aload_n 0) 69, rf (.getfield 18) 70 0 4 0 119, r0 .isub 73, rv (.iconst 4) 74 0 4, ra (.if_icmp .le 8) 75 46, rv (.bipush 6) 78 0 6, ra (.goto 4) 80 47, rv (.iconst 1) 83 0 1, rf (.putfield 21) 84 0 5 0 120, r0 .return_ 87]
def mt22 : List (List RI) := [mt22_0, mt22_1]
def mt23_0 : List RI := [r0 (.iload_n 0) 0, rv (.bipush 97) 1 0 97, ra (.if_icmp .lt 13) 3 8, r0 (.iload_n 0) 6, rv (.bipush 122) 7 0 122, ra (.if_icmp .gt 7) 9 8, rv (.iconst 1) 12 0 1, ra (.goto 4) 13 9, rv (.iconst 0) 16 0 0, ra .ireturn 17 1]
def mt23 : List (List RI) := [mt23_0]
def mt24_0 : List RI := [r0 (.iload_n 0) 0, rv (.bipush 48) 1 0 48, ra (.if_icmp .lt 13) 3 8, r0 (.iload_n 0) 6, rv (.bipush 57) 7 0 57, ra (.if_icmp .gt 7) 9 8, rv (.iconst 1) 12 0 1, ra (.goto 4) 13 9, rv (.iconst 0) 16 0 0, ra .ireturn 17 1]
def mt24 : List (List RI) := [mt24_0]
def mt25_0 : List RI := [r0 (.iload_n 0) 0, rt (.tableswitch 124 40 61 #[103, 105, 115, 109, 124, 112, 124, 124, 124, 124, 124, 124, 124, 124, 124, 124, 124, 124, 124, 107, 118, 121]) 1 18 [(40, 2), (41, 4), (42, 12), (43, 8), (44, 18), (45, 10), (46, 18), (47, 18), (48, 18), (49, 18), (50, 18), (51, 18), (52, 18), (53, 18), (54, 18), (55, 18), (56, 18), (57, 18), (58, 18), (59, 6), (60, 14), (61, 16)], rv (.iconst 2) 104 0 2, r0 .ireturn 105, rv (.iconst 3) 106 0 3, r0 .ireturn 107, rv (.iconst 4) 108 0 4, r0 .ireturn 109, rv (.bipush (-13)) 110 0 (-13), r0 .ireturn 112, rv (.bipush (-14)) 113 0 (-14), r0 .ireturn 115, rv (.bipush (-15)) 116 0 (-15), r0 .ireturn 118, rv (.bipush (-11)) 119 0 (-11), r0 .ireturn 121, rv (.bipush (-12)) 122 0 (-12), r0 .ireturn 124, rv (.bipush 6) 125 0 6, r0 .ireturn 127]
def mt25 : List (List RI) := [mt25_0]
def mt26_0 : List RI := [r0 (.iload_n 1) 0, ra (.ifCond .lt 12) 1 7, r0 (.iload_n 1) 4, rv (.iconst 4) 5 0 4, ra (.if_icmp .ge 7) 6 7, rv (.iconst 1) 9 0 1, ra (.goto 4) 10 8, rv (.iconst 0) 13 0 0, ra .ireturn 14 1]
def mt26 : List (List RI) := [mt26_0]
def mt27_0 : List RI := [r0 (.lload_n 2) 0, rw (.lconst 0) 1 0 0, r0 .lcmp 2, ra (.ifCond .lt 23) 3 17, r0 (.lload_n 2) 6, r0 (.iload 4) 7, r0 .i2l 9, r0 .ladd 10, r0 (.aload_n 0) 11, rf (.getfield 18) 12 1 2 0 208, r0 (.iload_n 1) 15, r0 .iaload 16, r0 .i2l 17, r0 .lcmp 18, ra (.ifCond .gt 7) 19 17, rv (.iconst 1) 22 0 1, ra (.goto 4) 23 18, rv (.iconst 0) 26 0 0, ra .ireturn 27 1]
def mt27 : List (List RI) := [mt27_0]
def mt28_0 : List RI := [r0 (.aload_n 0) 0, rf (.getfield 15) 1 1 1 0 206, r0 (.iload_n 1) 4, r0 (.iload_n 2) 5, r0 .iastore 6, r0 (.aload_n 0) 7, rf (.getfield 18) 8 1 2 0 208, r0 (.iload_n 1) 11, r0 (.iload_n 3) 12, r0 .iastore 13, rv (.iconst 0) 14 0 0, r0 (.istore 4) 15, r0 (.iload 4) 17, r0 (.iload_n 3) 19, ra (.if_icmp .ge 22) 20 26, r0 (.aload_n 0) 23, rf (.getfield 9) 24 1 0 0 205, r0 (.iload_n 1) 27, rv (.bipush 40) 28 0 40, r0 .imul 30, r0 (.iload 4) 31, r0 .iadd 33, rv (.iconst 0) 34 0 0, r0 .iastore 35, rv (.iinc 4 1) 36 0 1, ra (.goto (-22)) 39 12, r0 .return_ 42]
def mt28 : List (List RI) := [mt28_0]
def mt29_0 : List RI := [r0 (.aload_n 0) 0, rf (.getfield 9) 1 1 0 0 205, r0 (.iload_n 1) 4, rv (.bipush 40) 5 0 40, r0 .imul 7, r0 (.iload_n 2) 8, r0 .iadd 9, r0 .iaload 10, r0 .ireturn 11]
def mt29 : List (List RI) := [mt29_0]
def mt30_0 : List RI := [r0 (.aload_n 0) 0, rf (.getfield 15) 1 1 1 0 206, r0 (.iload_n 1) 4, r0 .iaload 5, ra (.ifCond .ne 8) 6 8, r0 (.iload_n 3) 9, r0 .i2b 10, ra (.goto 19) 11 18, r0 (.aload_n 0) 14, rf (.getfield 15) 15 1 1 0 206, r0 (.iload_n 1) 18, r0 .iaload 19, rv (.iconst 1) 20 0 1, ra (.if_icmp .ne 8) 21 17, r0 (.iload_n 3) 24, r0 .i2s 25, ra (.goto 4) 26 18, r0 (.iload_n 3) 29, r0 (.istore 4) 30, r0 (.aload_n 0) 32, rf (.getfield 9) 33 1 0 0 205, r0 (.iload_n 1) 36, rv (.bipush 40) 37 0 40, r0 .imul 39, r0 (.iload_n 2) 40, r0 .iadd 41, r0 (.iload 4) 42, r0 .iastore 44, r0 .return_ 45]
def mt30 : List (List RI) := [mt30_0]
def mt31_0 : List RI := [r0 (.aload_n 0) 0, rf (.getfield 9) 1 1 0 0 205, r0 (.iload_n 1) 4, rv (.bipush 40) 5 0 40, r0 .imul 7, r0 (.iload_n 2) 8, r0 .iadd 9, r0 (.aload_n 0) 10, rf (.getfield 9) 11 1 0 0 205, r0 (.iload_n 3) 14, rv (.bipush 40) 15 0 40, r0 .imul 17, r0 (.iload 4) 18, r0 .iadd 20, r0 (.iload 5) 21, ri (.invokestatic 21) 23 200 5 3 0 0 706, r0 .return_ 26]
def mt31 : List (List RI) := [mt31_0]
def mt32_0 : List RI := [rv (.iconst 0) 0 0 0, r0 (.istore_n 2) 1, r0 (.iload_n 2) 2, r0 (.aload_n 1) 3, rf (.getfield 28) 4 2 6 0 160, ra (.if_icmp .ge 69) 7 48, r0 (.aload_n 0) 10, rf (.getfield 9) 11 2 1 0 150, r0 (.iload_n 2) 14, r0 (.aload_n 1) 15, rf (.getfield 9) 16 2 1 0 150, r0 (.iload_n 2) 19, r0 .iaload 20, r0 .iastore 21, r0 (.aload_n 0) 22, rf (.getfield 15) 23 2 2 0 152, r0 (.iload_n 2) 26, r0 (.aload_n 1) 27, rf (.getfield 15) 28 2 2 0 152, r0 (.iload_n 2) 31, r0 .iaload 32, r0 .iastore 33, r0 (.aload_n 0) 34, rf (.getfield 18) 35 2 3 0 154, r0 (.iload_n 2) 38, r0 (.aload_n 1) 39, rf (.getfield 18) 40 2 3 0 154, r0 (.iload_n 2) 43, r0 .iaload 44, r0 .iastore 45, r0 (.aload_n 0) 46, rf (.getfield 21) 47 2 4 0 156]
def mt32_1 : List RI := [r0 (.iload_n 2) 50, r0 (.aload_n 1) 51, rf (.getfield 21) 52 2 4 0 156, r0 (.iload_n 2) 55, r0 .baload 56, r0 .bastore 57, r0 (.aload_n 0) 58, rf (.getfield 25) 59 2 5 0 158, r0 (.iload_n 2) 62, r0 (.aload_n 1) 63, rf (.getfield 25) 64 2 5 0 158, r0 (.iload_n 2) 67, r0 .iaload 68, r0 .iastore 69, rv (.iinc 2 1) 70 0 1, ra (.goto (-71)) 73 2, r0 (.aload_n 0) 76, r0 (.aload_n 1) 77, rf (.getfield 28) 78 2 6 0 160, rf (.putfield 28) 81 2 6 0 160, r0 (.aload_n 0) 84, r0 (.aload_n 1) 85, rf (.getfield 32) 86 2 7 0 162, rf (.putfield 32) 89 2 7 0 162, r0 (.aload_n 0) 92, r0 (.aload_n 1) 93, rf (.getfield 35) 94 2 8 0 164, rf (.putfield 35) 97 2 8 0 164, r0 (.aload_n 0) 100, r0 (.aload_n 1) 101, rf (.getfield 38) 102 2 9 0 166, rf (.putfield 38) 105 2 9 0 166]
def mt32_2 : List RI := [r0 (.aload_n 0) 108, r0 (.aload_n 1) 109, rf (.getfield 41) 110 2 10 0 168, rf (.putfield 41) 113 2 10 0 168, r0 (.aload_n 0) 116, r0 (.aload_n 1) 117, rf (.getfield 44) 118 2 11 0 170, rf (.putfield 44) 121 2 11 0 170, r0 .return_ 124]
def mt32 : List (List RI) := [mt32_0, mt32_1, mt32_2]
def mt33_0 : List RI := [r0 (.lload_n 1) 0, rw (.lconst 0) 1 0 0, r0 .lcmp 2, ra (.ifCond .lt 17) 3 12, r0 (.lload_n 1) 6, r0 (.aload_n 0) 7, rf (.getfield 28) 8 2 6 0 160, r0 .i2l 11, r0 .lcmp 12, ra (.ifCond .ge 7) 13 12, rv (.iconst 1) 16 0 1, ra (.goto 4) 17 13, rv (.iconst 0) 20 0 0, ra .ireturn 21 1]
def mt33 : List (List RI) := [mt33_0]
def mt34_0 : List RI := [r0 (.iload_n 1) 0, rv (.iconst 0) 1 0 0, rv (.bipush 59) 2 0 59, ri (.invokestatic 51) 4 90 3 2 1 4 487, ra (.ifCond .eq 13) 7 10, r0 (.iload_n 2) 10, rv (.iconst 0) 11 0 0, rv (.bipush 63) 12 0 63, ri (.invokestatic 51) 14 90 3 2 1 4 487, ra (.ifCond .ne 6) 17 12, rv (.bipush (-2)) 20 0 (-2), r0 .ireturn 22, r0 (.aload_n 0) 23, rf (.getfield 28) 24 2 6 0 160, rv (.bipush 6) 27 0 6, ra (.if_icmp .lt 6) 29 18, rv (.bipush (-4)) 32 0 (-4), r0 .ireturn 34, r0 (.aload_n 0) 35, rf (.getfield 28) 36 2 6 0 160, r0 (.istore_n 3) 39, r0 (.aload_n 0) 40, rf (.getfield 9) 41 2 1 0 150, r0 (.iload_n 3) 44, r0 (.iload_n 1) 45, rv (.bipush 10) 46 0 10, r0 .idiv 48, r0 .iastore 49, r0 (.aload_n 0) 50, rf (.getfield 15) 51 2 2 0 152, r0 (.iload_n 3) 54, r0 (.iload_n 1) 55]
def mt34_1 : List RI := [rv (.bipush 10) 56 0 10, r0 .irem 58, r0 .iastore 59, r0 (.aload_n 0) 60, rf (.getfield 18) 61 2 3 0 154, r0 (.iload_n 3) 64, r0 (.iload_n 2) 65, r0 .iastore 66, r0 (.aload_n 0) 67, rf (.getfield 21) 68 2 4 0 156, r0 (.iload_n 3) 71, rv (.iconst 0) 72 0 0, r0 .bastore 73, r0 (.aload_n 0) 74, rf (.getfield 25) 75 2 5 0 158, r0 (.iload_n 3) 78, rv (.iconst 0) 79 0 0, r0 .iastore 80, r0 (.aload_n 0) 81, r0 .dup 82, rf (.getfield 28) 83 2 6 0 160, rv (.iconst 1) 86 0 1, r0 .iadd 87, rf (.putfield 28) 88 2 6 0 160, r0 (.iload_n 3) 91, r0 .ireturn 92]
def mt34 : List (List RI) := [mt34_0, mt34_1]
def mt35_0 : List RI := [r0 (.aload_n 0) 0, rf (.getfield 18) 1 2 3 0 154, r0 (.iload_n 1) 4, r0 .iaload 5, rv (.iconst (-1)) 6 0 (-1), ra (.if_icmp .eq 16) 7 13, r0 (.aload_n 0) 10, rf (.getfield 21) 11 2 4 0 156, r0 (.iload_n 1) 14, r0 .baload 15, ra (.ifCond .ne 7) 16 13, rv (.iconst 1) 19 0 1, ra (.goto 4) 20 14, rv (.iconst 0) 23 0 0, ra .ireturn 24 1]
def mt35 : List (List RI) := [mt35_0]
def mt36_0 : List RI := [r0 (.aload_n 0) 0, rf (.getfield 18) 1 2 3 0 154, r0 (.iload_n 1) 4, r0 .iaload 5, rv (.iconst (-1)) 6 0 (-1), ra (.if_icmp .ne 15) 7 12, r0 (.aload_n 0) 10, rf (.getfield 38) 11 2 9 0 166, r0 (.iload_n 1) 14, ra (.if_icmp .eq 7) 15 12, rv (.iconst 1) 18 0 1, ra (.goto 4) 19 13, rv (.iconst 0) 22 0 0, ra .ireturn 23 1]
def mt36 : List (List RI) := [mt36_0]
def mt37_0 : List RI := [r0 (.aload_n 0) 0, r0 (.iload_n 1) 1, ri (.invokevirtual 55) 2 35 2 0 1 2 272, ra (.ifCond .ne 5) 5 6, rv (.iconst 0) 8 0 0, ra .ireturn 9 1, r0 (.aload_n 0) 10, r0 (.iload_n 1) 11, ri (.invokevirtual 59) 12 40 2 0 1 2 276, r0 (.istore_n 2) 15, rv (.iconst 0) 16 0 0, r0 (.istore_n 3) 17, r0 (.iload_n 3) 18, r0 (.aload_n 0) 19, rf (.getfield 28) 20 2 6 0 160, ra (.if_icmp .ge 44) 23 39, r0 (.iload_n 3) 26, r0 (.iload_n 1) 27, ra (.if_icmp .eq 33) 28 37, r0 (.aload_n 0) 31, r0 (.iload_n 3) 32, ri (.invokevirtual 55) 33 35 2 0 1 2 272, ra (.ifCond .eq 25) 36 37, r0 (.aload_n 0) 39, rf (.getfield 18) 40 2 3 0 154, r0 (.iload_n 3) 43, r0 .iaload 44, r0 (.aload_n 0) 45, rf (.getfield 18) 46 2 3 0 154, r0 (.iload_n 1) 49, r0 .iaload 50, r0 .isub 51]
def mt37_1 : List RI := [ri (.invokestatic 63) 52 200 1 4 1 0 297, r0 (.iload_n 2) 55, ra (.if_icmp .ge 5) 56 37, rv (.iconst 0) 59 0 0, ra .ireturn 60 1, rv (.iinc 3 1) 61 0 1, ra (.goto (-46)) 64 12, rv (.iconst 1) 67 0 1, ra .ireturn 68 1]
def mt37 : List (List RI) := [mt37_0, mt37_1]
def mt38_0 : List RI := [rv (.iconst (-1)) 0 0 (-1), r0 (.istore_n 2) 1, rv (.iconst 0) 2 0 0, r0 (.istore_n 3) 3, r0 (.iload_n 3) 4, r0 (.aload_n 0) 5, rf (.getfield 28) 6 2 6 0 160, ra (.if_icmp .ge 67) 9 43, r0 (.iload_n 3) 12, r0 (.iload_n 1) 13, ra (.if_icmp .eq 56) 14 41, r0 (.aload_n 0) 17, r0 (.iload_n 3) 18, ri (.invokevirtual 55) 19 35 2 0 1 2 272, ra (.ifCond .eq 48) 22 41, r0 (.aload_n 0) 25, rf (.getfield 18) 26 2 3 0 154, r0 (.iload_n 1) 29, r0 .iaload 30, rv (.iconst (-1)) 31 0 (-1), ra (.if_icmp .eq 38) 32 41, r0 (.aload_n 0) 35, rf (.getfield 18) 36 2 3 0 154, r0 (.iload_n 3) 39, r0 .iaload 40, r0 (.aload_n 0) 41, rf (.getfield 18) 42 2 3 0 154, r0 (.iload_n 1) 45, r0 .iaload 46, r0 .isub 47, ri (.invokestatic 63) 48 200 1 4 1 0 297, r0 (.istore 4) 51]
def mt38_1 : List RI := [r0 (.iload_n 2) 53, rv (.iconst (-1)) 54 0 (-1), ra (.if_icmp .ne 8) 55 37, r0 (.iload 4) 58, ra (.goto 9) 60 40, r0 (.iload_n 2) 63, r0 (.iload 4) 64, ri (.invokestatic 68) 66 200 2 6 1 0 510, r0 (.istore_n 2) 69, rv (.iinc 3 1) 70 0 1, ra (.goto (-69)) 73 4, r0 (.iload_n 2) 76, r0 .ireturn 77]
def mt38 : List (List RI) := [mt38_0, mt38_1]
def mt39_0 : List RI := [r0 (.aload_n 0) 0, rf (.getfield 18) 1 2 3 0 154, r0 (.iload_n 1) 4, r0 .iaload 5, r0 (.aload_n 0) 6, rf (.getfield 18) 7 2 3 0 154, r0 (.iload_n 2) 10, r0 .iaload 11, ra (.if_icmp .lt 23) 12 21, r0 (.aload_n 0) 15, rf (.getfield 18) 16 2 3 0 154, r0 (.iload_n 1) 19, r0 .iaload 20, r0 (.aload_n 0) 21, rf (.getfield 18) 22 2 3 0 154, r0 (.iload_n 2) 25, r0 .iaload 26, ra (.if_icmp .ne 12) 27 23, r0 (.iload_n 1) 30, r0 (.iload_n 2) 31, ra (.if_icmp .ge 7) 32 23, rv (.iconst 1) 35 0 1, ra (.goto 4) 36 24, rv (.iconst 0) 39 0 0, r0 (.istore_n 3) 40, r0 (.iload_n 3) 41, ra (.ifCond .eq 19) 42 35, r0 (.aload_n 0) 45, r0 (.iload_n 1) 46, ri (.invokevirtual 55) 47 35 2 0 1 2 272, ra (.ifCond .eq 11) 50 35, r0 (.aload_n 0) 53]
def mt39_1 : List RI := [r0 (.iload_n 2) 54, ri (.invokevirtual 55) 55 35 2 0 1 2 272, ra (.ifCond .ne 5) 58 37, rv (.iconst 0) 61 0 0, ra .ireturn 62 1, rv (.iconst 0) 63 0 0, r0 (.istore 4) 64, r0 (.iload 4) 66, r0 (.aload_n 0) 68, rf (.getfield 28) 69 2 6 0 160, ra (.if_icmp .ge 52) 72 69, r0 (.aload_n 0) 75, r0 (.iload 4) 76, ri (.invokevirtual 55) 78 35 2 0 1 2 272, ra (.ifCond .eq 37) 81 67, r0 (.aload_n 0) 84, rf (.getfield 18) 85 2 3 0 154, r0 (.iload 4) 88, r0 .iaload 90, r0 (.aload_n 0) 91, rf (.getfield 18) 92 2 3 0 154, r0 (.iload_n 1) 95, r0 .iaload 96, ra (.if_icmp .le 21) 97 67, r0 (.aload_n 0) 100, rf (.getfield 18) 101 2 3 0 154, r0 (.iload 4) 104, r0 .iaload 106, r0 (.aload_n 0) 107, rf (.getfield 18) 108 2 3 0 154, r0 (.iload_n 2) 111, r0 .iaload 112]
def mt39_2 : List RI := [ra (.if_icmp .ge 5) 113 67, rv (.iconst 0) 116 0 0, ra .ireturn 117 1, rv (.iinc 4 1) 118 0 1, ra (.goto (-55)) 121 39, rv (.iconst 1) 124 0 1, ra .ireturn 125 1]
def mt39 : List (List RI) := [mt39_0, mt39_1, mt39_2]
def mt40_0 : List RI := [r0 (.aload_n 0) 0, rf (.getfield 9) 1 2 1 0 150, r0 (.iload_n 1) 4, r0 .iaload 5, rt (.tableswitch 67 1 5 #[34, 47, 34, 47, 65]) 6 28 [(1, 5), (2, 14), (3, 5), (4, 14), (5, 26)], r0 (.aload_n 0) 40, rf (.getfield 47) 41 2 0 0 149, rv (.iconst 0) 44 0 0, r0 (.aload_n 0) 45, r0 (.iload_n 1) 46, ri (.invokevirtual 72) 47 52 4 0 1 3 280, rv (.iconst 2) 50 0 2, r0 .idiv 51, r0 .ireturn 52, r0 (.aload_n 0) 53, rf (.getfield 47) 54 2 0 0 149, rv (.iconst 0) 57 0 0, r0 (.aload_n 0) 58, r0 (.iload_n 1) 59, ri (.invokevirtual 72) 60 52 4 0 1 3 280, r0 (.aload_n 0) 63, rf (.getfield 15) 64 2 2 0 152, r0 (.iload_n 1) 67, r0 .iaload 68, r0 .iadd 69, r0 .ireturn 70, rv (.iconst 0) 71 0 0, r0 .ireturn 72, r0 (.aload_n 0) 73, rf (.getfield 47) 74 2 0 0 149, rv (.iconst 0) 77 0 0, r0 (.aload_n 0) 78]
def mt40_1 : List RI := [r0 (.iload_n 1) 79, ri (.invokevirtual 72) 80 52 4 0 1 3 280, r0 .ireturn 83]
def mt40 : List (List RI) := [mt40_0, mt40_1]
def mt41_0 : List RI := [r0 (.aload_n 0) 0, rf (.getfield 9) 1 2 1 0 150, r0 (.iload_n 1) 4, r0 .iaload 5, rt (.tableswitch 106 1 5 #[66, 106, 34, 84, 96]) 6 51 [(1, 24), (2, 51), (3, 5), (4, 36), (5, 44)], r0 (.aload_n 0) 40, rf (.getfield 32) 41 2 7 0 162, rv (.iconst 4) 44 0 4, r0 .irem 45, ra (.ifCond .ne 8) 46 12, rv (.bipush 99) 49 0 99, ra (.goto 20) 51 23, r0 (.aload_n 0) 54, rf (.getfield 47) 55 2 0 0 149, rv (.iconst 1) 58 0 1, r0 (.aload_n 0) 59, r0 (.iload_n 1) 60, ri (.invokevirtual 72) 61 52 4 0 1 3 280, r0 (.aload_n 0) 64, rf (.getfield 15) 65 2 2 0 152, r0 (.iload_n 1) 68, r0 .iaload 69, r0 .isub 70, r0 .ireturn 71, r0 (.aload_n 0) 72, rf (.getfield 47) 73 2 0 0 149, rv (.iconst 1) 76 0 1, r0 (.aload_n 0) 77, r0 (.iload_n 1) 78, ri (.invokevirtual 72) 79 52 4 0 1 3 280, r0 (.aload_n 0) 82, rf (.getfield 15) 83 2 2 0 152]
def mt41_1 : List RI := [r0 (.iload_n 1) 86, r0 .iaload 87, r0 .isub 88, r0 .ireturn 89, r0 (.aload_n 0) 90, rf (.getfield 47) 91 2 0 0 149, rv (.iconst 1) 94 0 1, r0 (.aload_n 0) 95, r0 (.iload_n 1) 96, ri (.invokevirtual 72) 97 52 4 0 1 3 280, r0 .ineg 100, r0 .ireturn 101, rv (.bipush 10) 102 0 10, r0 (.aload_n 0) 104, rf (.getfield 15) 105 2 2 0 152, r0 (.iload_n 1) 108, r0 .iaload 109, r0 .imul 110, r0 .ireturn 111, r0 (.aload_n 0) 112, rf (.getfield 47) 113 2 0 0 149, rv (.iconst 1) 116 0 1, r0 (.aload_n 0) 117, r0 (.iload_n 1) 118, ri (.invokevirtual 72) 119 52 4 0 1 3 280, r0 .ireturn 122]
def mt41 : List (List RI) := [mt41_0, mt41_1]
def mt42_0 : List RI := [r0 (.aload_n 0) 0, rf (.getfield 9) 1 2 1 0 150, r0 (.iload_n 1) 4, r0 .iaload 5, rt (.tableswitch 102 2 4 #[26, 51, 76]) 6 51 [(2, 5), (3, 20), (4, 35)], r0 (.aload_n 0) 32, rf (.getfield 47) 33 2 0 0 149, rv (.iconst 2) 36 0 2, r0 (.aload_n 0) 37, r0 (.iload_n 1) 38, ri (.invokevirtual 72) 39 52 4 0 1 3 280, r0 (.aload_n 0) 42, r0 (.iload_n 1) 43, ri (.invokevirtual 78) 44 37 2 0 1 2 268, ra (.ifCond .eq 7) 47 17, rv (.iconst 1) 50 0 1, ra (.goto 4) 51 18, rv (.iconst 0) 54 0 0, r0 .iadd 55, r0 .ireturn 56, r0 (.aload_n 0) 57, r0 (.iload_n 1) 58, ri (.invokevirtual 78) 59 37 2 0 1 2 268, ra (.ifCond .eq 7) 62 26, rv (.iconst 0) 65 0 0, ra (.goto 15) 66 34, rv (.iconst (-1)) 69 0 (-1), r0 (.aload_n 0) 70, rf (.getfield 47) 71 2 0 0 149, rv (.iconst 2) 74 0 2, r0 (.aload_n 0) 75, r0 (.iload_n 1) 76]
def mt42_1 : List RI := [ri (.invokevirtual 72) 77 52 4 0 1 3 280, r0 .isub 80, r0 .ireturn 81, r0 (.aload_n 0) 82, rf (.getfield 32) 83 2 7 0 162, rv (.iconst 2) 86 0 2, r0 .irem 87, ra (.ifCond .ne 12) 88 45, r0 (.aload_n 0) 91, rf (.getfield 15) 92 2 2 0 152, r0 (.iload_n 1) 95, r0 .iaload 96, ra (.goto 10) 97 50, r0 (.aload_n 0) 100, rf (.getfield 15) 101 2 2 0 152, r0 (.iload_n 1) 104, r0 .iaload 105, r0 .ineg 106, r0 .ireturn 107, r0 (.aload_n 0) 108, rf (.getfield 47) 109 2 0 0 149, rv (.iconst 2) 112 0 2, r0 (.aload_n 0) 113, r0 (.iload_n 1) 114, ri (.invokevirtual 72) 115 52 4 0 1 3 280, r0 .ireturn 118]
def mt42 : List (List RI) := [mt42_0, mt42_1]
def mt43_0 : List RI := [rv (.iconst (-1)) 0 0 (-1), r0 (.istore_n 1) 1, rv (.iconst 0) 2 0 0, r0 (.istore_n 2) 3, rv (.iconst 0) 4 0 0, r0 (.istore_n 3) 5, r0 (.iload_n 3) 6, r0 (.aload_n 0) 7, rf (.getfield 28) 8 2 6 0 160, ra (.if_icmp .ge 40) 11 30, r0 (.aload_n 0) 14, r0 (.iload_n 3) 15, ri (.invokevirtual 78) 16 37 2 0 1 2 268, ra (.ifCond .eq 26) 19 28, r0 (.aload_n 0) 22, r0 (.iload_n 3) 23, ri (.invokevirtual 81) 24 41 2 0 1 2 300, r0 (.istore 4) 27, r0 (.iload_n 1) 29, rv (.iconst (-1)) 30 0 (-1), ra (.if_icmp .eq 9) 31 24, r0 (.iload 4) 34, r0 (.iload_n 2) 36, ra (.if_icmp .le 8) 37 28, r0 (.iload_n 3) 40, r0 (.istore_n 1) 41, r0 (.iload 4) 42, r0 (.istore_n 2) 44, rv (.iinc 3 1) 45 0 1, ra (.goto (-42)) 48 6, r0 (.iload_n 1) 51, r0 .ireturn 52]
def mt43 : List (List RI) := [mt43_0]
def mt44_0 : List RI := [r0 (.aload_n 0) 0, rf (.getfield 18) 1 2 3 0 154, r0 (.iload_n 1) 4, rv (.iconst 0) 5 0 0, rv (.bipush 63) 6 0 63, r0 (.aload_n 0) 8, rf (.getfield 18) 9 2 3 0 154, r0 (.iload_n 1) 12, r0 .iaload 13, r0 (.iload_n 2) 14, r0 .iadd 15, ri (.invokestatic 68) 16 200 2 6 1 0 510, ri (.invokestatic 84) 19 200 2 5 1 0 529, r0 .iastore 22, r0 .return_ 23]
def mt44 : List (List RI) := [mt44_0]
def mt45_0 : List RI := [rv (.iconst (-1)) 0 0 (-1), r0 (.istore_n 1) 1, r0 (.aload_n 0) 2, rf (.getfield 35) 3 2 8 0 164, ra (.ifCond .le 28) 6 18, r0 (.aload_n 0) 9, r0 .dup 10, rf (.getfield 35) 11 2 8 0 164, rv (.iconst 1) 14 0 1, r0 .isub 15, rf (.putfield 35) 16 2 8 0 164, r0 (.aload_n 0) 19, rf (.getfield 35) 20 2 8 0 164, ra (.ifCond .ne 21) 23 24, r0 (.aload_n 0) 26, rv (.iconst (-1)) 27 0 (-1), rf (.putfield 38) 28 2 9 0 166, ra (.goto 13) 31 24, r0 (.aload_n 0) 34, ri (.invokevirtual 87) 35 43 1 0 1 2 519, r0 (.istore_n 1) 38, r0 (.aload_n 0) 39, r0 (.iload_n 1) 40, ri (.invokevirtual 91) 41 46 2 0 0 2 520, rv (.iconst 0) 44 0 0, r0 (.istore_n 2) 45, r0 (.iload_n 2) 46, r0 (.aload_n 0) 47, rf (.getfield 28) 48 2 6 0 160, ra (.if_icmp .ge 48) 51 56, r0 (.aload_n 0) 54, rf (.getfield 18) 55 2 3 0 154]
def mt45_1 : List RI := [r0 (.iload_n 2) 58, r0 .iaload 59, rv (.iconst (-1)) 60 0 (-1), ra (.if_icmp .eq 32) 61 54, r0 (.aload_n 0) 64, r0 (.iload_n 2) 65, r0 (.aload_n 0) 66, r0 (.iload_n 2) 67, ri (.invokevirtual 95) 68 42 2 0 1 2 524, ri (.invokevirtual 98) 71 44 3 0 0 2 525, r0 (.aload_n 0) 74, rf (.getfield 25) 75 2 5 0 158, r0 (.iload_n 2) 78, rv (.bipush 99) 79 0 99, r0 (.aload_n 0) 81, rf (.getfield 25) 82 2 5 0 158, r0 (.iload_n 2) 85, r0 .iaload 86, rv (.iconst 1) 87 0 1, r0 .iadd 88, ri (.invokestatic 68) 89 200 2 6 1 0 510, r0 .iastore 92, rv (.iinc 2 1) 93 0 1, ra (.goto (-50)) 96 26, r0 (.aload_n 0) 99, r0 .dup 100, rf (.getfield 32) 101 2 7 0 162, rv (.iconst 1) 104 0 1, r0 .iadd 105, rf (.putfield 32) 106 2 7 0 162, r0 (.iload_n 1) 109, r0 .ireturn 110]
def mt45 : List (List RI) := [mt45_0, mt45_1]
def mt46_0 : List RI := [r0 (.iload_n 1) 0, rv (.iconst (-1)) 1 0 (-1), ra (.if_icmp .ne 4) 2 4, r0 .return_ 5, r0 (.aload_n 0) 6, rv (.iconst 1) 7 0 1, rv (.iconst 2) 8 0 2, r0 (.aload_n 0) 9, rf (.getfield 18) 10 2 3 0 154, r0 (.iload_n 1) 13, r0 .iaload 14, r0 .imul 15, rv (.bipush 63) 16 0 63, r0 .isub 18, ri (.invokestatic 63) 19 200 1 4 1 0 297, rv (.bipush 20) 22 0 20, r0 .idiv 24, r0 .iadd 25, rf (.putfield 35) 26 2 8 0 164, r0 (.aload_n 0) 29, rf (.getfield 18) 30 2 3 0 154, r0 (.iload_n 1) 33, rv (.iconst (-1)) 34 0 (-1), r0 .iastore 35, r0 (.aload_n 0) 36, r0 (.iload_n 1) 37, rf (.putfield 38) 38 2 9 0 166, r0 (.aload_n 0) 41, rv (.sipush 9999) 42 0 9999, r0 (.aload_n 0) 45, rf (.getfield 41) 46 2 10 0 168, rv (.iconst 1) 49 0 1]
def mt46_1 : List RI := [r0 .iadd 50, ri (.invokestatic 68) 51 200 2 6 1 0 510, rf (.putfield 41) 54 2 10 0 168, r0 .return_ 57]
def mt46 : List (List RI) := [mt46_0, mt46_1]
def mt47_0 : List RI := [rv (.iconst 0) 0 0 0, r0 (.istore_n 1) 1, rv (.iconst 0) 2 0 0, r0 (.istore_n 2) 3, r0 (.iload_n 2) 4, r0 (.aload_n 0) 5, rf (.getfield 28) 6 2 6 0 160, ra (.if_icmp .ge 23) 9 20, r0 (.aload_n 0) 12, r0 (.iload_n 2) 13, ri (.invokevirtual 78) 14 37 2 0 1 2 268, ra (.ifCond .eq 9) 17 18, r0 (.iload_n 1) 20, rv (.iconst 1) 21 0 1, r0 (.iload_n 2) 22, r0 .ishl 23, r0 .ior 24, r0 (.istore_n 1) 25, rv (.iinc 2 1) 26 0 1, ra (.goto (-25)) 29 4, r0 (.iload_n 1) 32, r0 .ireturn 33]
def mt47 : List (List RI) := [mt47_0]
def mt48_0 : List RI := [rv (.iconst 0) 0 0 0, r0 (.istore_n 1) 1, rv (.iconst 0) 2 0 0, r0 (.istore_n 2) 3, r0 (.iload_n 2) 4, r0 (.aload_n 0) 5, rf (.getfield 28) 6 2 6 0 160, ra (.if_icmp .ge 23) 9 20, r0 (.aload_n 0) 12, r0 (.iload_n 2) 13, ri (.invokevirtual 55) 14 35 2 0 1 2 272, ra (.ifCond .eq 9) 17 18, r0 (.iload_n 1) 20, rv (.iconst 1) 21 0 1, r0 (.iload_n 2) 22, r0 .ishl 23, r0 .ior 24, r0 (.istore_n 1) 25, rv (.iinc 2 1) 26 0 1, ra (.goto (-25)) 29 4, r0 (.iload_n 1) 32, r0 .ireturn 33]
def mt48 : List (List RI) := [mt48_0]
def mt49_0 : List RI := [rv (.iconst 0) 0 0 0, r0 (.istore_n 1) 1, rv (.iconst 0) 2 0 0, r0 (.istore_n 2) 3, r0 (.iload_n 2) 4, r0 (.aload_n 0) 5, rf (.getfield 28) 6 2 6 0 160, ra (.if_icmp .ge 23) 9 20, r0 (.aload_n 0) 12, r0 (.iload_n 2) 13, ri (.invokevirtual 102) 14 36 2 0 1 2 316, ra (.ifCond .eq 9) 17 18, r0 (.iload_n 1) 20, rv (.iconst 1) 21 0 1, r0 (.iload_n 2) 22, r0 .ishl 23, r0 .ior 24, r0 (.istore_n 1) 25, rv (.iinc 2 1) 26 0 1, ra (.goto (-25)) 29 4, r0 (.iload_n 1) 32, r0 .ireturn 33]
def mt49 : List (List RI) := [mt49_0]
def mt50_0 : List RI := [r0 (.iload_n 1) 0, rt (.tableswitch 84 (-6) (-1) #[77, 72, 84, 67, 60, 39]) 1 31 [((-6), 26), ((-5), 23), ((-4), 31), ((-3), 20), ((-2), 15), ((-1), 2)], r0 (.aload_n 0) 40, rf (.getfield 18) 41 2 3 0 154, r0 (.iload_n 2) 44, r0 .iaload 45, rv (.iconst (-1)) 46 0 (-1), ra (.if_icmp .ne 7) 47 10, rv (.iconst 0) 50 0 0, ra (.goto 9) 51 14, r0 (.aload_n 0) 54, rf (.getfield 18) 55 2 3 0 154, r0 (.iload_n 2) 58, r0 .iaload 59, r0 .ireturn 60, r0 (.aload_n 0) 61, rf (.getfield 25) 62 2 5 0 158, r0 (.iload_n 2) 65, r0 .iaload 66, r0 .ireturn 67, r0 (.aload_n 0) 68, rf (.getfield 32) 69 2 7 0 162, r0 .ireturn 72, r0 (.aload_n 0) 73, rf (.getfield 41) 74 2 10 0 168, r0 .ireturn 77, r0 (.aload_n 0) 78, rf (.getfield 15) 79 2 2 0 152, r0 (.iload_n 2) 82, r0 .iaload 83, r0 .ireturn 84, rv (.iconst 0) 85 0 0]
def mt50_1 : List RI := [r0 (.istore_n 3) 86, rv (.iconst 0) 87 0 0, r0 (.istore 4) 88, r0 (.iload 4) 90, r0 (.aload_n 0) 92, rf (.getfield 28) 93 2 6 0 160, ra (.if_icmp .ge 33) 96 53, r0 (.aload_n 0) 99, rf (.getfield 18) 100 2 3 0 154, r0 (.iload 4) 103, r0 .iaload 105, rv (.iconst (-1)) 106 0 (-1), ra (.if_icmp .eq 16) 107 51, r0 (.aload_n 0) 110, rf (.getfield 21) 111 2 4 0 156, r0 (.iload 4) 114, r0 .baload 116, ra (.ifCond .ne 6) 117 51, rv (.iinc 3 1) 120 0 1, rv (.iinc 4 1) 123 0 1, ra (.goto (-36)) 126 35, r0 (.iload_n 3) 129, r0 .ireturn 130]
def mt50 : List (List RI) := [mt50_0, mt50_1]
def mt51_0 : List RI := [r0 (.aload_n 0) 0, rf (.getfield 9) 1 3 0 0 87, rv (.iconst 0) 4 0 0, rv (.iconst 5) 5 0 5, r0 .iastore 6, r0 (.aload_n 0) 7, rf (.getfield 9) 8 3 0 0 87, rv (.iconst 1) 11 0 1, rv (.bipush (-2)) 12 0 (-2), r0 .iastore 14, r0 (.aload_n 0) 15, rf (.getfield 9) 16 3 0 0 87, rv (.iconst 2) 19 0 2, rv (.iconst 0) 20 0 0, r0 .iastore 21, rv (.iconst 0) 22 0 0, r0 (.istore_n 1) 23, r0 (.iload_n 1) 24, rv (.iconst 3) 25 0 3, ra (.if_icmp .ge 25) 26 34, r0 (.aload_n 0) 29, rf (.getfield 15) 30 3 1 0 89, r0 (.iload_n 1) 33, r0 (.iload_n 1) 34, r0 .iastore 35, r0 (.aload_n 0) 36, rf (.getfield 18) 37 3 2 0 91, r0 (.iload_n 1) 40, r0 (.iload_n 1) 41, rv (.iconst 1) 42 0 1, r0 .iadd 43, r0 .iastore 44]
def mt51_1 : List RI := [rv (.iinc 1 1) 45 0 1, ra (.goto (-24)) 48 17, r0 (.aload_n 0) 51, rv (.iconst 1) 52 0 1, rf (.putfield 24) 53 3 4 0 94, r0 .return_ 56]
def mt51 : List (List RI) := [mt51_0, mt51_1]
def mt52_0 : List RI := [r0 (.aload_n 2) 0, rf (.getfield 28) 1 2 11 0 172, rv (.iconst 3) 4 0 3, r0 .imul 5, r0 (.iload_n 1) 6, r0 .iadd 7, r0 (.istore 4) 8, rv (.iconst (-1)) 10 0 (-1), r0 (.istore 5) 11, r0 (.aload_n 0) 13, rf (.getfield 15) 14 3 1 0 89, r0 (.iload 4) 17, r0 .iaload 19, r0 (.istore 6) 20, r0 (.iload 6) 22, r0 (.aload_n 0) 24, rf (.getfield 18) 25 3 2 0 91, r0 (.iload 4) 28, r0 .iaload 30, ra (.if_icmp .ge 160) 31 99, r0 (.aload_n 0) 34, rf (.getfield 9) 35 3 0 0 87, r0 (.iload 6) 38, r0 .iaload 40, r0 (.istore 7) 41, r0 (.iload 7) 43, rv (.bipush (-6)) 45 0 (-6), ra (.if_icmp .lt 43) 47 47, rv (.iinc 5 1) 50 0 1, r0 (.iload 5) 53, rv (.sipush 160) 55 0 160, ra (.if_icmp .lt 5) 58 34]
def mt52_1 : List RI := [rv (.iconst 0) 61 0 0, r0 .ireturn 62, r0 (.aload_n 0) 63, rf (.getfield 21) 64 3 3 0 93, r0 (.iload 5) 67, r0 (.iload 7) 69, ra (.ifCond .lt 8) 71 41, r0 (.iload 7) 74, ra (.goto 10) 76 45, r0 (.aload_n 2) 79, r0 (.iload 7) 80, r0 (.iload_n 3) 82, ri (.invokevirtual 33) 83 50 3 0 1 2 284, r0 .iastore 86, ra (.goto 98) 87 97, r0 (.iload 7) 90, rv (.bipush (-8)) 92 0 (-8), ra (.if_icmp .lt 53) 94 76, r0 (.iload 5) 97, ra (.ifCond .ge 5) 99 54, rv (.iconst 0) 102 0 0, r0 .ireturn 103, r0 (.aload_n 0) 104, rf (.getfield 21) 105 3 3 0 93, r0 (.iload 5) 108, r0 (.iload 7) 110, rv (.bipush (-7)) 112 0 (-7), ra (.if_icmp .ne 14) 114 66, r0 (.aload_n 0) 117, rf (.getfield 21) 118 3 3 0 93, r0 (.iload 5) 121, r0 .iaload 123]
def mt52_2 : List RI := [r0 .ineg 124, ra (.goto 18) 125 74, r0 (.aload_n 0) 128, rf (.getfield 21) 129 3 3 0 93, r0 (.iload 5) 132, r0 .iaload 134, ra (.ifCond .ne 7) 135 73, rv (.iconst 1) 138 0 1, ra (.goto 4) 139 74, rv (.iconst 0) 142 0 0, r0 .iastore 143, ra (.goto 41) 144 97, rv (.iinc 5 (-1)) 147 0 (-1), r0 (.iload 5) 150, ra (.ifCond .ge 5) 152 81, rv (.iconst 0) 155 0 0, r0 .ireturn 156, r0 (.aload_n 0) 157, rf (.getfield 21) 158 3 3 0 93, r0 (.iload 5) 161, r0 (.iload 7) 163, r0 (.aload_n 0) 165, rf (.getfield 21) 166 3 3 0 93, r0 (.iload 5) 169, r0 .iaload 171, r0 (.aload_n 0) 172, rf (.getfield 21) 173 3 3 0 93, r0 (.iload 5) 176, rv (.iconst 1) 178 0 1, r0 .iadd 179, r0 .iaload 180, ri (.invokestatic 37) 181 53 3 1 1 3 288]
def mt52_3 : List RI := [r0 .iastore 184, rv (.iinc 6 1) 185 0 1, ra (.goto (-166)) 188 14, r0 (.iload 5) 191, ra (.ifCond .ge 7) 193 103, rv (.iconst 0) 196 0 0, ra (.goto 10) 197 107, r0 (.aload_n 0) 200, rf (.getfield 21) 201 3 3 0 93, r0 (.iload 5) 204, r0 .iaload 206, r0 (.istore 6) 207, r0 (.iload_n 1) 209, ra (.ifCond .ne 7) 210 112, rv (.iconst 0) 213 0 0, ra (.goto 5) 214 113, rv (.bipush (-99)) 217 0 (-99), r0 (.istore 7) 219, r0 (.iload 7) 221, rv (.bipush 99) 223 0 99, r0 (.iload 6) 225, ri (.invokestatic 41) 227 200 2 6 1 0 291, ri (.invokestatic 46) 230 200 2 5 1 0 294, r0 .ireturn 233]
def mt52 : List (List RI) := [mt52_0, mt52_1, mt52_2, mt52_3]
def mt53_0 : List RI := [r0 (.iload_n 0) 0, rt (.tableswitch 105 (-15) (-9) #[101, 97, 93, 82, 71, 57, 43]) 1 44 [((-15), 40), ((-14), 36), ((-13), 32), ((-12), 25), ((-11), 18), ((-10), 10), ((-9), 2)], r0 (.iload_n 1) 44, ra (.ifCond .ne 7) 45 6, r0 (.iload_n 2) 48, ra (.ifCond .eq 7) 49 8, rv (.iconst 1) 52 0 1, ra (.goto 4) 53 9, rv (.iconst 0) 56 0 0, r0 .ireturn 57, r0 (.iload_n 1) 58, ra (.ifCond .eq 11) 59 16, r0 (.iload_n 2) 62, ra (.ifCond .eq 7) 63 16, rv (.iconst 1) 66 0 1, ra (.goto 4) 67 17, rv (.iconst 0) 70 0 0, r0 .ireturn 71, r0 (.iload_n 1) 72, r0 (.iload_n 2) 73, ra (.if_icmp .ge 7) 74 23, rv (.iconst 1) 77 0 1, ra (.goto 4) 78 24, rv (.iconst 0) 81 0 0, r0 .ireturn 82, r0 (.iload_n 1) 83, r0 (.iload_n 2) 84, ra (.if_icmp .ne 7) 85 30, rv (.iconst 1) 88 0 1, ra (.goto 4) 89 31, rv (.iconst 0) 92 0 0, r0 .ireturn 93]
def mt53_1 : List RI := [r0 (.iload_n 1) 94, r0 (.iload_n 2) 95, r0 .iadd 96, r0 .ireturn 97, r0 (.iload_n 1) 98, r0 (.iload_n 2) 99, r0 .isub 100, r0 .ireturn 101, r0 (.iload_n 1) 102, r0 (.iload_n 2) 103, r0 .imul 104, r0 .ireturn 105, rv (.iconst 0) 106 0 0, r0 .ireturn 107]
def mt53 : List (List RI) := [mt53_0, mt53_1]
def mt54_0 : List RI := [r0 (.iload_n 1) 0, rt (.tableswitch 84 0 5 #[39, 47, 55, 63, 71, 79]) 1 25 [(0, 2), (1, 6), (2, 10), (3, 14), (4, 18), (5, 22)], r0 (.aload_n 0) 40, rf (.getfield 34) 41 4 3 0 224, rf (.getfield 62) 44 2 6 0 161, r0 .ireturn 47, r0 (.aload_n 0) 48, rf (.getfield 34) 49 4 3 0 224, rf (.getfield 65) 52 2 7 0 163, r0 .ireturn 55, r0 (.aload_n 0) 56, rf (.getfield 34) 57 4 3 0 224, rf (.getfield 68) 60 2 10 0 169, r0 .ireturn 63, r0 (.aload_n 0) 64, rf (.getfield 16) 65 4 1 0 222, rf (.getfield 71) 68 3 4 0 96, r0 .ireturn 71, r0 (.aload_n 0) 72, rf (.getfield 34) 73 4 3 0 224, rf (.getfield 74) 76 2 11 0 171, r0 .ireturn 79, r0 (.aload_n 0) 80, rf (.getfield 51) 81 4 7 0 228, r0 .ireturn 84, rv (.bipush (-2)) 85 0 (-2), r0 .ireturn 87]
def mt54 : List (List RI) := [mt54_0]
def mt55_0 : List RI := [r0 (.iload_n 1) 0, ra (.ifCond .ne 33) 1 16, r0 (.iload_n 2) 4, rv (.iconst 0) 5 0 0, rv (.sipush 9999) 6 0 9999, ri (.invokestatic 77) 9 90 3 1 1 4 257, ra (.ifCond .eq 22) 12 16, r0 (.aload_n 0) 15, rf (.getfield 34) 16 4 3 0 224, rf (.getfield 65) 19 2 7 0 163, r0 (.istore_n 3) 22, r0 (.aload_n 0) 23, rf (.getfield 34) 24 4 3 0 224, r0 (.iload_n 2) 27, rf (.putfield 65) 28 2 7 0 163, ra (.goto 40) 31 35, r0 (.iload_n 1) 34, rv (.iconst 1) 35 0 1, ra (.if_icmp .ne 32) 36 33, r0 (.iload_n 2) 39, rv (.iconst 0) 40 0 0, rv (.bipush 99) 41 0 99, ri (.invokestatic 77) 43 90 3 1 1 4 257, ra (.ifCond .eq 22) 46 33, r0 (.aload_n 0) 49, rf (.getfield 34) 50 4 3 0 224, rf (.getfield 81) 53 2 8 0 165, r0 (.istore_n 3) 56, r0 (.aload_n 0) 57, rf (.getfield 34) 58 4 3 0 224, r0 (.iload_n 2) 61, rf (.putfield 81) 62 2 8 0 165]
def mt55_1 : List RI := [ra (.goto 6) 65 35, rv (.bipush (-2)) 68 0 (-2), r0 (.istore_n 3) 70, r0 (.iload_n 3) 71, r0 .ireturn 72]
def mt55 : List (List RI) := [mt55_0, mt55_1]
def mt56_0 : List RI := [r0 (.iload_n 1) 0, rt (.tableswitch 87 0 5 #[39, 47, 55, 63, 71, 79]) 1 26 [(0, 2), (1, 6), (2, 10), (3, 14), (4, 18), (5, 22)], r0 (.aload_n 0) 40, rf (.getfield 34) 41 4 3 0 224, rf (.getfield 81) 44 2 8 0 165, r0 .ireturn 47, r0 (.aload_n 0) 48, rf (.getfield 34) 49 4 3 0 224, rf (.getfield 84) 52 2 9 0 167, r0 .ireturn 55, r0 (.aload_n 0) 56, rf (.getfield 34) 57 4 3 0 224, ri (.invokevirtual 87) 60 43 1 0 1 2 264, r0 .ireturn 63, r0 (.aload_n 0) 64, rf (.getfield 34) 65 4 3 0 224, ri (.invokevirtual 91) 68 47 1 0 1 2 304, r0 .ireturn 71, r0 (.aload_n 0) 72, rf (.getfield 34) 73 4 3 0 224, ri (.invokevirtual 94) 76 48 1 0 1 2 308, r0 .ireturn 79, r0 (.aload_n 0) 80, rf (.getfield 34) 81 4 3 0 224, ri (.invokevirtual 97) 84 49 1 0 1 2 312, r0 .ireturn 87, rv (.bipush (-7)) 88 0 (-7), r0 .ireturn 90]
def mt56 : List (List RI) := [mt56_0]
def mt57_0 : List RI := [r0 (.iload_n 1) 0, rv (.iconst 1) 1 0 1, rv (.iconst 5) 2 0 5, ri (.invokestatic 77) 3 90 3 1 1 4 257, ra (.ifCond .eq 41) 6 20, r0 (.iload_n 2) 9, ri (.invokestatic 100) 10 91 1 1 1 4 324, ra (.ifCond .eq 34) 13 20, r0 (.iload_n 3) 16, ri (.invokestatic 100) 17 91 1 1 1 4 324, ra (.ifCond .eq 27) 20 20, r0 (.iload 4) 23, ri (.invokestatic 100) 25 91 1 1 1 4 324, ra (.ifCond .eq 19) 28 20, r0 (.iload 5) 31, ri (.invokestatic 100) 33 91 1 1 1 4 324, ra (.ifCond .eq 11) 36 20, r0 (.iload 6) 39, ri (.invokestatic 100) 41 91 1 1 1 4 324, ra (.ifCond .ne 6) 44 22, rv (.bipush (-2)) 47 0 (-2), r0 .ireturn 49, r0 (.iload_n 1) 50, rv (.sipush 160) 51 0 160, r0 (.aload_n 0) 54, rf (.getfield 51) 55 4 7 0 228, r0 .isub 58, ra (.if_icmp .le 6) 59 30, rv (.bipush (-4)) 62 0 (-4), r0 .ireturn 64, r0 (.aload_n 0) 65, r0 (.iload_n 2) 66]
def mt57_1 : List RI := [ri (.invokevirtual 104) 67 93 2 0 0 4 327, r0 (.iload_n 1) 70, rv (.iconst 1) 71 0 1, ra (.if_icmp .le 8) 72 39, r0 (.aload_n 0) 75, r0 (.iload_n 3) 76, ri (.invokevirtual 104) 77 93 2 0 0 4 327, r0 (.iload_n 1) 80, rv (.iconst 2) 81 0 2, ra (.if_icmp .le 9) 82 45, r0 (.aload_n 0) 85, r0 (.iload 4) 86, ri (.invokevirtual 104) 88 93 2 0 0 4 327, r0 (.iload_n 1) 91, rv (.iconst 3) 92 0 3, ra (.if_icmp .le 9) 93 51, r0 (.aload_n 0) 96, r0 (.iload 5) 97, ri (.invokevirtual 104) 99 93 2 0 0 4 327, r0 (.iload_n 1) 102, rv (.iconst 4) 103 0 4, ra (.if_icmp .le 9) 104 57, r0 (.aload_n 0) 107, r0 (.iload 6) 108, ri (.invokevirtual 104) 110 93 2 0 0 4 327, r0 (.aload_n 0) 113, rf (.getfield 51) 114 4 7 0 228, r0 .ireturn 117]
def mt57 : List (List RI) := [mt57_0, mt57_1]
def mt58_0 : List RI := [r0 (.aload_n 0) 0, rf (.getfield 16) 1 4 1 0 222, rf (.getfield 71) 4 3 4 0 96, rv (.bipush 6) 7 0 6, ra (.if_icmp .lt 6) 9 7, rv (.bipush (-4)) 12 0 (-4), r0 .ireturn 14, r0 (.aload_n 0) 15, rf (.getfield 25) 16 4 2 0 223, r0 (.aload_n 0) 19, rf (.getfield 51) 20 4 7 0 228, ri (.invokevirtual 108) 23 8 2 0 1 0 335, r0 (.istore_n 1) 26, r0 (.aload_n 0) 27, rv (.iconst 0) 28 0 0, rf (.putfield 51) 29 4 7 0 228, r0 (.iload_n 1) 32, rv (.iconst (-1)) 33 0 (-1), ra (.if_icmp .eq 8) 34 23, rv (.bipush (-100)) 37 0 (-100), r0 (.iload_n 1) 39, r0 .isub 40, r0 .ireturn 41, r0 (.aload_n 0) 42, rf (.getfield 16) 43 4 1 0 222, r0 .dup 46, rf (.getfield 71) 47 3 4 0 96, rv (.iconst 1) 50 0 1, r0 .iadd 51, rf (.putfield 71) 52 3 4 0 96, r0 (.aload_n 0) 55, rf (.getfield 16) 56 4 1 0 222]
def mt58_1 : List RI := [rf (.getfield 71) 59 3 4 0 96, rv (.iconst 1) 62 0 1, r0 .isub 63, r0 .ireturn 64]
def mt58 : List (List RI) := [mt58_0, mt58_1]
def mt59_0 : List RI := [r0 (.iload_n 1) 0, rv (.iconst 0) 1 0 0, r0 (.aload_n 0) 2, rf (.getfield 16) 3 4 1 0 222, rf (.getfield 71) 6 3 4 0 96, rv (.iconst 1) 9 0 1, r0 .isub 10, ri (.invokestatic 77) 11 90 3 1 1 4 257, ra (.ifCond .ne 6) 14 11, rv (.bipush (-2)) 17 0 (-2), r0 .ireturn 19, r0 (.aload_n 0) 20, rf (.getfield 34) 21 4 3 0 224, rf (.getfield 74) 24 2 11 0 171, r0 (.istore_n 2) 27, r0 (.aload_n 0) 28, rf (.getfield 34) 29 4 3 0 224, r0 (.iload_n 1) 32, rf (.putfield 74) 33 2 11 0 171, r0 (.iload_n 2) 36, r0 .ireturn 37]
def mt59 : List (List RI) := [mt59_0]
def mt60_0 : List RI := [r0 (.iload_n 1) 0, rv (.iconst 0) 1 0 0, rv (.iconst 2) 2 0 2, ri (.invokestatic 77) 3 90 3 1 1 4 257, ra (.ifCond .eq 15) 6 11, r0 (.aload_n 0) 9, rf (.getfield 34) 10 4 3 0 224, r0 (.iload_n 2) 13, r0 .i2l 14, ri (.invokevirtual 112) 15 33 2 0 1 2 474, ra (.ifCond .ne 7) 18 13, rv (.sipush (-1000)) 21 0 (-1000), r0 .ireturn 24, r0 (.aload_n 0) 25, rf (.getfield 16) 26 4 1 0 222, r0 (.iload_n 1) 29, r0 (.aload_n 0) 30, rf (.getfield 34) 31 4 3 0 224, r0 (.iload_n 2) 34, ri (.invokevirtual 116) 35 52 4 0 1 3 478, r0 .ireturn 38]
def mt60 : List (List RI) := [mt60_0]
def mt61_0 : List RI := [r0 (.aload_n 0) 0, rf (.getfield 34) 1 4 3 0 224, r0 (.iload_n 1) 4, r0 (.iload_n 2) 5, ri (.invokevirtual 120) 6 34 3 0 1 2 483, r0 .ireturn 9]
def mt61 : List (List RI) := [mt61_0]
def mt62_0 : List RI := [r0 (.aload_n 0) 0, rf (.getfield 34) 1 4 3 0 224, r0 (.iload_n 1) 4, r0 .i2l 5, ri (.invokevirtual 112) 6 33 2 0 1 2 474, ra (.ifCond .ne 6) 9 8, rv (.bipush (-5)) 12 0 (-5), r0 .ireturn 14, rv (.bipush (-7)) 15 0 (-7), r0 (.istore 4) 17, r0 (.iload_n 2) 19, ra (.ifCond .ne 48) 20 35, r0 (.aload_n 0) 23, rf (.getfield 34) 24 4 3 0 224, rf (.getfield 84) 27 2 9 0 167, r0 (.iload_n 1) 30, ra (.if_icmp .eq 37) 31 35, r0 (.iload_n 3) 34, rv (.iconst (-1)) 35 0 (-1), rv (.bipush 63) 36 0 63, ri (.invokestatic 77) 38 90 3 1 1 4 257, ra (.ifCond .eq 27) 41 35, r0 (.aload_n 0) 44, rf (.getfield 34) 45 4 3 0 224, rf (.getfield 124) 48 2 3 0 155, r0 (.iload_n 1) 51, r0 .iaload 52, r0 (.istore 4) 53, r0 (.aload_n 0) 55, rf (.getfield 34) 56 4 3 0 224, rf (.getfield 124) 59 2 3 0 155, r0 (.iload_n 1) 62]
def mt62_1 : List RI := [r0 (.iload_n 3) 63, r0 .iastore 64, ra (.goto 89) 65 82, r0 (.iload_n 2) 68, rv (.iconst 1) 69 0 1, ra (.if_icmp .ne 48) 70 62, r0 (.iload_n 3) 73, rv (.iconst 0) 74 0 0, rv (.iconst 1) 75 0 1, ri (.invokestatic 77) 76 90 3 1 1 4 257, ra (.ifCond .eq 39) 79 62, r0 (.aload_n 0) 82, rf (.getfield 34) 83 4 3 0 224, rf (.getfield 127) 86 2 4 0 157, r0 (.iload_n 1) 89, r0 .baload 90, ri (.invokestatic 131) 91 92 1 1 1 4 492, r0 (.istore 4) 94, r0 (.aload_n 0) 96, rf (.getfield 34) 97 4 3 0 224, rf (.getfield 127) 100 2 4 0 157, r0 (.iload_n 1) 103, r0 (.iload_n 3) 104, rv (.iconst 1) 105 0 1, ra (.if_icmp .ne 7) 106 59, rv (.iconst 1) 109 0 1, ra (.goto 4) 110 60, rv (.iconst 0) 113 0 0, r0 .bastore 114, ra (.goto 39) 115 82, r0 (.iload_n 2) 118, rv (.iconst 2) 119 0 2]
def mt62_2 : List RI := [ra (.if_icmp .ne 34) 120 82, r0 (.iload_n 3) 123, rv (.iconst 0) 124 0 0, rv (.bipush 99) 125 0 99, ri (.invokestatic 77) 127 90 3 1 1 4 257, ra (.ifCond .eq 24) 130 82, r0 (.aload_n 0) 133, rf (.getfield 34) 134 4 3 0 224, rf (.getfield 135) 137 2 5 0 159, r0 (.iload_n 1) 140, r0 .iaload 141, r0 (.istore 4) 142, r0 (.aload_n 0) 144, rf (.getfield 34) 145 4 3 0 224, rf (.getfield 135) 148 2 5 0 159, r0 (.iload_n 1) 151, r0 (.iload_n 3) 152, r0 .iastore 153, r0 (.iload 4) 154, r0 .ireturn 156]
def mt62 : List (List RI) := [mt62_0, mt62_1, mt62_2]
def mt63_0 : List RI := [r0 (.aload_n 0) 0, rf (.getfield 34) 1 4 3 0 224, r0 (.iload_n 1) 4, r0 .i2l 5, ri (.invokevirtual 112) 6 33 2 0 1 2 474, ra (.ifCond .ne 6) 9 8, rv (.bipush (-5)) 12 0 (-5), r0 .ireturn 14, r0 (.iload_n 2) 15, rt (.tableswitch 165 0 9 #[56, 66, 79, 89, 99, 109, 118, 131, 144, 156]) 16 71 [(0, 10), (1, 16), (2, 23), (3, 29), (4, 35), (5, 41), (6, 46), (7, 53), (8, 60), (9, 66)], r0 (.aload_n 0) 72, rf (.getfield 34) 73 4 3 0 224, rf (.getfield 124) 76 2 3 0 155, r0 (.iload_n 1) 79, r0 .iaload 80, r0 .ireturn 81, r0 (.aload_n 0) 82, rf (.getfield 34) 83 4 3 0 224, rf (.getfield 127) 86 2 4 0 157, r0 (.iload_n 1) 89, r0 .baload 90, ri (.invokestatic 131) 91 92 1 1 1 4 492, r0 .ireturn 94, r0 (.aload_n 0) 95, rf (.getfield 34) 96 4 3 0 224, rf (.getfield 135) 99 2 5 0 159, r0 (.iload_n 1) 102, r0 .iaload 103, r0 .ireturn 104, r0 (.aload_n 0) 105, rf (.getfield 34) 106 4 3 0 224, rf (.getfield 138) 109 2 1 0 151]
def mt63_1 : List RI := [r0 (.iload_n 1) 112, r0 .iaload 113, r0 .ireturn 114, r0 (.aload_n 0) 115, rf (.getfield 34) 116 4 3 0 224, rf (.getfield 141) 119 2 2 0 153, r0 (.iload_n 1) 122, r0 .iaload 123, r0 .ireturn 124, r0 (.aload_n 0) 125, rf (.getfield 34) 126 4 3 0 224, r0 (.iload_n 1) 129, ri (.invokevirtual 144) 130 40 2 0 1 2 499, r0 .ireturn 133, r0 (.aload_n 0) 134, rf (.getfield 34) 135 4 3 0 224, r0 (.iload_n 1) 138, ri (.invokevirtual 147) 139 41 2 0 1 2 500, rv (.sipush 1000) 142 0 1000, r0 .iadd 145, r0 .ireturn 146, r0 (.aload_n 0) 147, rf (.getfield 34) 148 4 3 0 224, r0 (.iload_n 1) 151, ri (.invokevirtual 150) 152 42 2 0 1 2 501, rv (.sipush 1000) 155 0 1000, r0 .iadd 158, r0 .ireturn 159, r0 (.aload_n 0) 160, rf (.getfield 34) 161 4 3 0 224, r0 (.iload_n 1) 164, ri (.invokevirtual 153) 165 37 2 0 1 2 505]
def mt63_2 : List RI := [ri (.invokestatic 131) 168 92 1 1 1 4 492, r0 .ireturn 171, r0 (.aload_n 0) 172, rf (.getfield 34) 173 4 3 0 224, r0 (.iload_n 1) 176, ri (.invokevirtual 156) 177 38 2 0 1 2 506, r0 .ireturn 180, rv (.bipush (-7)) 181 0 (-7), r0 .ireturn 183]
def mt63 : List (List RI) := [mt63_0, mt63_1, mt63_2]
def mt64_0 : List RI := [r0 (.aload_n 0) 0, rf (.getfield 34) 1 4 3 0 224, rf (.getfield 65) 4 2 7 0 163, rv (.sipush 9999) 7 0 9999, ra (.if_icmp .lt 6) 10 7, rv (.bipush (-3)) 13 0 (-3), r0 .ireturn 15, r0 (.aload_n 0) 16, rf (.getfield 34) 17 4 3 0 224, ri (.invokevirtual 159) 20 45 1 0 1 2 515, r0 .ireturn 23]
def mt64 : List (List RI) := [mt64_0]
def mt65_0 : List RI := [r0 (.aload_n 0) 0, rf (.getfield 34) 1 4 3 0 224, r0 (.iload_n 1) 4, r0 .i2l 5, ri (.invokevirtual 112) 6 33 2 0 1 2 474, ra (.ifCond .ne 6) 9 8, rv (.bipush (-5)) 12 0 (-5), r0 .ireturn 14, r0 (.iload_n 2) 15, rv (.bipush (-63)) 16 0 (-63), rv (.bipush 63) 18 0 63, ri (.invokestatic 77) 20 90 3 1 1 4 257, ra (.ifCond .ne 6) 23 15, rv (.bipush (-7)) 26 0 (-7), r0 .ireturn 28, r0 (.aload_n 0) 29, rf (.getfield 34) 30 4 3 0 224, rf (.getfield 124) 33 2 3 0 155, r0 (.iload_n 1) 36, r0 .iaload 37, rv (.iconst (-1)) 38 0 (-1), ra (.if_icmp .ne 6) 39 24, rv (.bipush (-3)) 42 0 (-3), r0 .ireturn 44, r0 (.aload_n 0) 45, rf (.getfield 34) 46 4 3 0 224, r0 (.iload_n 1) 49, r0 (.iload_n 2) 50, ri (.invokevirtual 162) 51 44 3 0 0 2 534, r0 (.aload_n 0) 54, rf (.getfield 34) 55 4 3 0 224, rf (.getfield 124) 58 2 3 0 155]
def mt65_1 : List RI := [r0 (.iload_n 1) 61, r0 .iaload 62, r0 .ireturn 63]
def mt65 : List (List RI) := [mt65_0, mt65_1]
def mt66_0 : List RI := [r0 (.iload_n 2) 0, rv (.iconst 0) 1 0 0, rv (.iconst 2) 2 0 2, ri (.invokestatic 77) 3 90 3 1 1 4 257, r0 (.istore_n 3) 6, r0 (.aload_n 0) 7, rf (.getfield 34) 8 4 3 0 224, r0 (.iload_n 2) 11, r0 .i2l 12, rw (.ldc2_w 166) 13 539 10, r0 .lsub 16, ri (.invokevirtual 112) 17 33 2 0 1 2 474, r0 (.istore 4) 20, r0 (.aload_n 0) 22, rf (.getfield 34) 23 4 3 0 224, r0 (.iload_n 2) 26, r0 .i2l 27, rw (.ldc2_w 168) 28 540 20, r0 .lsub 31, ri (.invokevirtual 112) 32 33 2 0 1 2 474, r0 (.istore 5) 35, r0 (.iload_n 1) 37, rv (.iconst 0) 38 0 0, rv (.bipush 60) 39 0 60, ri (.invokestatic 77) 41 90 3 1 1 4 257, ra (.ifCond .eq 17) 44 32, r0 (.iload_n 3) 47, ra (.ifCond .ne 16) 48 34, r0 (.iload 4) 51, ra (.ifCond .ne 11) 53 34, r0 (.iload 5) 56, ra (.ifCond .ne 6) 58 34]
def mt66_1 : List RI := [rv (.bipush (-2)) 61 0 (-2), r0 .ireturn 63, r0 (.aload_n 0) 64, rf (.getfield 38) 65 4 4 0 225, r0 (.aload_n 0) 68, rf (.getfield 34) 69 4 3 0 224, ri (.invokevirtual 170) 72 32 2 0 0 2 541, rv (.iconst 0) 75 0 0, r0 (.istore 6) 76, rv (.iconst 0) 78 0 0, r0 (.istore 7) 79, rv (.iconst 0) 81 0 0, r0 (.istore 8) 82, r0 (.iload 8) 84, r0 (.iload_n 1) 86, ra (.if_icmp .ge 39) 87 66, r0 (.aload_n 0) 90, rf (.getfield 38) 91 4 4 0 225, ri (.invokevirtual 159) 94 45 1 0 1 2 515, r0 (.istore 9) 97, r0 (.iload 9) 99, rv (.iconst (-1)) 101 0 (-1), ra (.if_icmp .eq 18) 102 64, rv (.iinc 6 1) 105 0 1, r0 (.iload 7) 108, rv (.bipush 10) 110 0 10, r0 .imul 112, r0 (.iload 9) 113, r0 .iadd 115, rv (.iconst 1) 116 0 1, r0 .iadd 117, r0 (.istore 7) 118]
def mt66_2 : List RI := [rv (.iinc 8 1) 120 0 1, ra (.goto (-39)) 123 45, r0 (.iload 4) 126, ra (.ifCond .eq 16) 128 76, r0 (.aload_n 0) 131, rf (.getfield 38) 132 4 4 0 225, rf (.getfield 124) 135 2 3 0 155, r0 (.iload_n 2) 138, rv (.bipush 10) 139 0 10, r0 .isub 141, r0 .iaload 142, r0 .ireturn 143, r0 (.iload 5) 144, ra (.ifCond .eq 16) 146 86, r0 (.aload_n 0) 149, rf (.getfield 38) 150 4 4 0 225, rf (.getfield 135) 153 2 5 0 159, r0 (.iload_n 2) 156, rv (.bipush 20) 157 0 20, r0 .isub 159, r0 .iaload 160, r0 .ireturn 161, r0 (.iload_n 2) 162, ra (.ifCond .ne 8) 163 90, r0 (.iload 6) 166, ra (.goto 20) 168 98, r0 (.iload_n 2) 171, rv (.iconst 1) 172 0 1, ra (.if_icmp .ne 8) 173 95, r0 (.iload 7) 176, ra (.goto 10) 178 98, r0 (.aload_n 0) 181]
def mt66_3 : List RI := [rf (.getfield 38) 182 4 4 0 225, ri (.invokevirtual 97) 185 49 1 0 1 2 312, r0 .ireturn 188]
def mt66 : List (List RI) := [mt66_0, mt66_1, mt66_2, mt66_3]
def mt67_0 : List RI := [r0 (.iload_n 2) 0, rv (.iconst 0) 1 0 0, rv (.iconst 2) 2 0 2, ri (.invokestatic 77) 3 90 3 1 1 4 257, ra (.ifCond .ne 6) 6 7, rv (.bipush (-7)) 9 0 (-7), r0 .ireturn 11, r0 (.iload_n 2) 12, rv (.iconst 2) 13 0 2, ra (.if_icmp .eq 18) 14 18, r0 (.aload_n 0) 17, rf (.getfield 34) 18 4 3 0 224, r0 (.iload_n 1) 21, r0 .i2l 22, ri (.invokevirtual 112) 23 33 2 0 1 2 474, ra (.ifCond .ne 6) 26 18, rv (.bipush (-5)) 29 0 (-5), r0 .ireturn 31, r0 (.aload_n 0) 32, rf (.getfield 38) 33 4 4 0 225, r0 (.aload_n 0) 36, rf (.getfield 34) 37 4 3 0 224, ri (.invokevirtual 170) 40 32 2 0 0 2 541, rv (.iconst 0) 43 0 0, r0 (.istore_n 3) 44, r0 (.iload_n 3) 45, rv (.bipush 60) 46 0 60, ra (.if_icmp .gt 82) 48 65, r0 (.iload_n 2) 51, ra (.ifCond .ne 14) 52 35, r0 (.aload_n 0) 55, rf (.getfield 38) 56 4 4 0 225]
def mt67_1 : List RI := [r0 (.iload_n 1) 59, ri (.invokevirtual 174) 60 36 2 0 1 2 549, ra (.goto 44) 63 54, r0 (.iload_n 2) 66, rv (.iconst 1) 67 0 1, ra (.if_icmp .ne 14) 68 43, r0 (.aload_n 0) 71, rf (.getfield 38) 72 4 4 0 225, r0 (.iload_n 1) 75, ri (.invokevirtual 153) 76 37 2 0 1 2 505, ra (.goto 28) 79 54, r0 (.aload_n 0) 82, rf (.getfield 38) 83 4 4 0 225, rf (.getfield 81) 86 2 8 0 165, ra (.ifCond .ne 17) 89 53, r0 (.aload_n 0) 92, rf (.getfield 38) 93 4 4 0 225, ri (.invokevirtual 91) 96 47 1 0 1 2 304, ra (.ifCond .ne 7) 99 53, rv (.iconst 1) 102 0 1, ra (.goto 4) 103 54, rv (.iconst 0) 106 0 0, r0 (.istore 4) 107, r0 (.iload 4) 109, ra (.ifCond .eq 5) 111 59, r0 (.iload_n 3) 114, r0 .ireturn 115, r0 (.aload_n 0) 116, rf (.getfield 38) 117 4 4 0 225, ri (.invokevirtual 159) 120 45 1 0 1 2 515, r0 .pop 123, rv (.iinc 3 1) 124 0 1]
def mt67_2 : List RI := [ra (.goto (-82)) 127 25, rv (.iconst (-1)) 130 0 (-1), r0 .ireturn 131]
def mt67 : List (List RI) := [mt67_0, mt67_1, mt67_2]
def mt68_0 : List RI := [r0 (.iload_n 1) 0, rv (.iconst 0) 1 0 0, rv (.bipush 60) 2 0 60, ri (.invokestatic 77) 4 90 3 1 1 4 257, ra (.ifCond .eq 12) 7 10, r0 (.iload_n 2) 10, rv (.iconst 0) 11 0 0, rv (.iconst 1) 12 0 1, ri (.invokestatic 77) 13 90 3 1 1 4 257, ra (.ifCond .ne 6) 16 12, rv (.bipush (-2)) 19 0 (-2), r0 .ireturn 21, r0 (.aload_n 0) 22, rf (.getfield 38) 23 4 4 0 225, r0 (.aload_n 0) 26, rf (.getfield 34) 27 4 3 0 224, ri (.invokevirtual 170) 30 32 2 0 0 2 541, r0 (.aload_n 0) 33, r0 (.iload_n 1) 34, ri (.invokevirtual 177) 35 95 2 0 1 4 554, r0 (.istore_n 3) 38, rv (.iconst (-1)) 39 0 (-1), r0 (.istore 4) 40, rv (.iconst 0) 42 0 0, r0 (.istore 5) 43, r0 (.iload 5) 45, r0 (.aload_n 0) 47, rf (.getfield 34) 48 4 3 0 224, rf (.getfield 62) 51 2 6 0 161, ra (.if_icmp .ge 63) 54 59, r0 (.aload_n 0) 57, rf (.getfield 34) 58 4 3 0 224]
def mt68_1 : List RI := [r0 (.iload 5) 61, ri (.invokevirtual 180) 63 35 2 0 1 2 558, ra (.ifCond .eq 45) 66 57, r0 (.aload_n 0) 69, rf (.getfield 38) 70 4 4 0 225, r0 (.aload_n 0) 73, rf (.getfield 34) 74 4 3 0 224, ri (.invokevirtual 170) 77 32 2 0 0 2 541, r0 (.aload_n 0) 80, rf (.getfield 38) 81 4 4 0 225, rf (.getfield 127) 84 2 4 0 157, r0 (.iload 5) 87, rv (.iconst 1) 89 0 1, r0 .bastore 90, r0 (.aload_n 0) 91, r0 (.iload_n 1) 92, ri (.invokevirtual 177) 93 95 2 0 1 4 554, r0 (.istore 6) 96, r0 (.iload 6) 98, r0 (.iload_n 3) 100, ra (.if_icmp .le 10) 101 57, r0 (.iload 6) 104, r0 (.istore_n 3) 106, r0 (.iload 5) 107, r0 (.istore 4) 109, rv (.iinc 5 1) 111 0 1, ra (.goto (-69)) 114 25, r0 (.iload_n 2) 117, ra (.ifCond .ne 8) 118 63, r0 (.iload 4) 121, ra (.goto 4) 123 64, r0 (.iload_n 3) 126]
def mt68_2 : List RI := [r0 .ireturn 127]
def mt68 : List (List RI) := [mt68_0, mt68_1, mt68_2]
def mt69_0 : List RI := [r0 (.aload_n 0) 0, rf (.getfield 34) 1 4 3 0 224, r0 (.iload_n 1) 4, r0 .i2l 5, ri (.invokevirtual 112) 6 33 2 0 1 2 474, ra (.ifCond .ne 6) 9 8, rv (.bipush (-5)) 12 0 (-5), r0 .ireturn 14, r0 (.iload_n 2) 15, rv (.iconst 0) 16 0 0, rv (.iconst 1) 17 0 1, ri (.invokestatic 77) 18 90 3 1 1 4 257, ra (.ifCond .ne 6) 21 15, rv (.bipush (-7)) 24 0 (-7), r0 .ireturn 26, r0 (.aload_n 0) 27, rf (.getfield 34) 28 4 3 0 224, rf (.getfield 84) 31 2 9 0 167, r0 (.iload_n 1) 34, ra (.if_icmp .ne 6) 35 22, rv (.bipush (-3)) 38 0 (-3), r0 .ireturn 40, rv (.iconst (-1)) 41 0 (-1), r0 (.istore_n 3) 42, rv (.bipush 61) 43 0 61, r0 (.istore 4) 45, rv (.iconst 0) 47 0 0, r0 (.istore 5) 48, r0 (.iload 5) 50, rv (.bipush 64) 52 0 64, ra (.if_icmp .ge 65) 54 64, r0 (.aload_n 0) 57]
def mt69_1 : List RI := [rf (.getfield 38) 58 4 4 0 225, r0 (.aload_n 0) 61, rf (.getfield 34) 62 4 3 0 224, ri (.invokevirtual 170) 65 32 2 0 0 2 541, r0 (.aload_n 0) 68, rf (.getfield 38) 69 4 4 0 225, rf (.getfield 124) 72 2 3 0 155, r0 (.iload_n 1) 75, r0 (.iload 5) 76, r0 .iastore 78, r0 (.aload_n 0) 79, rf (.getfield 38) 80 4 4 0 225, rf (.getfield 127) 83 2 4 0 157, r0 (.iload_n 1) 86, rv (.iconst 0) 87 0 0, r0 .bastore 88, r0 (.aload_n 0) 89, r0 (.iload_n 1) 90, r0 (.iload 4) 91, rv (.iconst 1) 93 0 1, r0 .isub 94, ri (.invokevirtual 183) 95 96 3 0 1 4 563, r0 (.istore 6) 98, r0 (.iload 6) 100, rv (.iconst (-1)) 102 0 (-1), ra (.if_icmp .eq 10) 103 62, r0 (.iload 6) 106, r0 (.istore 4) 108, r0 (.iload 5) 110, r0 (.istore_n 3) 112, rv (.iinc 5 1) 113 0 1, ra (.goto (-66)) 116 28]
def mt69_2 : List RI := [r0 (.iload_n 2) 119, ra (.ifCond .eq 8) 120 69, r0 (.iload_n 3) 123, rv (.iconst (-1)) 124 0 (-1), ra (.if_icmp .ne 5) 125 71, r0 (.iload_n 3) 128, r0 .ireturn 129, r0 (.iload 4) 130, r0 .ireturn 132]
def mt69 : List (List RI) := [mt69_0, mt69_1, mt69_2]
def mt70_0 : List RI := [r0 (.aload_n 0) 0, rf (.getfield 34) 1 4 3 0 224, r0 (.iload_n 1) 4, r0 .i2l 5, ri (.invokevirtual 112) 6 33 2 0 1 2 474, ra (.ifCond .ne 6) 9 8, rv (.bipush (-5)) 12 0 (-5), r0 .ireturn 14, r0 (.iload_n 2) 15, rv (.iconst 0) 16 0 0, rv (.iconst 1) 17 0 1, ri (.invokestatic 77) 18 90 3 1 1 4 257, ra (.ifCond .ne 6) 21 15, rv (.bipush (-7)) 24 0 (-7), r0 .ireturn 26, r0 (.aload_n 0) 27, rf (.getfield 34) 28 4 3 0 224, r0 (.iload_n 1) 31, ri (.invokevirtual 180) 32 35 2 0 1 2 558, ra (.ifCond .ne 5) 35 22, rv (.iconst (-1)) 38 0 (-1), r0 .ireturn 39, r0 (.aload_n 0) 40, rf (.getfield 34) 41 4 3 0 224, rf (.getfield 124) 44 2 3 0 155, r0 (.iload_n 1) 47, r0 .iaload 48, r0 (.istore_n 3) 49, r0 (.aload_n 0) 50, rf (.getfield 38) 51 4 4 0 225, r0 (.aload_n 0) 54, rf (.getfield 34) 55 4 3 0 224]
def mt70_1 : List RI := [ri (.invokevirtual 170) 58 32 2 0 0 2 541, rv (.iconst 0) 61 0 0, r0 (.istore 4) 62, r0 (.iload 4) 64, rv (.bipush 64) 66 0 64, ra (.if_icmp .ge 61) 68 70, r0 (.aload_n 0) 71, r0 (.iload_n 1) 72, r0 (.iload_n 3) 73, r0 (.iload 4) 74, r0 .isub 76, ri (.invokevirtual 186) 77 97 3 0 1 4 571, ra (.ifCond .eq 17) 80 53, r0 (.iload_n 2) 83, ra (.ifCond .ne 8) 84 49, r0 (.iload 4) 87, ra (.goto 7) 89 52, r0 (.iload_n 3) 92, r0 (.iload 4) 93, r0 .isub 95, r0 .ireturn 96, r0 (.aload_n 0) 97, r0 (.iload_n 1) 98, r0 (.iload_n 3) 99, r0 (.iload 4) 100, r0 .iadd 102, ri (.invokevirtual 186) 103 97 3 0 1 4 571, ra (.ifCond .eq 17) 106 68, r0 (.iload_n 2) 109, ra (.ifCond .ne 8) 110 64, r0 (.iload 4) 113, ra (.goto 7) 115 67]
def mt70_2 : List RI := [r0 (.iload_n 3) 118, r0 (.iload 4) 119, r0 .iadd 121, r0 .ireturn 122, rv (.iinc 4 1) 123 0 1, ra (.goto (-62)) 126 35, rv (.iconst (-1)) 129 0 (-1), r0 .ireturn 130]
def mt70 : List (List RI) := [mt70_0, mt70_1, mt70_2]
def mt71_0 : List RI := [r0 (.iload_n 1) 0, rv (.iconst 0) 1 0 0, rv (.iconst 1) 2 0 1, ri (.invokestatic 77) 3 90 3 1 1 4 257, ra (.ifCond .ne 6) 6 7, rv (.bipush (-2)) 9 0 (-2), r0 .ireturn 11, r0 (.aload_n 0) 12, rf (.getfield 34) 13 4 3 0 224, ri (.invokevirtual 94) 16 48 1 0 1 2 308, r0 (.istore_n 2) 19, r0 (.iload_n 2) 20, r0 (.istore_n 3) 21, rv (.iconst 0) 22 0 0, r0 (.istore 4) 23, r0 (.iload 4) 25, r0 (.iload_n 2) 27, ra (.if_icmp .ge 54) 28 43, r0 (.iload 4) 31, r0 (.iload_n 2) 33, rv (.iconst (-1)) 34 0 (-1), r0 .ixor 35, r0 .iand 36, ra (.ifCond .ne 7) 37 26, rv (.iconst 1) 40 0 1, ra (.goto 4) 41 27, rv (.iconst 0) 44 0 0, r0 (.istore 5) 45, r0 (.iload 5) 47, ra (.ifCond .eq 27) 49 41, r0 (.iload 4) 52, ri (.invokestatic 190) 54 0 1 1 1 50 579]
def mt71_1 : List RI := [r0 (.iload_n 3) 57, ri (.invokestatic 190) 58 0 1 1 1 50 579, ra (.if_icmp .ge 15) 61 41, r0 (.aload_n 0) 64, r0 (.iload 4) 65, ri (.invokevirtual 195) 67 98 2 0 1 4 585, ra (.ifCond .eq 6) 70 41, r0 (.iload 4) 73, r0 (.istore_n 3) 75, rv (.iinc 4 1) 76 0 1, ra (.goto (-54)) 79 15, r0 (.iload_n 1) 82, ra (.ifCond .ne 7) 83 47, r0 (.iload_n 3) 86, ra (.goto 7) 87 49, r0 (.iload_n 3) 90, ri (.invokestatic 190) 91 0 1 1 1 50 579, r0 .ireturn 94]
def mt71 : List (List RI) := [mt71_0, mt71_1]
def mt72_0 : List RI := [r0 (.iload_n 1) 0, rv (.iconst 0) 1 0 0, rv (.iconst 1) 2 0 1, ri (.invokestatic 77) 3 90 3 1 1 4 257, ra (.ifCond .ne 6) 6 7, rv (.bipush (-2)) 9 0 (-2), r0 .ireturn 11, rv (.iconst (-1)) 12 0 (-1), r0 (.istore_n 2) 13, rv (.iconst (-1)) 14 0 (-1), r0 (.istore_n 3) 15, rv (.iconst 0) 16 0 0, r0 (.istore 4) 17, r0 (.iload 4) 19, r0 (.aload_n 0) 21, rf (.getfield 34) 22 4 3 0 224, rf (.getfield 62) 25 2 6 0 161, ra (.if_icmp .ge 100) 28 66, rv (.iconst 0) 31 0 0, r0 (.istore 5) 32, r0 (.iload 5) 34, r0 (.aload_n 0) 36, rf (.getfield 34) 37 4 3 0 224, rf (.getfield 62) 40 2 6 0 161, ra (.if_icmp .ge 79) 43 64, r0 (.aload_n 0) 46, rf (.getfield 34) 47 4 3 0 224, r0 (.iload 4) 50, r0 (.iload 5) 52, ri (.invokevirtual 198) 54 39 3 0 1 2 593, ra (.ifCond .eq 59) 57 62, r0 (.aload_n 0) 60]
def mt72_1 : List RI := [rf (.getfield 34) 61 4 3 0 224, rf (.getfield 124) 64 2 3 0 155, r0 (.iload 5) 67, r0 .iaload 69, r0 (.aload_n 0) 70, rf (.getfield 34) 71 4 3 0 224, rf (.getfield 124) 74 2 3 0 155, r0 (.iload 4) 77, r0 .iaload 79, r0 .isub 80, r0 (.iload_n 3) 81, ra (.if_icmp .le 34) 82 62, r0 (.aload_n 0) 85, rf (.getfield 34) 86 4 3 0 224, rf (.getfield 124) 89 2 3 0 155, r0 (.iload 5) 92, r0 .iaload 94, r0 (.aload_n 0) 95, rf (.getfield 34) 96 4 3 0 224, rf (.getfield 124) 99 2 3 0 155, r0 (.iload 4) 102, r0 .iaload 104, r0 .isub 105, r0 (.istore_n 3) 106, rv (.bipush 10) 107 0 10, r0 (.iload 4) 109, r0 .imul 111, r0 (.iload 5) 112, r0 .iadd 114, r0 (.istore_n 2) 115, rv (.iinc 5 1) 116 0 1, ra (.goto (-85)) 119 20]
def mt72_2 : List RI := [rv (.iinc 4 1) 122 0 1, ra (.goto (-106)) 125 13, r0 (.iload_n 1) 128, ra (.ifCond .ne 7) 129 70, r0 (.iload_n 2) 132, ra (.goto 4) 133 71, r0 (.iload_n 3) 136, r0 .ireturn 137]
def mt72 : List (List RI) := [mt72_0, mt72_1, mt72_2]
def mt73_0 : List RI := [rw (.lconst 0) 0 0 0, r0 (.lstore_n 2) 1, rw (.lconst 0) 2 0 0, r0 (.lstore 4) 3, rv (.iconst 0) 5 0 0, r0 (.istore 6) 6, r0 (.iload 6) 8, r0 (.aload_n 0) 10, rf (.getfield 34) 11 4 3 0 224, rf (.getfield 62) 14 2 6 0 161, ra (.if_icmp .ge 43) 17 33, r0 (.aload_n 0) 20, rf (.getfield 34) 21 4 3 0 224, rf (.getfield 124) 24 2 3 0 155, r0 (.iload 6) 27, r0 .iaload 29, rv (.iconst (-1)) 30 0 (-1), ra (.if_icmp .eq 23) 31 31, r0 (.lload_n 2) 34, r0 (.aload_n 0) 35, rf (.getfield 34) 36 4 3 0 224, rf (.getfield 124) 39 2 3 0 155, r0 (.iload 6) 42, r0 .iaload 44, r0 .i2l 45, r0 .ladd 46, r0 (.lstore_n 2) 47, r0 (.lload 4) 48, rw (.lconst 1) 50 0 1, r0 .ladd 51, r0 (.lstore 4) 52, rv (.iinc 6 1) 54 0 1]
def mt73_1 : List RI := [ra (.goto (-49)) 57 6, r0 (.lload_n 2) 60, r0 (.lload 4) 61, r0 (.iload_n 1) 63, ri (.invokestatic 201) 64 103 3 1 2 4 601, r0 .lreturn 67]
def mt73 : List (List RI) := [mt73_0, mt73_1]
def mt74_0 : List RI := [r0 (.aload_n 0) 0, r0 (.iload_n 1) 1, ri (.invokevirtual 205) 2 99 2 0 1 4 610, r0 (.istore_n 2) 5, r0 (.iload_n 2) 6, ra (.ifCond .eq 5) 7 8, r0 (.iload_n 2) 10, r0 .ireturn 11, r0 (.aload_n 0) 12, rf (.getfield 38) 13 4 4 0 225, r0 (.aload_n 0) 16, rf (.getfield 34) 17 4 3 0 224, ri (.invokevirtual 170) 20 32 2 0 0 2 541, r0 (.aload_n 0) 23, r0 (.iload_n 1) 24, ri (.invokevirtual 208) 25 100 2 0 1 4 618, r0 .ireturn 28]
def mt74 : List (List RI) := [mt74_0]
def mt75_0 : List RI := [r0 (.aload_n 0) 0, r0 (.iload_n 1) 1, ri (.invokevirtual 205) 2 99 2 0 1 4 610, r0 (.istore 4) 5, r0 (.iload 4) 7, ra (.ifCond .eq 6) 9 8, r0 (.iload 4) 12, r0 .ireturn 14, r0 (.aload_n 0) 15, rf (.getfield 34) 16 4 3 0 224, r0 (.iload_n 2) 19, r0 .i2l 20, ri (.invokevirtual 112) 21 33 2 0 1 2 474, ra (.ifCond .ne 6) 24 16, rv (.bipush (-5)) 27 0 (-5), r0 .ireturn 29, r0 (.iload_n 3) 30, rv (.iconst 0) 31 0 0, rv (.iconst 1) 32 0 1, ri (.invokestatic 77) 33 90 3 1 1 4 257, ra (.ifCond .ne 6) 36 23, rv (.bipush (-7)) 39 0 (-7), r0 .ireturn 41, r0 (.iload_n 3) 42, ra (.ifCond .ne 8) 43 27, rv (.bipush 6) 46 0 6, ra (.goto 5) 48 28, rv (.bipush 10) 51 0 10, r0 (.istore 5) 53, rv (.iconst 0) 55 0 0, r0 (.istore 6) 56, rv (.iconst 0) 58 0 0]
def mt75_1 : List RI := [r0 (.istore 7) 59, r0 (.iload 7) 61, r0 (.iload 5) 63, ra (.if_icmp .ge 67) 65 69, r0 (.aload_n 0) 68, rf (.getfield 38) 69 4 4 0 225, r0 (.aload_n 0) 72, rf (.getfield 34) 73 4 3 0 224, ri (.invokevirtual 170) 76 32 2 0 0 2 541, r0 (.iload_n 3) 79, ra (.ifCond .ne 17) 80 50, r0 (.aload_n 0) 83, rf (.getfield 38) 84 4 4 0 225, rf (.getfield 138) 87 2 1 0 151, r0 (.iload_n 2) 90, r0 (.iload 7) 91, r0 .iastore 93, ra (.goto 14) 94 56, r0 (.aload_n 0) 97, rf (.getfield 38) 98 4 4 0 225, rf (.getfield 141) 101 2 2 0 153, r0 (.iload_n 2) 104, r0 (.iload 7) 105, r0 .iastore 107, r0 (.aload_n 0) 108, r0 (.iload_n 1) 109, ri (.invokevirtual 208) 110 100 2 0 1 4 618, rv (.iconst (-1)) 113 0 (-1), ra (.if_icmp .ne 12) 114 67, r0 (.iload 6) 117, rv (.iconst 1) 119 0 1, r0 (.iload 7) 120]
def mt75_2 : List RI := [r0 .ishl 122, r0 .ior 123, r0 (.istore 6) 124, rv (.iinc 7 1) 126 0 1, ra (.goto (-68)) 129 33, r0 (.iload 6) 132, r0 .ireturn 134]
def mt75 : List (List RI) := [mt75_0, mt75_1, mt75_2]
def mt76_0 : List RI := [r0 (.aload_n 0) 0, r0 (.iload_n 1) 1, ri (.invokevirtual 205) 2 99 2 0 1 4 610, ra (.ifCond .ne 28) 5 17, r0 (.aload_n 0) 8, rf (.getfield 34) 9 4 3 0 224, r0 (.iload_n 2) 12, r0 .i2l 13, ri (.invokevirtual 112) 14 33 2 0 1 2 474, ra (.ifCond .eq 16) 17 17, r0 (.aload_n 0) 20, rf (.getfield 34) 21 4 3 0 224, rf (.getfield 124) 24 2 3 0 155, r0 (.iload_n 2) 27, r0 .iaload 28, rv (.iconst (-1)) 29 0 (-1), ra (.if_icmp .ne 7) 30 19, rw (.ldc2_w 211) 33 604 (-4611686018427387904), r0 .lreturn 36, rw (.lconst 0) 37 0 0, r0 (.lstore_n 3) 38, rv (.iconst 0) 39 0 0, r0 (.istore 5) 40, r0 (.iload 5) 42, rv (.bipush 64) 44 0 64, ra (.if_icmp .ge 47) 46 50, r0 (.aload_n 0) 49, rf (.getfield 38) 50 4 4 0 225, r0 (.aload_n 0) 53, rf (.getfield 34) 54 4 3 0 224, ri (.invokevirtual 170) 57 32 2 0 0 2 541, r0 (.aload_n 0) 60]
def mt76_1 : List RI := [rf (.getfield 38) 61 4 4 0 225, rf (.getfield 124) 64 2 3 0 155, r0 (.iload_n 2) 67, r0 (.iload 5) 68, r0 .iastore 70, r0 (.aload_n 0) 71, r0 (.iload_n 1) 72, ri (.invokevirtual 208) 73 100 2 0 1 4 618, rv (.iconst (-1)) 76 0 (-1), ra (.if_icmp .ne 10) 77 48, r0 (.lload_n 3) 80, rw (.lconst 1) 81 0 1, r0 (.iload 5) 82, r0 .lshl 84, r0 .lor 85, r0 (.lstore_n 3) 86, rv (.iinc 5 1) 87 0 1, ra (.goto (-48)) 90 23, r0 (.lload_n 3) 93, r0 .lreturn 94]
def mt76 : List (List RI) := [mt76_0, mt76_1]
def mt77_0 : List RI := [r0 (.aload_n 0) 0, r0 (.iload_n 1) 1, ri (.invokevirtual 205) 2 99 2 0 1 4 610, r0 (.istore_n 2) 5, r0 (.iload_n 2) 6, ra (.ifCond .eq 5) 7 8, r0 (.iload_n 2) 10, r0 .ireturn 11, rv (.iconst 0) 12 0 0, r0 (.istore_n 3) 13, rv (.iconst 0) 14 0 0, r0 (.istore 4) 15, r0 (.iload 4) 17, r0 (.aload_n 0) 19, rf (.getfield 34) 20 4 3 0 224, rf (.getfield 62) 23 2 6 0 161, ra (.if_icmp .ge 64) 26 49, r0 (.aload_n 0) 29, rf (.getfield 38) 30 4 4 0 225, r0 (.aload_n 0) 33, rf (.getfield 34) 34 4 3 0 224, ri (.invokevirtual 170) 37 32 2 0 0 2 541, r0 (.aload_n 0) 40, rf (.getfield 38) 41 4 4 0 225, rf (.getfield 127) 44 2 4 0 157, r0 (.iload 4) 47, r0 (.aload_n 0) 49, rf (.getfield 34) 50 4 3 0 224, rf (.getfield 127) 53 2 4 0 157, r0 (.iload 4) 56, r0 .baload 58, ra (.ifCond .ne 7) 59 34]
def mt77_1 : List RI := [rv (.iconst 1) 62 0 1, ra (.goto 4) 63 35, rv (.iconst 0) 66 0 0, r0 .bastore 67, r0 (.aload_n 0) 68, r0 (.iload_n 1) 69, ri (.invokevirtual 208) 70 100 2 0 1 4 618, rv (.iconst (-1)) 73 0 (-1), ra (.if_icmp .ne 10) 74 47, r0 (.iload_n 3) 77, rv (.iconst 1) 78 0 1, r0 (.iload 4) 79, r0 .ishl 81, r0 .ior 82, r0 (.istore_n 3) 83, rv (.iinc 4 1) 84 0 1, ra (.goto (-70)) 87 12, r0 (.iload_n 3) 90, r0 .ireturn 91]
def mt77 : List (List RI) := [mt77_0, mt77_1]
def mt78_0 : List RI := [r0 (.aload_n 0) 0, r0 (.iload_n 1) 1, ri (.invokevirtual 205) 2 99 2 0 1 4 610, r0 (.istore 4) 5, r0 (.iload 4) 7, ra (.ifCond .eq 6) 9 8, r0 (.iload 4) 12, r0 .ireturn 14, r0 (.aload_n 0) 15, rf (.getfield 34) 16 4 3 0 224, r0 (.iload_n 2) 19, r0 .i2l 20, ri (.invokevirtual 112) 21 33 2 0 1 2 474, ra (.ifCond .ne 6) 24 16, rv (.bipush (-5)) 27 0 (-5), r0 .ireturn 29, r0 (.iload_n 3) 30, rv (.iconst 0) 31 0 0, rv (.iconst 1) 32 0 1, ri (.invokestatic 77) 33 90 3 1 1 4 257, ra (.ifCond .ne 6) 36 23, rv (.bipush (-7)) 39 0 (-7), r0 .ireturn 41, rv (.iconst 0) 42 0 0, r0 (.istore 5) 43, rv (.iconst (-1)) 45 0 (-1), r0 (.istore 6) 46, rv (.bipush 99) 48 0 99, r0 (.istore 7) 50, r0 (.iload 7) 52, ra (.ifCond .lt 47) 54 52, r0 (.aload_n 0) 57]
def mt78_1 : List RI := [rf (.getfield 38) 58 4 4 0 225, r0 (.aload_n 0) 61, rf (.getfield 34) 62 4 3 0 224, ri (.invokevirtual 170) 65 32 2 0 0 2 541, r0 (.aload_n 0) 68, rf (.getfield 38) 69 4 4 0 225, rf (.getfield 135) 72 2 5 0 159, r0 (.iload_n 2) 75, r0 (.iload 7) 76, r0 .iastore 78, r0 (.aload_n 0) 79, r0 (.iload_n 1) 80, ri (.invokevirtual 208) 81 100 2 0 1 4 618, rv (.iconst (-1)) 84 0 (-1), ra (.if_icmp .ne 10) 85 50, rv (.iinc 5 1) 88 0 1, r0 (.iload 7) 91, r0 (.istore 6) 93, rv (.iinc 7 (-1)) 95 0 (-1), ra (.goto (-46)) 98 29, r0 (.iload_n 3) 101, ra (.ifCond .ne 8) 102 56, r0 (.iload 5) 105, ra (.goto 5) 107 57, r0 (.iload 6) 110, r0 .ireturn 112]
def mt78 : List (List RI) := [mt78_0, mt78_1]
def mt79_0 : List RI := [r0 (.aload_n 0) 0, r0 (.iload_n 1) 1, ri (.invokevirtual 205) 2 99 2 0 1 4 610, r0 (.istore_n 2) 5, r0 (.iload_n 2) 6, ra (.ifCond .eq 5) 7 8, r0 (.iload_n 2) 10, r0 .ireturn 11, rv (.iconst 0) 12 0 0, r0 (.istore_n 3) 13, rv (.iconst 0) 14 0 0, r0 (.istore 4) 15, r0 (.iload 4) 17, r0 (.aload_n 0) 19, rf (.getfield 16) 20 4 1 0 222, rf (.getfield 71) 23 3 4 0 96, ra (.if_icmp .ge 45) 26 39, r0 (.aload_n 0) 29, rf (.getfield 38) 30 4 4 0 225, r0 (.aload_n 0) 33, rf (.getfield 34) 34 4 3 0 224, ri (.invokevirtual 170) 37 32 2 0 0 2 541, r0 (.aload_n 0) 40, rf (.getfield 38) 41 4 4 0 225, r0 (.iload 4) 44, rf (.putfield 74) 46 2 11 0 171, r0 (.aload_n 0) 49, r0 (.iload_n 1) 50, ri (.invokevirtual 208) 51 100 2 0 1 4 618, rv (.iconst (-1)) 54 0 (-1), ra (.if_icmp .ne 10) 55 37, r0 (.iload_n 3) 58]
def mt79_1 : List RI := [rv (.iconst 1) 59 0 1, r0 (.iload 4) 60, r0 .ishl 62, r0 .ior 63, r0 (.istore_n 3) 64, rv (.iinc 4 1) 65 0 1, ra (.goto (-51)) 68 12, r0 (.iload_n 3) 71, r0 .ireturn 72]
def mt79 : List (List RI) := [mt79_0, mt79_1]
def mt80_0 : List RI := [r0 (.aload_n 0) 0, rf (.getfield 47) 1 4 6 0 227, r0 (.iload_n 1) 4, ri (.invokevirtual 213) 5 26 2 0 1 1 614, ra (.ifCond .ne 6) 8 7, rv (.bipush (-2)) 11 0 (-2), r0 .ireturn 13, r0 (.iload_n 2) 14, rv (.iconst 0) 15 0 0, rv (.bipush 24) 16 0 24, ri (.invokestatic 77) 18 90 3 1 1 4 257, ra (.ifCond .ne 6) 21 14, rv (.bipush (-7)) 24 0 (-7), r0 .ireturn 26, r0 (.aload_n 0) 27, rf (.getfield 47) 28 4 6 0 227, r0 (.iload_n 1) 31, rv (.iconst 0) 32 0 0, r0 (.iload_n 2) 33, ri (.invokevirtual 215) 34 28 4 0 0 1 650, r0 (.aload_n 0) 37, rf (.getfield 38) 38 4 4 0 225, r0 (.aload_n 0) 41, rf (.getfield 34) 42 4 3 0 224, ri (.invokevirtual 170) 45 32 2 0 0 2 541, rv (.iconst 0) 48 0 0, r0 (.istore_n 3) 49, r0 (.iload_n 3) 50, r0 (.iload_n 2) 51, ra (.if_icmp .ge 27) 52 42, r0 (.aload_n 0) 55, rf (.getfield 47) 56 4 6 0 227]
def mt80_1 : List RI := [r0 (.iload_n 1) 59, r0 (.iload_n 3) 60, r0 (.aload_n 0) 61, rf (.getfield 38) 62 4 4 0 225, ri (.invokevirtual 159) 65 45 1 0 1 2 515, rv (.iconst 1) 68 0 1, r0 .iadd 69, ri (.invokevirtual 219) 70 30 4 0 0 1 654, rv (.iinc 3 1) 73 0 1, ra (.goto (-26)) 76 27, r0 (.iload_n 2) 79, r0 .ireturn 80]
def mt80 : List (List RI) := [mt80_0, mt80_1]
def mt81_0 : List RI := [r0 (.iload_n 1) 0, rv (.iconst 0) 1 0 0, rv (.ldc 222) 2 662 99999, ri (.invokestatic 77) 4 90 3 1 1 4 257, ra (.ifCond .eq 12) 7 10, r0 (.iload_n 2) 10, rv (.iconst 0) 11 0 0, rv (.iconst 1) 12 0 1, ri (.invokestatic 77) 13 90 3 1 1 4 257, ra (.ifCond .ne 6) 16 12, rv (.bipush (-2)) 19 0 (-2), r0 .ireturn 21, r0 (.aload_n 0) 22, r0 (.iload_n 1) 23, ri (.invokevirtual 223) 24 101 2 0 1 4 663, r0 (.istore_n 3) 27, r0 (.iload_n 2) 28, ra (.ifCond .ne 7) 29 20, r0 (.iload_n 3) 32, ra (.goto 10) 33 23, r0 (.aload_n 0) 36, rf (.getfield 38) 37 4 4 0 225, ri (.invokevirtual 97) 40 49 1 0 1 2 312, r0 .ireturn 43]
def mt81 : List (List RI) := [mt81_0]
def mt82_0 : List RI := [r0 (.iload_n 1) 0, rv (.iconst 0) 1 0 0, rv (.ldc 222) 2 662 99999, ri (.invokestatic 77) 4 90 3 1 1 4 257, ra (.ifCond .eq 23) 7 15, r0 (.iload_n 2) 10, rv (.iconst 1) 11 0 1, rv (.bipush 40) 12 0 40, ri (.invokestatic 77) 14 90 3 1 1 4 257, ra (.ifCond .eq 13) 17 15, r0 (.iload_n 3) 20, rv (.iconst 0) 21 0 0, rv (.bipush 12) 22 0 12, ri (.invokestatic 77) 24 90 3 1 1 4 257, ra (.ifCond .ne 7) 27 17, rw (.ldc2_w 211) 30 604 (-4611686018427387904), r0 .lreturn 33, rv (.iconst 0) 34 0 0, r0 (.istore 5) 35, rv (.iconst 0) 37 0 0, r0 (.istore 6) 38, r0 (.iload 6) 40, r0 (.iload_n 2) 42, ra (.if_icmp .ge 24) 43 34, r0 (.aload_n 0) 46, r0 (.iload_n 1) 47, r0 (.iload 6) 48, r0 .iadd 50, ri (.invokevirtual 223) 51 101 2 0 1 4 663, r0 (.iload_n 3) 54, ra (.if_icmp .lt 6) 55 32, rv (.iinc 5 1) 58 0 1]
def mt82_1 : List RI := [rv (.iinc 6 1) 61 0 1, ra (.goto (-24)) 64 21, r0 (.iload 5) 67, r0 .i2l 69, r0 (.iload_n 2) 70, r0 .i2l 71, r0 (.iload 4) 72, ri (.invokestatic 201) 74 103 3 1 2 4 601, r0 .lreturn 77]
def mt82 : List (List RI) := [mt82_0, mt82_1]
def mt83_0 : List RI := [r0 (.aload_n 0) 0, rf (.getfield 41) 1 4 5 0 226, r0 (.aload_n 0) 4, rf (.getfield 34) 5 4 3 0 224, ri (.invokevirtual 170) 8 32 2 0 0 2 541, r0 (.aload_n 0) 11, rv (.iconst 1) 12 0 1, rf (.putfield 55) 13 4 8 1 229, r0 (.aload_n 0) 16, rf (.getfield 34) 17 4 3 0 224, rf (.getfield 62) 20 2 6 0 161, r0 .ireturn 23]
def mt83 : List (List RI) := [mt83_0]
def mt84_0 : List RI := [r0 (.aload_n 0) 0, rf (.getfield 55) 1 4 8 1 229, ra (.ifCond .ne 6) 4 5, rv (.bipush (-3)) 7 0 (-3), r0 .ireturn 9, r0 (.aload_n 0) 10, rf (.getfield 34) 11 4 3 0 224, r0 (.aload_n 0) 14, rf (.getfield 41) 15 4 5 0 226, ri (.invokevirtual 170) 18 32 2 0 0 2 541, r0 (.aload_n 0) 21, rf (.getfield 34) 22 4 3 0 224, rf (.getfield 62) 25 2 6 0 161, r0 .ireturn 28]
def mt84 : List (List RI) := [mt84_0]
def mt85_0 : List RI := [r0 (.aload_n 0) 0, rf (.getfield 47) 1 4 6 0 227, r0 (.iload_n 1) 4, ri (.invokevirtual 213) 5 26 2 0 1 1 614, ra (.ifCond .eq 12) 8 10, r0 (.iload_n 2) 11, rv (.iconst (-1)) 12 0 (-1), rv (.iconst 2) 13 0 2, ri (.invokestatic 77) 14 90 3 1 1 4 257, ra (.ifCond .ne 6) 17 12, rv (.bipush (-2)) 20 0 (-2), r0 .ireturn 22, r0 (.iload_n 2) 23, rv (.iconst (-1)) 24 0 (-1), ra (.if_icmp .ne 15) 25 23, r0 (.aload_n 0) 28, rf (.getfield 47) 29 4 6 0 227, r0 (.iload_n 1) 32, rv (.iconst (-1)) 33 0 (-1), rv (.iconst 0) 34 0 0, ri (.invokevirtual 215) 35 28 4 0 0 1 650, rv (.iconst 1) 38 0 1, r0 .ireturn 39, r0 (.iload_n 3) 40, rv (.bipush 40) 41 0 40, ra (.if_icmp .le 6) 43 28, rv (.bipush (-2)) 46 0 (-2), r0 .ireturn 48, r0 (.iload_n 3) 49, ra (.ifCond .ge 6) 50 32, rv (.bipush (-14)) 53 0 (-14), r0 .ireturn 55]
def mt85_1 : List RI := [r0 (.aload_n 0) 56, rf (.getfield 47) 57 4 6 0 227, r0 (.iload_n 1) 60, r0 (.iload_n 2) 61, r0 (.iload_n 3) 62, ri (.invokevirtual 215) 63 28 4 0 0 1 650, rv (.iconst 1) 66 0 1, r0 .ireturn 67]
def mt85 : List (List RI) := [mt85_0, mt85_1]
def mt86_0 : List RI := [r0 (.aload_n 0) 0, rf (.getfield 47) 1 4 6 0 227, r0 (.iload_n 1) 4, ri (.invokevirtual 213) 5 26 2 0 1 1 614, ra (.ifCond .ne 6) 8 7, rv (.bipush (-2)) 11 0 (-2), r0 .ireturn 13, r0 (.aload_n 0) 14, rf (.getfield 47) 15 4 6 0 227, rf (.getfield 226) 18 1 1 0 207, r0 (.iload_n 1) 21, r0 .iaload 22, rv (.iconst (-1)) 23 0 (-1), ra (.if_icmp .ne 6) 24 16, rv (.bipush (-11)) 27 0 (-11), r0 .ireturn 29, r0 (.iload_n 2) 30, rv (.iconst 0) 31 0 0, r0 (.aload_n 0) 32, rf (.getfield 47) 33 4 6 0 227, rf (.getfield 229) 36 1 2 0 209, r0 (.iload_n 1) 39, r0 .iaload 40, rv (.iconst 1) 41 0 1, r0 .isub 42, ri (.invokestatic 77) 43 90 3 1 1 4 257, ra (.ifCond .ne 6) 46 29, rv (.bipush (-12)) 49 0 (-12), r0 .ireturn 51, r0 (.aload_n 0) 52, rf (.getfield 47) 53 4 6 0 227, r0 (.iload_n 1) 56]
def mt86_1 : List RI := [r0 (.iload_n 2) 57, r0 (.iload_n 3) 58, ri (.invokevirtual 219) 59 30 4 0 0 1 654, rv (.iconst 1) 62 0 1, r0 .ireturn 63]
def mt86 : List (List RI) := [mt86_0, mt86_1]
def mt87_0 : List RI := [r0 (.aload_n 0) 0, rf (.getfield 47) 1 4 6 0 227, r0 (.iload_n 1) 4, ri (.invokevirtual 213) 5 26 2 0 1 1 614, ra (.ifCond .eq 14) 8 10, r0 (.aload_n 0) 11, rf (.getfield 47) 12 4 6 0 227, r0 (.iload_n 3) 15, ri (.invokevirtual 213) 16 26 2 0 1 1 614, ra (.ifCond .ne 6) 19 12, rv (.bipush (-2)) 22 0 (-2), r0 .ireturn 24, r0 (.aload_n 0) 25, rf (.getfield 47) 26 4 6 0 227, rf (.getfield 226) 29 1 1 0 207, r0 (.iload_n 1) 32, r0 .iaload 33, rv (.iconst (-1)) 34 0 (-1), ra (.if_icmp .eq 16) 35 26, r0 (.aload_n 0) 38, rf (.getfield 47) 39 4 6 0 227, rf (.getfield 226) 42 1 1 0 207, r0 (.iload_n 3) 45, r0 .iaload 46, rv (.iconst (-1)) 47 0 (-1), ra (.if_icmp .ne 6) 48 28, rv (.bipush (-11)) 51 0 (-11), r0 .ireturn 53, r0 (.aload_n 0) 54, rf (.getfield 47) 55 4 6 0 227, rf (.getfield 226) 58 1 1 0 207, r0 (.iload_n 1) 61]
def mt87_1 : List RI := [r0 .iaload 62, r0 (.aload_n 0) 63, rf (.getfield 47) 64 4 6 0 227, rf (.getfield 226) 67 1 1 0 207, r0 (.iload_n 3) 70, r0 .iaload 71, ra (.if_icmp .eq 6) 72 41, rv (.bipush (-13)) 75 0 (-13), r0 .ireturn 77, r0 (.iload 5) 78, ra (.ifCond .lt 34) 80 59, r0 (.aload_n 0) 83, rf (.getfield 47) 84 4 6 0 227, r0 (.iload_n 1) 87, r0 (.iload_n 2) 88, r0 .i2l 89, r0 (.iload 5) 90, ri (.invokevirtual 232) 92 27 4 0 1 1 698, ra (.ifCond .eq 19) 95 59, r0 (.aload_n 0) 98, rf (.getfield 47) 99 4 6 0 227, r0 (.iload_n 3) 102, r0 (.iload 4) 103, r0 .i2l 105, r0 (.iload 5) 106, ri (.invokevirtual 232) 108 27 4 0 1 1 698, ra (.ifCond .ne 6) 111 61, rv (.bipush (-12)) 114 0 (-12), r0 .ireturn 116, r0 (.aload_n 0) 117, rf (.getfield 47) 118 4 6 0 227, r0 (.iload_n 1) 121]
def mt87_2 : List RI := [r0 (.iload_n 2) 122, r0 (.iload_n 3) 123, r0 (.iload 4) 124, r0 (.iload 5) 126, ri (.invokevirtual 236) 128 31 6 0 0 1 702, r0 (.iload 5) 131, r0 .ireturn 133]
def mt87 : List (List RI) := [mt87_0, mt87_1, mt87_2]
def mt88_0 : List RI := [r0 (.aload_n 0) 0, rf (.getfield 47) 1 4 6 0 227, r0 (.iload_n 1) 4, ri (.invokevirtual 213) 5 26 2 0 1 1 614, ra (.ifCond .eq 23) 8 15, r0 (.iload_n 2) 11, rv (.iconst 0) 12 0 0, rv (.iconst 2) 13 0 2, ri (.invokestatic 77) 14 90 3 1 1 4 257, ra (.ifCond .eq 14) 17 15, r0 (.iload 4) 20, rv (.iconst 0) 22 0 0, rv (.bipush 6) 23 0 6, ri (.invokestatic 77) 25 90 3 1 1 4 257, ra (.ifCond .ne 6) 28 17, rv (.bipush (-2)) 31 0 (-2), r0 .ireturn 33, r0 (.aload_n 0) 34, rf (.getfield 47) 35 4 6 0 227, rf (.getfield 226) 38 1 1 0 207, r0 (.iload_n 1) 41, r0 .iaload 42, rv (.iconst (-1)) 43 0 (-1), ra (.if_icmp .ne 6) 44 26, rv (.bipush (-11)) 47 0 (-11), r0 .ireturn 49, r0 (.aload_n 0) 50, rf (.getfield 47) 51 4 6 0 227, rf (.getfield 226) 54 1 1 0 207, r0 (.iload_n 1) 57, r0 .iaload 58, r0 (.iload_n 2) 59]
def mt88_1 : List RI := [ra (.if_icmp .eq 6) 60 35, rv (.bipush (-13)) 63 0 (-13), r0 .ireturn 65, rv (.iconst 0) 66 0 0, r0 (.istore 5) 67, rv (.iconst 0) 69 0 0, r0 (.istore 6) 70, r0 (.iload 6) 72, r0 (.iload 4) 74, ra (.if_icmp .ge 78) 76 81, r0 (.iload_n 3) 79, r0 .i2l 80, rw (.ldc2_w 240) 81 713 2, r0 (.iload 6) 84, r0 .i2l 86, r0 .lmul 87, r0 .ladd 88, r0 (.lstore 7) 89, r0 (.aload_n 0) 91, rf (.getfield 47) 92 4 6 0 227, r0 (.iload_n 1) 95, r0 (.lload 7) 96, rv (.iconst 2) 98 0 2, ri (.invokevirtual 232) 99 27 4 0 1 1 698, ra (.ifCond .ne 6) 102 59, rv (.bipush (-12)) 105 0 (-12), r0 .ireturn 107, r0 (.lload 7) 108, r0 .l2i 110, r0 (.istore 9) 111, r0 (.aload_n 0) 113, rf (.getfield 34) 114 4 3 0 224]
def mt88_2 : List RI := [r0 (.aload_n 0) 117, rf (.getfield 47) 118 4 6 0 227, r0 (.iload_n 1) 121, r0 (.iload 9) 122, ri (.invokevirtual 242) 124 29 3 0 1 1 622, r0 (.aload_n 0) 127, rf (.getfield 47) 128 4 6 0 227, r0 (.iload_n 1) 131, r0 (.iload 9) 132, rv (.iconst 1) 134 0 1, r0 .iadd 135, ri (.invokevirtual 242) 136 29 3 0 1 1 622, ri (.invokevirtual 120) 139 34 3 0 1 2 483, ra (.ifCond .lt 6) 142 79, rv (.iinc 5 1) 145 0 1, rv (.iinc 6 1) 148 0 1, ra (.goto (-79)) 151 39, r0 (.iload 5) 154, r0 .ireturn 156]
def mt88 : List (List RI) := [mt88_0, mt88_1, mt88_2]
def mt89_0 : List RI := [r0 (.iload_n 2) 0, rv (.iconst 0) 1 0 0, rv (.bipush 6) 2 0 6, ri (.invokestatic 77) 4 90 3 1 1 4 257, ra (.ifCond .ne 6) 7 7, rv (.bipush (-2)) 10 0 (-2), r0 .ireturn 12, r0 (.iload_n 1) 13, rv (.iconst 0) 14 0 0, rv (.bipush 11) 15 0 11, ri (.invokestatic 77) 17 90 3 1 1 4 257, ra (.ifCond .ne 6) 20 14, rv (.bipush (-12)) 23 0 (-12), r0 .ireturn 25, r0 (.iload_n 1) 26, rv (.bipush 6) 27 0 6, r0 .irem 29, r0 (.istore_n 3) 30, r0 (.iload_n 1) 31, rv (.bipush 6) 32 0 6, ra (.if_icmp .lt 7) 34 23, rv (.iconst 1) 37 0 1, ra (.goto 4) 38 24, rv (.iconst 0) 41 0 0, r0 (.istore 4) 42, r0 (.aload_n 0) 44, rf (.getfield 34) 45 4 3 0 224, r0 (.iload_n 3) 48, r0 .i2l 49, ri (.invokevirtual 112) 50 33 2 0 1 2 474, ra (.ifCond .ne 6) 53 33, rv (.bipush (-11)) 56 0 (-11)]
def mt89_1 : List RI := [r0 .ireturn 58, r0 (.iload 4) 59, ra (.ifCond .eq 24) 61 46, r0 (.iload_n 2) 64, rv (.bipush 6) 65 0 6, ra (.if_icmp .ne 15) 67 44, r0 (.aload_n 0) 70, rf (.getfield 34) 71 4 3 0 224, rf (.getfield 135) 74 2 5 0 159, r0 (.iload_n 3) 77, r0 .iaload 78, ra (.goto 5) 79 45, rv (.bipush (-13)) 82 0 (-13), r0 .ireturn 84, r0 (.aload_n 0) 85, rf (.getfield 34) 86 4 3 0 224, rf (.getfield 138) 89 2 1 0 151, r0 (.iload_n 3) 92, r0 .iaload 93, r0 (.iload_n 2) 94, ri (.invokestatic 245) 95 94 2 1 1 4 718, ra (.ifCond .eq 7) 98 56, r0 (.iload_n 3) 101, ra (.goto 5) 102 57, rv (.bipush (-13)) 105 0 (-13), r0 .ireturn 107]
def mt89 : List (List RI) := [mt89_0, mt89_1]
def mt90_0 : List RI := [r0 (.iload_n 0) 0, r0 (.iload_n 1) 1, ra (.if_icmp .lt 12) 2 8, r0 (.iload_n 0) 5, r0 (.iload_n 2) 6, ra (.if_icmp .gt 7) 7 8, rv (.iconst 1) 10 0 1, ra (.goto 4) 11 9, rv (.iconst 0) 14 0 0, ra .ireturn 15 1]
def mt90 : List (List RI) := [mt90_0]
def mt91_0 : List RI := [r0 (.iload_n 0) 0, rv (.iconst 0) 1 0 0, rv (.sipush 255) 2 0 255, ri (.invokestatic 77) 5 90 3 1 1 4 257, ra .ireturn 8 1]
def mt91 : List (List RI) := [mt91_0]
def mt92_0 : List RI := [r0 (.iload_n 0) 0, ra (.ifCond .eq 7) 1 4, rv (.iconst 1) 4 0 1, ra (.goto 4) 5 5, rv (.iconst 0) 8 0 0, r0 .ireturn 9]
def mt92 : List (List RI) := [mt92_0]
def mt93_0 : List RI := [r0 (.aload_n 0) 0, rf (.getfield 51) 1 4 7 0 228, rv (.sipush 160) 4 0 160, ra (.if_icmp .ge 23) 7 16, r0 (.aload_n 0) 10, rf (.getfield 9) 11 4 0 0 221, r0 (.aload_n 0) 14, rf (.getfield 51) 15 4 7 0 228, r0 (.iload_n 1) 18, r0 .iastore 19, r0 (.aload_n 0) 20, r0 .dup 21, rf (.getfield 51) 22 4 7 0 228, rv (.iconst 1) 25 0 1, r0 .iadd 26, rf (.putfield 51) 27 4 7 0 228, r0 .return_ 30]
def mt93 : List (List RI) := [mt93_0]
def mt94_0 : List RI := [r0 (.iload_n 1) 0, ra (.ifCond .eq 28) 1 17, r0 (.iload_n 0) 4, r0 (.iload_n 1) 5, ra (.if_icmp .eq 23) 6 17, r0 (.iload_n 1) 9, rv (.iconst 1) 10 0 1, ra (.if_icmp .ne 8) 11 11, r0 (.iload_n 0) 14, rv (.iconst 3) 15 0 3, ra (.if_icmp .eq 13) 16 17, r0 (.iload_n 1) 19, rv (.iconst 2) 20 0 2, ra (.if_icmp .ne 12) 21 19, r0 (.iload_n 0) 24, rv (.iconst 4) 25 0 4, ra (.if_icmp .ne 7) 26 19, rv (.iconst 1) 29 0 1, ra (.goto 4) 30 20, rv (.iconst 0) 33 0 0, ra .ireturn 34 1]
def mt94 : List (List RI) := [mt94_0]
def mt95_0 : List RI := [rv (.iconst 0) 0 0 0, r0 (.istore_n 2) 1, rv (.iconst 0) 2 0 0, r0 (.istore_n 3) 3, r0 (.iload_n 3) 4, r0 (.iload_n 1) 5, ra (.if_icmp .ge 23) 6 15, r0 (.aload_n 0) 9, rf (.getfield 38) 10 4 4 0 225, ri (.invokevirtual 159) 13 45 1 0 1 2 515, rv (.iconst (-1)) 16 0 (-1), ra (.if_icmp .eq 6) 17 13, rv (.iinc 2 1) 20 0 1, rv (.iinc 3 1) 23 0 1, ra (.goto (-22)) 26 4, r0 (.iload_n 2) 29, r0 .ireturn 30]
def mt95 : List (List RI) := [mt95_0]
def mt96_0 : List RI := [rv (.iconst 0) 0 0 0, r0 (.istore_n 3) 1, r0 (.iload_n 3) 2, r0 (.iload_n 2) 3, ra (.if_icmp .gt 35) 4 21, r0 (.aload_n 0) 7, rf (.getfield 38) 8 4 4 0 225, r0 (.iload_n 1) 11, ri (.invokevirtual 174) 12 36 2 0 1 2 549, ra (.ifCond .eq 5) 15 12, r0 (.iload_n 3) 18, r0 .ireturn 19, r0 (.iload_n 3) 20, r0 (.iload_n 2) 21, ra (.if_icmp .ge 11) 22 19, r0 (.aload_n 0) 25, rf (.getfield 38) 26 4 4 0 225, ri (.invokevirtual 159) 29 45 1 0 1 2 515, r0 .pop 32, rv (.iinc 3 1) 33 0 1, ra (.goto (-34)) 36 2, rv (.iconst (-1)) 39 0 (-1), r0 .ireturn 40]
def mt96 : List (List RI) := [mt96_0]
def mt97_0 : List RI := [r0 (.iload_n 2) 0, rv (.iconst 0) 1 0 0, rv (.bipush 63) 2 0 63, ri (.invokestatic 77) 4 90 3 1 1 4 257, ra (.ifCond .ne 5) 7 7, rv (.iconst 0) 10 0 0, ra .ireturn 11 1, r0 (.aload_n 0) 12, rf (.getfield 38) 13 4 4 0 225, rf (.getfield 124) 16 2 3 0 155, r0 (.iload_n 1) 19, r0 (.iload_n 2) 20, r0 .iastore 21, r0 (.aload_n 0) 22, rf (.getfield 38) 23 4 4 0 225, r0 (.iload_n 1) 26, ri (.invokevirtual 153) 27 37 2 0 1 2 505, ra .ireturn 30 1]
def mt97 : List (List RI) := [mt97_0]
def mt98_0 : List RI := [r0 (.aload_n 0) 0, rf (.getfield 38) 1 4 4 0 225, r0 (.aload_n 0) 4, rf (.getfield 34) 5 4 3 0 224, ri (.invokevirtual 170) 8 32 2 0 0 2 541, rv (.iconst 0) 11 0 0, r0 (.istore_n 2) 12, r0 (.iload_n 2) 13, r0 (.aload_n 0) 14, rf (.getfield 34) 15 4 3 0 224, rf (.getfield 62) 18 2 6 0 161, ra (.if_icmp .ge 28) 21 27, r0 (.iload_n 1) 24, r0 (.iload_n 2) 25, r0 .ishr 26, rv (.iconst 1) 27 0 1, r0 .iand 28, rv (.iconst 1) 29 0 1, ra (.if_icmp .ne 13) 30 25, r0 (.aload_n 0) 33, rf (.getfield 38) 34 4 4 0 225, rf (.getfield 127) 37 2 4 0 157, r0 (.iload_n 2) 40, rv (.iconst 1) 41 0 1, r0 .bastore 42, rv (.iinc 2 1) 43 0 1, ra (.goto (-33)) 46 7, r0 (.aload_n 0) 49, rf (.getfield 38) 50 4 4 0 225, ri (.invokevirtual 91) 53 47 1 0 1 2 304, r0 (.aload_n 0) 56, rf (.getfield 38) 57 4 4 0 225]
def mt98_1 : List RI := [ri (.invokevirtual 94) 60 48 1 0 1 2 308, ra (.if_icmp .ne 7) 63 36, rv (.iconst 1) 66 0 1, ra (.goto 4) 67 37, rv (.iconst 0) 70 0 0, ra .ireturn 71 1]
def mt98 : List (List RI) := [mt98_0, mt98_1]
def mt99_0 : List RI := [r0 (.aload_n 0) 0, rf (.getfield 47) 1 4 6 0 227, r0 (.iload_n 1) 4, ri (.invokevirtual 213) 5 26 2 0 1 1 614, ra (.ifCond .ne 6) 8 7, rv (.bipush (-2)) 11 0 (-2), r0 .ireturn 13, r0 (.aload_n 0) 14, rf (.getfield 47) 15 4 6 0 227, rf (.getfield 226) 18 1 1 0 207, r0 (.iload_n 1) 21, r0 .iaload 22, rv (.iconst (-1)) 23 0 (-1), ra (.if_icmp .ne 6) 24 16, rv (.bipush (-11)) 27 0 (-11), r0 .ireturn 29, r0 (.aload_n 0) 30, rf (.getfield 47) 31 4 6 0 227, rf (.getfield 229) 34 1 2 0 209, r0 (.iload_n 1) 37, r0 .iaload 38, rv (.bipush 24) 39 0 24, ra (.if_icmp .le 8) 41 25, rv (.bipush (-2)) 44 0 (-2), ra (.goto 4) 46 26, rv (.iconst 0) 49 0 0, r0 .ireturn 50]
def mt99 : List (List RI) := [mt99_0]
def mt100_0 : List RI := [rv (.iconst 0) 0 0 0, r0 (.istore_n 2) 1, r0 (.iload_n 2) 2, r0 (.aload_n 0) 3, rf (.getfield 47) 4 4 6 0 227, rf (.getfield 229) 7 1 2 0 209, r0 (.iload_n 1) 10, r0 .iaload 11, ra (.if_icmp .ge 32) 12 24, r0 (.aload_n 0) 15, rf (.getfield 38) 16 4 4 0 225, ri (.invokevirtual 159) 19 45 1 0 1 2 515, rv (.iconst 1) 22 0 1, r0 .iadd 23, r0 (.aload_n 0) 24, rf (.getfield 47) 25 4 6 0 227, r0 (.iload_n 1) 28, r0 (.iload_n 2) 29, ri (.invokevirtual 242) 30 29 3 0 1 1 622, ra (.if_icmp .eq 5) 33 22, r0 (.iload_n 2) 36, r0 .ireturn 37, rv (.iinc 2 1) 38 0 1, ra (.goto (-39)) 41 2, rv (.iconst (-1)) 44 0 (-1), r0 .ireturn 45]
def mt100 : List (List RI) := [mt100_0]
def mt101_0 : List RI := [r0 (.aload_n 0) 0, rf (.getfield 38) 1 4 4 0 225, r0 (.aload_n 0) 4, rf (.getfield 34) 5 4 3 0 224, ri (.invokevirtual 170) 8 32 2 0 0 2 541, r0 (.iload_n 1) 11, r0 .i2l 12, rw (.lconst 1) 13 0 1, r0 .ladd 14, r0 (.lstore_n 2) 15, rv (.iconst 0) 16 0 0, r0 (.istore 4) 17, rv (.iconst 0) 19 0 0, r0 (.istore 5) 20, r0 (.iload 5) 22, rv (.bipush 12) 24 0 12, ra (.if_icmp .ge 84) 26 58, r0 (.lload_n 2) 29, ri (.invokestatic 248) 30 102 1 1 2 4 667, r0 (.lstore_n 2) 33, r0 (.lload_n 2) 34, rw (.ldc2_w 252) 35 672 6, r0 .lrem 38, r0 .l2i 39, r0 (.istore 6) 40, r0 (.lload_n 2) 42, ri (.invokestatic 248) 43 102 1 1 2 4 667, r0 (.lstore_n 2) 46, r0 (.aload_n 0) 47, rf (.getfield 38) 48 4 4 0 225, r0 (.iload 6) 51, r0 .i2l 53]
def mt101_1 : List RI := [ri (.invokevirtual 112) 54 33 2 0 1 2 474, ra (.ifCond .eq 33) 57 50, r0 (.aload_n 0) 60, rf (.getfield 38) 61 4 4 0 225, rf (.getfield 124) 64 2 3 0 155, r0 (.iload 6) 67, r0 .iaload 69, rv (.iconst (-1)) 70 0 (-1), ra (.if_icmp .eq 19) 71 50, r0 (.aload_n 0) 74, rf (.getfield 38) 75 4 4 0 225, rf (.getfield 124) 78 2 3 0 155, r0 (.iload 6) 81, r0 (.lload_n 2) 83, rw (.ldc2_w 254) 84 673 64, r0 .lrem 87, r0 .l2i 88, r0 .iastore 89, r0 (.aload_n 0) 90, rf (.getfield 38) 91 4 4 0 225, ri (.invokevirtual 159) 94 45 1 0 1 2 515, rv (.iconst (-1)) 97 0 (-1), ra (.if_icmp .eq 6) 98 56, rv (.iinc 4 1) 101 0 1, rv (.iinc 5 1) 104 0 1, ra (.goto (-85)) 107 14, r0 (.iload 4) 110, r0 .ireturn 112]
def mt101 : List (List RI) := [mt101_0, mt101_1]
def mt102_0 : List RI := [r0 (.lload_n 0) 0, rw (.ldc2_w 256) 1 670 48271, r0 .lmul 4, rw (.ldc2_w 258) 5 671 2147483647, r0 .lrem 8, r0 .lreturn 9]
def mt102 : List (List RI) := [mt102_0]
def mt103_0 : List RI := [r0 (.lload_n 2) 0, rw (.lconst 1) 1 0 1, r0 .lcmp 2, ra (.ifCond .lt 13) 3 9, r0 (.iload 4) 6, rv (.iconst 0) 8 0 0, rv (.iconst 1) 9 0 1, ri (.invokestatic 77) 10 90 3 1 1 4 257, ra (.ifCond .ne 7) 13 11, rw (.ldc2_w 211) 16 604 (-4611686018427387904), r0 .lreturn 19, r0 (.lload_n 2) 20, r0 (.lstore 5) 21, r0 (.lload_n 0) 23, r0 (.lstore 7) 24, rv (.iconst 0) 26 0 0, r0 (.istore 9) 27, r0 (.iload 9) 29, r0 .i2l 31, rw (.ldc2_w 260) 32 605 100, r0 .lcmp 35, ra (.ifCond .ge 31) 36 36, r0 (.lload 7) 39, rw (.lconst 0) 41 0 0, r0 .lcmp 42, ra (.ifCond .eq 24) 43 36, r0 (.lload 5) 46, r0 (.lload 7) 48, r0 .lrem 50, r0 (.lstore 10) 51, r0 (.lload 7) 53, r0 (.lstore 5) 55]
def mt103_1 : List RI := [r0 (.lload 10) 57, r0 (.lstore 7) 59, rv (.iinc 9 1) 61 0 1, ra (.goto (-35)) 64 17, r0 (.lload 5) 67, rw (.lconst 0) 69 0 0, r0 .lcmp 70, ra (.ifCond .ne 7) 71 42, rw (.ldc2_w 211) 74 604 (-4611686018427387904), r0 .lreturn 77, r0 (.iload 4) 78, ra (.ifCond .ne 7) 80 46, r0 (.lload_n 0) 83, ra (.goto 4) 84 47, r0 (.lload_n 2) 87, r0 (.lload 5) 88, r0 .ldiv 90, r0 .lreturn 91]
def mt103 : List (List RI) := [mt103_0, mt103_1]
def mt104_0 : List RI := [r0 (.iload_n 0) 0, r0 (.iload_n 1) 1, ra (.if_icmp .lt 12) 2 8, r0 (.iload_n 0) 5, r0 (.iload_n 2) 6, ra (.if_icmp .gt 7) 7 8, rv (.iconst 1) 10 0 1, ra (.goto 4) 11 9, rv (.iconst 0) 14 0 0, ra .ireturn 15 1]
def mt104 : List (List RI) := [mt104_0]
def mt105_0 : List RI := [r0 (.iload_n 0) 0, r0 (.iload_n 1) 1, ra (.if_icmp .ge 7) 2 5, r0 (.iload_n 1) 5, ra (.goto 13) 6 11, r0 (.iload_n 0) 9, r0 (.iload_n 2) 10, ra (.if_icmp .le 7) 11 10, r0 (.iload_n 2) 14, ra (.goto 4) 15 11, r0 (.iload_n 0) 18, r0 .ireturn 19]
def mt105 : List (List RI) := [mt105_0]
def mt106_0 : List RI := [rv (.iconst 0) 0 0 0, r0 (.istore_n 1) 1, rv (.iconst 0) 2 0 0, r0 (.istore_n 2) 3, r0 (.iload_n 2) 4, rv (.bipush 6) 5 0 6, ra (.if_icmp .ge 17) 7 17, r0 (.iload_n 1) 10, r0 (.iload_n 0) 11, r0 (.iload_n 2) 12, r0 .ishr 13, rv (.iconst 1) 14 0 1, r0 .iand 15, r0 .iadd 16, r0 (.istore_n 1) 17, rv (.iinc 2 1) 18 0 1, ra (.goto (-17)) 21 4, r0 (.iload_n 1) 24, r0 .ireturn 25]
def mt106 : List (List RI) := [mt106_0]
def mt107_0 : List RI := [r0 (.iload_n 1) 0, rv (.iconst 0) 1 0 0, r0 (.aload_n 0) 2, rf (.getfield 72) 3 5 0 0 774, rv (.iconst 1) 6 0 1, r0 .isub 7, ri (.invokestatic 75) 8 104 3 1 1 5 735, ra .ireturn 11 1]
def mt107 : List (List RI) := [mt107_0]
def mt108_0 : List RI := [r0 (.aload_n 0) 0, rf (.getfield 16) 1 5 3 0 777, rv (.iconst 3) 4 0 3, r0 (.iload_n 1) 5, r0 .imul 6, r0 .iaload 7, rv (.iconst (-1)) 8 0 (-1), ra (.if_icmp .eq 7) 9 10, rv (.iconst 1) 12 0 1, ra (.goto 4) 13 11, rv (.iconst 0) 16 0 0, ra .ireturn 17 1]
def mt108 : List (List RI) := [mt108_0]
def mt109_0 : List RI := [r0 (.aload_n 0) 0, r0 (.iload_n 1) 1, ri (.invokevirtual 79) 2 108 2 0 1 5 895, ra (.ifCond .eq 20) 5 15, r0 (.aload_n 0) 8, rf (.getfield 16) 9 5 3 0 777, rv (.iconst 3) 12 0 3, r0 (.iload_n 1) 13, r0 .imul 14, rv (.iconst 1) 15 0 1, r0 .iadd 16, r0 .iaload 17, ra (.ifCond .ne 7) 18 15, rv (.iconst 1) 21 0 1, ra (.goto 4) 22 16, rv (.iconst 0) 25 0 0, ra .ireturn 26 1]
def mt109 : List (List RI) := [mt109_0]
def mt110_0 : List RI := [rv (.iconst 0) 0 0 0, r0 (.istore_n 1) 1, rv (.iconst 0) 2 0 0, r0 (.istore_n 2) 3, r0 (.iload_n 2) 4, r0 (.aload_n 0) 5, rf (.getfield 72) 6 5 0 0 774, ra (.if_icmp .ge 27) 9 22, r0 (.iload_n 1) 12, r0 (.aload_n 0) 13, r0 (.iload_n 2) 14, ri (.invokevirtual 83) 15 109 2 0 1 5 891, ra (.ifCond .eq 9) 18 17, rv (.iconst 1) 21 0 1, r0 (.iload_n 2) 22, r0 .ishl 23, ra (.goto 4) 24 18, rv (.iconst 0) 27 0 0, r0 .ior 28, r0 (.istore_n 1) 29, rv (.iinc 2 1) 30 0 1, ra (.goto (-29)) 33 4, r0 (.iload_n 1) 36, r0 .ireturn 37]
def mt110 : List (List RI) := [mt110_0]
def mt111_0 : List RI := [r0 (.aload_n 0) 0, r0 (.iload_n 1) 1, ri (.invokevirtual 79) 2 108 2 0 1 5 895, ra (.ifCond .ne 17) 5 12, r0 (.aload_n 0) 8, rf (.getfield 19) 9 5 4 0 778, rv (.iconst 1) 12 0 1, r0 .iaload 13, r0 (.iload_n 1) 14, ra (.if_icmp .eq 7) 15 12, rv (.iconst 1) 18 0 1, ra (.goto 4) 19 13, rv (.iconst 0) 22 0 0, ra .ireturn 23 1]
def mt111 : List (List RI) := [mt111_0]
def mt112_0 : List RI := [rv (.iconst 0) 0 0 0, r0 (.istore_n 1) 1, rv (.iconst 0) 2 0 0, r0 (.istore_n 2) 3, r0 (.iload_n 2) 4, r0 (.aload_n 0) 5, rf (.getfield 72) 6 5 0 0 774, ra (.if_icmp .ge 27) 9 22, r0 (.iload_n 1) 12, r0 (.aload_n 0) 13, r0 (.iload_n 2) 14, ri (.invokevirtual 86) 15 111 2 0 1 5 940, ra (.ifCond .eq 9) 18 17, rv (.iconst 1) 21 0 1, r0 (.iload_n 2) 22, r0 .ishl 23, ra (.goto 4) 24 18, rv (.iconst 0) 27 0 0, r0 .ior 28, r0 (.istore_n 1) 29, rv (.iinc 2 1) 30 0 1, ra (.goto (-29)) 33 4, r0 (.iload_n 1) 36, r0 .ireturn 37]
def mt112 : List (List RI) := [mt112_0]
def mt113_0 : List RI := [r0 (.iload_n 1) 0, rt (.tableswitch 73 0 5 #[39, 44, 51, 58, 63, 68]) 1 24 [(0, 2), (1, 5), (2, 10), (3, 15), (4, 18), (5, 21)], r0 (.aload_n 0) 40, rf (.getfield 72) 41 5 0 0 774, r0 .ireturn 44, r0 (.aload_n 0) 45, rf (.getfield 19) 46 5 4 0 778, rv (.iconst 3) 49 0 3, r0 .iaload 50, r0 .ireturn 51, r0 (.aload_n 0) 52, rf (.getfield 19) 53 5 4 0 778, rv (.iconst 2) 56 0 2, r0 .iaload 57, r0 .ireturn 58, r0 (.aload_n 0) 59, rf (.getfield 89) 60 5 9 0 783, r0 .ireturn 63, r0 (.aload_n 0) 64, rf (.getfield 92) 65 5 10 0 784, r0 .ireturn 68, r0 (.aload_n 0) 69, rf (.getfield 64) 70 5 6 0 780, r0 .ireturn 73, rv (.bipush (-2)) 74 0 (-2), r0 .ireturn 76]
def mt113 : List (List RI) := [mt113_0]
def mt114_0 : List RI := [r0 (.iload_n 1) 0, rv (.iconst 0) 1 0 0, rv (.iconst 1) 2 0 1, ri (.invokestatic 75) 3 104 3 1 1 5 735, ra (.ifCond .eq 23) 6 14, r0 (.iload_n 2) 9, rv (.iconst 0) 10 0 0, r0 (.iload_n 1) 11, ra (.ifCond .ne 9) 12 11, rv (.sipush 9999) 15 0 9999, ra (.goto 5) 18 12, rv (.bipush 99) 21 0 99, ri (.invokestatic 75) 23 104 3 1 1 5 735, ra (.ifCond .ne 6) 26 16, rv (.bipush (-2)) 29 0 (-2), r0 .ireturn 31, r0 (.iload_n 1) 32, ra (.ifCond .ne 7) 33 20, rv (.iconst 3) 36 0 3, ra (.goto 4) 37 21, rv (.iconst 0) 40 0 0, r0 (.istore_n 3) 41, r0 (.aload_n 0) 42, rf (.getfield 19) 43 5 4 0 778, r0 (.iload_n 3) 46, r0 .iaload 47, r0 (.istore 4) 48, r0 (.aload_n 0) 50, rf (.getfield 19) 51 5 4 0 778, r0 (.iload_n 3) 54, r0 (.iload_n 2) 55, r0 .iastore 56]
def mt114_1 : List RI := [r0 (.iload 4) 57, r0 .ireturn 59]
def mt114 : List (List RI) := [mt114_0, mt114_1]
def mt115_0 : List RI := [r0 (.iload_n 1) 0, rt (.tableswitch 66 0 5 #[39, 39, 46, 51, 56, 61]) 1 19 [(0, 2), (1, 2), (2, 7), (3, 10), (4, 13), (5, 16)], r0 (.aload_n 0) 40, rf (.getfield 19) 41 5 4 0 778, r0 (.iload_n 1) 44, r0 .iaload 45, r0 .ireturn 46, r0 (.aload_n 0) 47, ri (.invokevirtual 95) 48 142 1 0 1 5 883, r0 .ireturn 51, r0 (.aload_n 0) 52, ri (.invokevirtual 98) 53 141 1 0 1 5 932, r0 .ireturn 56, r0 (.aload_n 0) 57, ri (.invokevirtual 101) 58 110 1 0 1 5 911, r0 .ireturn 61, r0 (.aload_n 0) 62, ri (.invokevirtual 104) 63 112 1 0 1 5 936, r0 .ireturn 66, rv (.bipush (-7)) 67 0 (-7), r0 .ireturn 69]
def mt115 : List (List RI) := [mt115_0]
def mt116_0 : List RI := [r0 (.iload_n 0) 0, rv (.iconst 0) 1 0 0, rv (.sipush 255) 2 0 255, ri (.invokestatic 75) 5 104 3 1 1 5 735, ra .ireturn 8 1]
def mt116 : List (List RI) := [mt116_0]
def mt117_0 : List RI := [r0 (.iload_n 1) 0, rv (.iconst 1) 1 0 1, rv (.iconst 5) 2 0 5, ri (.invokestatic 75) 3 104 3 1 1 5 735, ra (.ifCond .eq 41) 6 20, r0 (.iload_n 2) 9, ri (.invokestatic 107) 10 116 1 1 1 5 948, ra (.ifCond .eq 34) 13 20, r0 (.iload_n 3) 16, ri (.invokestatic 107) 17 116 1 1 1 5 948, ra (.ifCond .eq 27) 20 20, r0 (.iload 4) 23, ri (.invokestatic 107) 25 116 1 1 1 5 948, ra (.ifCond .eq 19) 28 20, r0 (.iload 5) 31, ri (.invokestatic 107) 33 116 1 1 1 5 948, ra (.ifCond .eq 11) 36 20, r0 (.iload 6) 39, ri (.invokestatic 107) 41 116 1 1 1 5 948, ra (.ifCond .ne 6) 44 22, rv (.bipush (-2)) 47 0 (-2), r0 .ireturn 49, r0 (.aload_n 0) 50, rf (.getfield 64) 51 5 6 0 780, r0 (.iload_n 1) 54, r0 .iadd 55, rv (.sipush 160) 56 0 160, ra (.if_icmp .le 6) 59 30, rv (.bipush (-4)) 62 0 (-4), r0 .ireturn 64, rv (.iconst 0) 65 0 0, r0 (.istore 7) 66]
def mt117_1 : List RI := [r0 (.iload 7) 68, r0 (.iload_n 1) 70, ra (.if_icmp .ge 71) 71 68, r0 (.aload_n 0) 74, rf (.getfield 22) 75 5 5 0 779, r0 (.aload_n 0) 78, rf (.getfield 64) 79 5 6 0 780, r0 (.iload 7) 82, ra (.ifCond .ne 7) 84 43, r0 (.iload_n 2) 87, ra (.goto 37) 88 59, r0 (.iload 7) 91, rv (.iconst 1) 93 0 1, ra (.if_icmp .ne 7) 94 48, r0 (.iload_n 3) 97, ra (.goto 27) 98 59, r0 (.iload 7) 101, rv (.iconst 2) 103 0 2, ra (.if_icmp .ne 8) 104 53, r0 (.iload 4) 107, ra (.goto 16) 109 59, r0 (.iload 7) 112, rv (.iconst 3) 114 0 3, ra (.if_icmp .ne 8) 115 58, r0 (.iload 5) 118, ra (.goto 5) 120 59, r0 (.iload 6) 123, r0 .iastore 125, r0 (.aload_n 0) 126, r0 .dup 127, rf (.getfield 64) 128 5 6 0 780, rv (.iconst 1) 131 0 1]
def mt117_2 : List RI := [r0 .iadd 132, rf (.putfield 64) 133 5 6 0 780, rv (.iinc 7 1) 136 0 1, ra (.goto (-71)) 139 32, r0 (.aload_n 0) 142, rf (.getfield 64) 143 5 6 0 780, r0 .ireturn 146]
def mt117 : List (List RI) := [mt117_0, mt117_1, mt117_2]
def mt118_0 : List RI := [rv (.iconst 0) 0 0 0, r0 (.istore_n 3) 1, r0 (.iload_n 3) 2, rv (.bipush 12) 3 0 12, ra (.if_icmp .ge 96) 5 55, r0 (.iload_n 2) 8, r0 (.iload_n 1) 9, r0 .isub 10, rv (.bipush 8) 11 0 8, ra (.if_icmp .gt 7) 13 12, rv (.iconst 1) 16 0 1, ra (.goto 4) 17 13, rv (.iconst 0) 20 0 0, r0 (.istore 4) 21, rv (.iconst 0) 23 0 0, r0 (.istore 5) 24, r0 (.iload 5) 26, rv (.bipush 8) 28 0 8, ra (.if_icmp .ge 58) 30 49, r0 (.iload 4) 33, ra (.ifCond .eq 53) 35 49, r0 (.aload_n 0) 38, rf (.getfield 49) 39 5 22 0 796, rv (.bipush 8) 42 0 8, r0 (.iload_n 3) 44, r0 .imul 45, r0 (.iload 5) 46, r0 .iadd 48, r0 .iaload 49, r0 (.iload_n 1) 50, r0 (.iload 5) 51, r0 .iadd 53]
def mt118_1 : List RI := [r0 (.iload_n 2) 54, ra (.if_icmp .ge 15) 55 41, r0 (.aload_n 0) 58, rf (.getfield 22) 59 5 5 0 779, r0 (.iload_n 1) 62, r0 (.iload 5) 63, r0 .iadd 65, r0 .iaload 66, ra (.goto 5) 67 42, rv (.bipush 32) 70 0 32, ra (.if_icmp .ne 7) 72 45, rv (.iconst 1) 75 0 1, ra (.goto 4) 76 46, rv (.iconst 0) 79 0 0, r0 (.istore 4) 80, rv (.iinc 5 1) 82 0 1, ra (.goto (-59)) 85 16, r0 (.iload 4) 88, ra (.ifCond .eq 5) 90 53, r0 (.iload_n 3) 93, r0 .ireturn 94, rv (.iinc 3 1) 95 0 1, ra (.goto (-96)) 98 2, rv (.bipush 12) 101 0 12, r0 .ireturn 103]
def mt118 : List (List RI) := [mt118_0, mt118_1]
def mt119_0 : List RI := [r0 (.aload_n 0) 0, rf (.getfield 110) 1 5 18 0 792, r0 (.aload_n 0) 4, rf (.getfield 64) 5 5 6 0 780, ra (.if_icmp .ge 44) 8 26, r0 (.aload_n 0) 11, rf (.getfield 22) 12 5 5 0 779, r0 (.aload_n 0) 15, rf (.getfield 110) 16 5 18 0 792, r0 .iaload 19, rv (.bipush 32) 20 0 32, ra (.if_icmp .eq 17) 22 19, r0 (.aload_n 0) 25, rf (.getfield 22) 26 5 5 0 779, r0 (.aload_n 0) 29, rf (.getfield 110) 30 5 18 0 792, r0 .iaload 33, rv (.bipush 10) 34 0 10, ra (.if_icmp .ne 16) 36 26, r0 (.aload_n 0) 39, r0 .dup 40, rf (.getfield 110) 41 5 18 0 792, rv (.iconst 1) 44 0 1, r0 .iadd 45, rf (.putfield 110) 46 5 18 0 792, r0 (.goto (-49)) 49, r0 (.aload_n 0) 52, r0 (.aload_n 0) 53, rf (.getfield 110) 54 5 18 0 792, rf (.putfield 113) 57 5 19 0 793, r0 (.aload_n 0) 60, rv (.iconst 0) 61 0 0]
def mt119_1 : List RI := [rf (.putfield 116) 62 5 20 0 794, r0 (.aload_n 0) 65, rv (.iconst 0) 66 0 0, rf (.putfield 119) 67 5 21 0 795, r0 (.aload_n 0) 70, rf (.getfield 110) 71 5 18 0 792, r0 (.aload_n 0) 74, rf (.getfield 64) 75 5 6 0 780, ra (.if_icmp .ne 4) 78 42, r0 .return_ 81, r0 (.aload_n 0) 82, rf (.getfield 22) 83 5 5 0 779, r0 (.aload_n 0) 86, rf (.getfield 110) 87 5 18 0 792, r0 .iaload 90, r0 (.istore_n 1) 91, r0 (.iload_n 1) 92, rv (.bipush 97) 93 0 97, rv (.bipush 122) 95 0 122, ri (.invokestatic 75) 97 104 3 1 1 5 735, ra (.ifCond .eq 117) 100 114, r0 (.aload_n 0) 103, rf (.getfield 110) 104 5 18 0 792, r0 (.aload_n 0) 107, rf (.getfield 64) 108 5 6 0 780, ra (.if_icmp .ge 35) 111 74, r0 (.aload_n 0) 114, rf (.getfield 22) 115 5 5 0 779, r0 (.aload_n 0) 118, rf (.getfield 110) 119 5 18 0 792, r0 .iaload 122, rv (.bipush 97) 123 0 97]
def mt119_2 : List RI := [rv (.bipush 122) 125 0 122, ri (.invokestatic 75) 127 104 3 1 1 5 735, ra (.ifCond .eq 16) 130 74, r0 (.aload_n 0) 133, r0 .dup 134, rf (.getfield 110) 135 5 18 0 792, rv (.iconst 1) 138 0 1, r0 .iadd 139, rf (.putfield 110) 140 5 18 0 792, ra (.goto (-40)) 143 53, r0 (.aload_n 0) 146, r0 (.aload_n 0) 147, rf (.getfield 113) 148 5 19 0 793, r0 (.aload_n 0) 151, rf (.getfield 110) 152 5 18 0 792, ri (.invokevirtual 122) 155 118 3 0 1 5 738, r0 (.istore_n 2) 158, r0 (.aload_n 0) 159, r0 (.iload_n 2) 160, rv (.iconst 3) 161 0 3, ra (.if_icmp .ge 7) 162 87, rv (.iconst 3) 165 0 3, ra (.goto 29) 166 102, r0 (.iload_n 2) 169, rv (.bipush 9) 170 0 9, ra (.if_icmp .ge 7) 172 92, rv (.iconst 2) 175 0 2, ra (.goto 19) 176 102, r0 (.iload_n 2) 179, rv (.bipush 12) 180 0 12, ra (.if_icmp .ne 7) 182 97, rv (.iconst (-1)) 185 0 (-1)]
def mt119_3 : List RI := [ra (.goto 9) 186 102, rv (.iconst 4) 189 0 4, r0 (.iload_n 2) 190, r0 .iadd 191, rv (.bipush 9) 192 0 9, r0 .isub 194, rf (.putfield 116) 195 5 20 0 794, r0 (.aload_n 0) 198, r0 (.iload_n 2) 199, rv (.iconst 3) 200 0 3, ra (.if_icmp .ge 7) 201 109, r0 (.iload_n 2) 204, ra (.goto 6) 205 112, r0 (.iload_n 2) 208, rv (.iconst 3) 209 0 3, r0 .isub 210, rf (.putfield 119) 211 5 21 0 795, ra (.goto 189) 214 212, r0 (.iload_n 1) 217, rv (.bipush 48) 218 0 48, rv (.bipush 57) 220 0 57, ri (.invokestatic 75) 222 104 3 1 1 5 735, ra (.ifCond .eq 101) 225 171, rv (.iconst 0) 228 0 0, r0 (.istore_n 2) 229, r0 (.aload_n 0) 230, rf (.getfield 110) 231 5 18 0 792, r0 (.aload_n 0) 234, rf (.getfield 64) 235 5 6 0 780, ra (.if_icmp .ge 71) 238 162, r0 (.aload_n 0) 241, rf (.getfield 22) 242 5 5 0 779]
def mt119_4 : List RI := [r0 (.aload_n 0) 245, rf (.getfield 110) 246 5 18 0 792, r0 .iaload 249, rv (.bipush 48) 250 0 48, rv (.bipush 57) 252 0 57, ri (.invokestatic 75) 254 104 3 1 1 5 735, ra (.ifCond .eq 52) 257 162, r0 (.aload_n 0) 260, r0 (.iload_n 2) 261, rv (.iconst 4) 262 0 4, ra (.if_icmp .ge 26) 263 152, rv (.bipush 10) 266 0 10, r0 (.aload_n 0) 268, rf (.getfield 119) 269 5 21 0 795, r0 .imul 272, r0 (.aload_n 0) 273, rf (.getfield 22) 274 5 5 0 779, r0 (.aload_n 0) 277, rf (.getfield 110) 278 5 18 0 792, r0 .iaload 281, r0 .iadd 282, rv (.bipush 48) 283 0 48, r0 .isub 285, ra (.goto 4) 286 153, rv (.iconst 0) 289 0 0, rf (.putfield 119) 290 5 21 0 795, rv (.iinc 2 1) 293 0 1, r0 (.aload_n 0) 296, r0 .dup 297, rf (.getfield 110) 298 5 18 0 792, rv (.iconst 1) 301 0 1, r0 .iadd 302]
def mt119_5 : List RI := [rf (.putfield 110) 303 5 18 0 792, ra (.goto (-76)) 306 121, r0 (.aload_n 0) 309, r0 (.iload_n 2) 310, rv (.iconst 4) 311 0 4, ra (.if_icmp .le 7) 312 168, rv (.iconst (-1)) 315 0 (-1), ra (.goto 4) 316 169, rv (.iconst 1) 319 0 1, rf (.putfield 116) 320 5 20 0 794, ra (.goto 80) 323 212, r0 (.iload_n 1) 326, rv (.bipush 40) 327 0 40, ra (.if_icmp .eq 45) 329 195, r0 (.iload_n 1) 332, rv (.bipush 41) 333 0 41, ra (.if_icmp .eq 39) 335 195, r0 (.iload_n 1) 338, rv (.bipush 59) 339 0 59, ra (.if_icmp .eq 33) 341 195, r0 (.iload_n 1) 344, rv (.bipush 43) 345 0 43, ra (.if_icmp .eq 27) 347 195, r0 (.iload_n 1) 350, rv (.bipush 45) 351 0 45, ra (.if_icmp .eq 21) 353 195, r0 (.iload_n 1) 356, rv (.bipush 42) 357 0 42, ra (.if_icmp .eq 15) 359 195, r0 (.iload_n 1) 362, rv (.bipush 60) 363 0 60, ra (.if_icmp .eq 9) 365 195]
def mt119_6 : List RI := [r0 (.iload_n 1) 368, rv (.bipush 61) 369 0 61, ra (.if_icmp .ne 7) 371 197, rv (.iconst 1) 374 0 1, ra (.goto 4) 375 198, rv (.iconst 0) 378 0 0, r0 (.istore_n 2) 379, r0 (.aload_n 0) 380, r0 (.iload_n 2) 381, ra (.ifCond .eq 7) 382 204, r0 (.iload_n 1) 385, ra (.goto 4) 386 205, rv (.iconst (-1)) 389 0 (-1), rf (.putfield 116) 390 5 20 0 794, r0 (.aload_n 0) 393, r0 .dup 394, rf (.getfield 110) 395 5 18 0 792, rv (.iconst 1) 398 0 1, r0 .iadd 399, rf (.putfield 110) 400 5 18 0 792, r0 .return_ 403]
def mt119 : List (List RI) := [mt119_0, mt119_1, mt119_2, mt119_3, mt119_4, mt119_5, mt119_6]
def mt120_0 : List RI := [r0 (.iload_n 0) 0, ra (.ifCond .ne 7) 1 4, rv (.iconst 0) 4 0 0, ra (.goto 66) 5 35, r0 (.iload_n 0) 8, rv (.bipush 11) 9 0 11, ra (.if_icmp .ne 7) 11 9, rv (.iconst 1) 14 0 1, ra (.goto 56) 15 35, r0 (.iload_n 0) 18, rv (.bipush 12) 19 0 12, ra (.if_icmp .ne 7) 21 14, rv (.iconst 2) 24 0 2, ra (.goto 46) 25 35, r0 (.iload_n 0) 28, rv (.bipush 13) 29 0 13, ra (.if_icmp .ne 7) 31 19, rv (.iconst 3) 34 0 3, ra (.goto 36) 35 35, r0 (.iload_n 0) 38, rv (.bipush 15) 39 0 15, ra (.if_icmp .gt 7) 41 24, rv (.iconst 4) 44 0 4, ra (.goto 26) 45 35, r0 (.iload_n 0) 48, rv (.bipush 17) 49 0 17, ra (.if_icmp .gt 7) 51 29, rv (.iconst 5) 54 0 5, ra (.goto 16) 55 35, r0 (.iload_n 0) 58, rv (.bipush 18) 59 0 18, ra (.if_icmp .ne 8) 61 34]
def mt120_1 : List RI := [rv (.bipush 6) 64 0 6, ra (.goto 5) 66 35, rv (.bipush 7) 69 0 7, r0 .ireturn 71]
def mt120 : List (List RI) := [mt120_0, mt120_1]
def mt121_0 : List RI := [r0 (.aload_n 0) 0, rf (.getfield 25) 1 5 7 0 781, rv (.sipush 200) 4 0 200, r0 (.aload_n 0) 7, rf (.getfield 89) 8 5 9 0 783, r0 .imul 11, r0 (.aload_n 0) 12, rf (.getfield 126) 13 5 26 0 800, r0 .iadd 16, r0 (.iload_n 1) 17, r0 .iastore 18, r0 (.aload_n 0) 19, r0 .dup 20, rf (.getfield 126) 21 5 26 0 800, rv (.iconst 1) 24 0 1, r0 .iadd 25, rf (.putfield 126) 26 5 26 0 800, r0 .return_ 29]
def mt121 : List (List RI) := [mt121_0]
def mt122_0 : List RI := [r0 (.aload_n 0) 0, rf (.getfield 129) 1 5 24 0 798, ra (.ifCond .le 75) 4 43, r0 (.aload_n 0) 7, rf (.getfield 52) 8 5 23 0 797, r0 (.aload_n 0) 11, rf (.getfield 129) 12 5 24 0 798, rv (.iconst 1) 15 0 1, r0 .isub 16, r0 .iaload 17, ri (.invokestatic 132) 18 120 1 1 1 5 755, r0 (.iload_n 1) 21, ra (.if_icmp .lt 57) 22 43, r0 (.aload_n 0) 25, r0 .dup 26, rf (.getfield 129) 27 5 24 0 798, rv (.iconst 1) 30 0 1, r0 .isub 31, rf (.putfield 129) 32 5 24 0 798, r0 (.aload_n 0) 35, rf (.getfield 52) 36 5 23 0 797, r0 (.aload_n 0) 39, rf (.getfield 129) 40 5 24 0 798, r0 .iaload 43, r0 (.istore_n 2) 44, r0 (.aload_n 0) 45, r0 .dup 46, rf (.getfield 136) 47 5 25 0 799, r0 (.iload_n 2) 50, rv (.bipush 13) 51 0 13, ra (.if_icmp .eq 9) 53 34, r0 (.iload_n 2) 56]
def mt122_1 : List RI := [rv (.bipush 19) 57 0 19, ra (.if_icmp .ne 7) 59 36, rv (.iconst 1) 62 0 1, ra (.goto 4) 63 37, rv (.iconst 0) 66 0 0, r0 .isub 67, rf (.putfield 136) 68 5 25 0 799, r0 (.aload_n 0) 71, r0 (.iload_n 2) 72, ri (.invokevirtual 139) 73 121 2 0 0 5 747, r0 (.goto (-76)) 76, r0 .return_ 79]
def mt122 : List (List RI) := [mt122_0, mt122_1]
def mt123_0 : List RI := [r0 (.aload_n 0) 0, rf (.getfield 52) 1 5 23 0 797, r0 (.aload_n 0) 4, rf (.getfield 129) 5 5 24 0 798, r0 (.iload_n 1) 8, r0 .iastore 9, r0 (.aload_n 0) 10, r0 .dup 11, rf (.getfield 129) 12 5 24 0 798, rv (.iconst 1) 15 0 1, r0 .iadd 16, rf (.putfield 129) 17 5 24 0 798, r0 .return_ 20]
def mt123 : List (List RI) := [mt123_0]
def mt124_0 : List RI := [r0 (.aload_n 0) 0, rf (.getfield 136) 1 5 25 0 799, rv (.iconst 5) 4 0 5, ra (.if_icmp .ne 5) 5 6, rv (.iconst 0) 8 0 0, ra .ireturn 9 1, r0 (.aload_n 0) 10, r0 .dup 11, rf (.getfield 136) 12 5 25 0 799, rv (.iconst 1) 15 0 1, r0 .iadd 16, rf (.putfield 136) 17 5 25 0 799, r0 (.aload_n 0) 20, r0 (.iload_n 1) 21, ri (.invokevirtual 143) 22 123 2 0 0 5 762, rv (.iconst 1) 25 0 1, ra .ireturn 26 1]
def mt124 : List (List RI) := [mt124_0]
def mt125_0 : List RI := [r0 (.aload_n 0) 0, r0 (.iload_n 1) 1, ri (.invokestatic 132) 2 120 1 1 1 5 755, rv (.iconst 4) 5 0 4, ra (.if_icmp .ne 7) 6 7, rv (.iconst 5) 9 0 5, ra (.goto 7) 10 9, r0 (.iload_n 1) 13, ri (.invokestatic 132) 14 120 1 1 1 5 755, ri (.invokevirtual 146) 17 122 2 0 0 5 751, r0 (.iload_n 1) 20, ri (.invokestatic 132) 21 120 1 1 1 5 755, rv (.iconst 4) 24 0 4, ra (.if_icmp .ne 30) 25 29, r0 (.aload_n 0) 28, rf (.getfield 129) 29 5 24 0 798, ra (.ifCond .le 23) 32 29, r0 (.aload_n 0) 35, rf (.getfield 52) 36 5 23 0 797, r0 (.aload_n 0) 39, rf (.getfield 129) 40 5 24 0 798, rv (.iconst 1) 43 0 1, r0 .isub 44, r0 .iaload 45, ri (.invokestatic 132) 46 120 1 1 1 5 755, rv (.iconst 4) 49 0 4, ra (.if_icmp .ne 5) 50 29, rv (.iconst 0) 53 0 0, ra .ireturn 54 1, r0 (.aload_n 0) 55, r0 (.iload_n 1) 56, ri (.invokevirtual 143) 57 123 2 0 0 5 762]
def mt125_1 : List RI := [rv (.iconst 1) 60 0 1, ra .ireturn 61 1]
def mt125 : List (List RI) := [mt125_0, mt125_1]
def mt126_0 : List RI := [r0 (.aload_n 0) 0, rf (.getfield 116) 1 5 20 0 794, rv (.iconst 4) 4 0 4, ra (.if_icmp .ne 8) 5 6, rv (.bipush 11) 8 0 11, ra (.goto 87) 10 43, r0 (.aload_n 0) 13, rf (.getfield 116) 14 5 20 0 794, rv (.iconst 5) 17 0 5, ra (.if_icmp .ne 8) 18 12, rv (.bipush 12) 21 0 12, ra (.goto 74) 23 43, r0 (.aload_n 0) 26, rf (.getfield 116) 27 5 20 0 794, rv (.bipush 60) 30 0 60, ra (.if_icmp .ne 8) 32 18, rv (.bipush 14) 35 0 14, ra (.goto 60) 37 43, r0 (.aload_n 0) 40, rf (.getfield 116) 41 5 20 0 794, rv (.bipush 61) 44 0 61, ra (.if_icmp .ne 8) 46 24, rv (.bipush 15) 49 0 15, ra (.goto 46) 51 43, r0 (.aload_n 0) 54, rf (.getfield 116) 55 5 20 0 794, rv (.bipush 43) 58 0 43, ra (.if_icmp .ne 8) 60 30, rv (.bipush 16) 63 0 16, ra (.goto 32) 65 43, r0 (.aload_n 0) 68, rf (.getfield 116) 69 5 20 0 794]
def mt126_1 : List RI := [rv (.bipush 45) 72 0 45, ra (.if_icmp .ne 8) 74 36, rv (.bipush 17) 77 0 17, ra (.goto 18) 79 43, r0 (.aload_n 0) 82, rf (.getfield 116) 83 5 20 0 794, rv (.bipush 42) 86 0 42, ra (.if_icmp .ne 8) 88 42, rv (.bipush 18) 91 0 18, ra (.goto 4) 93 43, rv (.iconst (-1)) 96 0 (-1), r0 .ireturn 97]
def mt126 : List (List RI) := [mt126_0, mt126_1]
def mt127_0 : List RI := [r0 (.aload_n 0) 0, rv (.iconst 0) 1 0 0, rf (.putfield 129) 2 5 24 0 798, r0 (.aload_n 0) 5, rv (.iconst 0) 6 0 0, rf (.putfield 136) 7 5 25 0 799, rv (.iconst 1) 10 0 1, r0 (.istore_n 1) 11, rv (.iconst 1) 12 0 1, r0 (.istore_n 2) 13, r0 (.aload_n 0) 14, ri (.invokevirtual 149) 15 119 1 0 0 5 731, r0 (.iload_n 1) 18, ra (.ifCond .eq 131) 19 81, r0 (.aload_n 0) 22, rf (.getfield 116) 23 5 20 0 794, rv (.iconst 1) 26 0 1, ra (.if_icmp .eq 11) 27 22, r0 (.aload_n 0) 30, rf (.getfield 116) 31 5 20 0 794, rv (.iconst 2) 34 0 2, ra (.if_icmp .ne 40) 35 41, r0 (.aload_n 0) 38, r0 (.aload_n 0) 39, rf (.getfield 116) 40 5 20 0 794, rv (.iconst 1) 43 0 1, ra (.if_icmp .ne 13) 44 32, rv (.ldc 152) 47 746 100000, r0 (.aload_n 0) 49, rf (.getfield 119) 50 5 21 0 795, r0 .iadd 53, ra (.goto 7) 54 34]
def mt127_1 : List RI := [r0 (.aload_n 0) 57, rf (.getfield 119) 58 5 21 0 795, ri (.invokevirtual 139) 61 121 2 0 0 5 747, r0 (.aload_n 0) 64, rv (.bipush 7) 65 0 7, ri (.invokevirtual 146) 67 122 2 0 0 5 751, rv (.iconst 0) 70 0 0, r0 (.istore_n 1) 71, ra (.goto (-58)) 72 10, r0 (.aload_n 0) 75, rf (.getfield 116) 76 5 20 0 794, rv (.bipush 6) 79 0 6, ra (.if_icmp .ne 18) 81 53, r0 (.iload_n 2) 84, ra (.ifCond .eq 14) 85 53, r0 (.aload_n 0) 88, rv (.bipush 13) 89 0 13, ri (.invokevirtual 153) 91 124 2 0 1 5 758, ra (.ifCond .ne (-80)) 94 10, rv (.iconst 0) 97 0 0, ra .ireturn 98 1, r0 (.aload_n 0) 99, rf (.getfield 116) 100 5 20 0 794, rv (.bipush 45) 103 0 45, ra (.if_icmp .ne 19) 105 66, r0 (.aload_n 0) 108, rv (.bipush 19) 109 0 19, ri (.invokevirtual 153) 111 124 2 0 1 5 758, ra (.ifCond .ne 5) 114 63, rv (.iconst 0) 117 0 0, ra .ireturn 118 1, rv (.iconst 0) 119 0 0]
def mt127_2 : List RI := [r0 (.istore_n 2) 120, ra (.goto (-107)) 121 10, r0 (.aload_n 0) 124, rf (.getfield 116) 125 5 20 0 794, rv (.bipush 40) 128 0 40, ra (.if_icmp .ne 18) 130 79, r0 (.aload_n 0) 133, rv (.iconst 0) 134 0 0, ri (.invokevirtual 153) 135 124 2 0 1 5 758, ra (.ifCond .ne 5) 138 76, rv (.iconst 0) 141 0 0, ra .ireturn 142 1, rv (.iconst 1) 143 0 1, r0 (.istore_n 2) 144, ra (.goto (-131)) 145 10, rv (.iconst 0) 148 0 0, ra .ireturn 149 1, r0 (.aload_n 0) 150, rf (.getfield 116) 151 5 20 0 794, rv (.bipush 59) 154 0 59, ra (.if_icmp .ne 21) 156 95, r0 (.aload_n 0) 159, rv (.iconst 1) 160 0 1, ri (.invokevirtual 146) 161 122 2 0 0 5 751, r0 (.aload_n 0) 164, rf (.getfield 129) 165 5 24 0 798, ra (.ifCond .ne 7) 168 93, rv (.iconst 1) 171 0 1, ra (.goto 4) 172 94, rv (.iconst 0) 175 0 0, ra .ireturn 176 1, r0 (.aload_n 0) 177]
def mt127_3 : List RI := [rf (.getfield 116) 178 5 20 0 794, rv (.bipush 41) 181 0 41, ra (.if_icmp .ne 46) 183 123, r0 (.aload_n 0) 186, rv (.iconst 1) 187 0 1, ri (.invokevirtual 146) 188 122 2 0 0 5 751, r0 (.aload_n 0) 191, rf (.getfield 129) 192 5 24 0 798, ra (.ifCond .ne 5) 195 107, rv (.iconst 0) 198 0 0, ra .ireturn 199 1, r0 (.aload_n 0) 200, r0 .dup 201, rf (.getfield 129) 202 5 24 0 798, rv (.iconst 1) 205 0 1, r0 .isub 206, rf (.putfield 129) 207 5 24 0 798, r0 (.aload_n 0) 210, r0 .dup 211, rf (.getfield 136) 212 5 25 0 799, rv (.iconst 1) 215 0 1, r0 .isub 216, rf (.putfield 136) 217 5 25 0 799, r0 (.aload_n 0) 220, rv (.bipush 7) 221 0 7, ri (.invokevirtual 146) 223 122 2 0 0 5 751, ra (.goto (-212)) 226 10, r0 (.aload_n 0) 229, ri (.invokevirtual 156) 230 126 1 0 1 5 766, r0 (.istore_n 3) 233, r0 (.iload_n 3) 234, rv (.iconst (-1)) 235 0 (-1)]
def mt127_4 : List RI := [ra (.if_icmp .eq 11) 236 133, r0 (.aload_n 0) 239, r0 (.iload_n 3) 240, ri (.invokevirtual 159) 241 125 2 0 1 5 770, ra (.ifCond .ne 5) 244 135, rv (.iconst 0) 247 0 0, ra .ireturn 248 1, rv (.iconst 1) 249 0 1, r0 (.istore_n 1) 250, r0 (.iload_n 3) 251, rv (.bipush 12) 252 0 12, ra (.if_icmp .gt 7) 254 142, rv (.iconst 1) 257 0 1, ra (.goto 4) 258 143, rv (.iconst 0) 261 0 0, r0 (.istore_n 2) 262, ra (.goto (-249)) 263 10]
def mt127 : List (List RI) := [mt127_0, mt127_1, mt127_2, mt127_3, mt127_4]
def mt128_0 : List RI := [r0 (.aload_n 0) 0, rf (.getfield 89) 1 5 9 0 783, rv (.bipush 6) 4 0 6, ra (.if_icmp .ne 6) 6 6, rv (.bipush (-4)) 9 0 (-4), r0 .ireturn 11, r0 (.aload_n 0) 12, rv (.iconst 0) 13 0 0, rf (.putfield 110) 14 5 18 0 792, r0 (.aload_n 0) 17, rv (.iconst 0) 18 0 0, rf (.putfield 126) 19 5 26 0 800, rv (.iconst 1) 22 0 1, r0 (.istore_n 1) 23, rv (.iconst 0) 24 0 0, r0 (.istore_n 2) 25, r0 (.iload_n 2) 26, rv (.iconst 3) 27 0 3, ra (.if_icmp .ge 73) 28 57, r0 (.iload_n 1) 31, ra (.ifCond .eq 69) 32 57, r0 (.aload_n 0) 35, ri (.invokevirtual 149) 36 119 1 0 0 5 731, r0 (.aload_n 0) 39, rf (.getfield 116) 40 5 20 0 794, rv (.iconst 3) 43 0 3, ra (.if_icmp .ne 15) 44 33, r0 (.aload_n 0) 47, rf (.getfield 119) 48 5 21 0 795, r0 (.iload_n 2) 51, ra (.if_icmp .ne 7) 52 33, rv (.iconst 1) 55 0 1]
def mt128_1 : List RI := [ra (.goto 4) 56 34, rv (.iconst 0) 59 0 0, r0 (.istore_n 1) 60, r0 (.aload_n 0) 61, rf (.getfield 28) 62 5 8 0 782, rv (.iconst 4) 65 0 4, r0 (.aload_n 0) 66, rf (.getfield 89) 67 5 9 0 783, r0 .imul 70, r0 (.iload_n 2) 71, r0 .iadd 72, r0 (.aload_n 0) 73, rf (.getfield 126) 74 5 26 0 800, r0 .iastore 77, r0 (.iload_n 1) 78, ra (.ifCond .eq 14) 79 53, r0 (.aload_n 0) 82, ri (.invokevirtual 162) 83 127 1 0 1 5 742, ra (.ifCond .eq 7) 86 53, rv (.iconst 1) 89 0 1, ra (.goto 4) 90 54, rv (.iconst 0) 93 0 0, r0 (.istore_n 1) 94, rv (.iinc 2 1) 95 0 1, ra (.goto (-72)) 98 16, r0 (.iload_n 1) 101, ra (.ifCond .eq 20) 102 68, r0 (.aload_n 0) 105, ri (.invokevirtual 149) 106 119 1 0 0 5 731, r0 (.aload_n 0) 109, rf (.getfield 116) 110 5 20 0 794, ra (.ifCond .ne 7) 113 66]
def mt128_2 : List RI := [rv (.iconst 1) 116 0 1, ra (.goto 4) 117 67, rv (.iconst 0) 120 0 0, r0 (.istore_n 1) 121, r0 (.aload_n 0) 122, rf (.getfield 28) 123 5 8 0 782, rv (.iconst 4) 126 0 4, r0 (.aload_n 0) 127, rf (.getfield 89) 128 5 9 0 783, r0 .imul 131, rv (.iconst 3) 132 0 3, r0 .iadd 133, r0 (.aload_n 0) 134, rf (.getfield 126) 135 5 26 0 800, r0 .iastore 138, r0 (.aload_n 0) 139, rv (.iconst 0) 140 0 0, rf (.putfield 64) 141 5 6 0 780, r0 (.iload_n 1) 144, ra (.ifCond .ne 11) 145 89, rv (.bipush (-100)) 148 0 (-100), r0 (.aload_n 0) 150, rf (.getfield 113) 151 5 19 0 793, r0 .isub 154, r0 .ireturn 155, r0 (.aload_n 0) 156, r0 .dup 157, rf (.getfield 89) 158 5 9 0 783, rv (.iconst 1) 161 0 1, r0 .iadd 162, rf (.putfield 89) 163 5 9 0 783, r0 (.aload_n 0) 166]
def mt128_3 : List RI := [rf (.getfield 89) 167 5 9 0 783, rv (.iconst 1) 170 0 1, r0 .isub 171, r0 .ireturn 172]
def mt128 : List (List RI) := [mt128_0, mt128_1, mt128_2, mt128_3]
def mt129_0 : List RI := [r0 (.iload_n 0) 0, rt (.tableswitch 101 11 17 #[43, 57, 101, 71, 82, 93, 97]) 1 40 [(11, 2), (12, 10), (13, 40), (14, 18), (15, 25), (16, 32), (17, 36)], r0 (.iload_n 1) 44, ra (.ifCond .ne 7) 45 6, r0 (.iload_n 2) 48, ra (.ifCond .eq 7) 49 8, rv (.iconst 1) 52 0 1, ra (.goto 4) 53 9, rv (.iconst 0) 56 0 0, r0 .ireturn 57, r0 (.iload_n 1) 58, ra (.ifCond .eq 11) 59 16, r0 (.iload_n 2) 62, ra (.ifCond .eq 7) 63 16, rv (.iconst 1) 66 0 1, ra (.goto 4) 67 17, rv (.iconst 0) 70 0 0, r0 .ireturn 71, r0 (.iload_n 1) 72, r0 (.iload_n 2) 73, ra (.if_icmp .ge 7) 74 23, rv (.iconst 1) 77 0 1, ra (.goto 4) 78 24, rv (.iconst 0) 81 0 0, r0 .ireturn 82, r0 (.iload_n 1) 83, r0 (.iload_n 2) 84, ra (.if_icmp .ne 7) 85 30, rv (.iconst 1) 88 0 1, ra (.goto 4) 89 31, rv (.iconst 0) 92 0 0, r0 .ireturn 93]
def mt129_1 : List RI := [r0 (.iload_n 1) 94, r0 (.iload_n 2) 95, r0 .iadd 96, r0 .ireturn 97, r0 (.iload_n 1) 98, r0 (.iload_n 2) 99, r0 .isub 100, r0 .ireturn 101, r0 (.iload_n 1) 102, r0 (.iload_n 2) 103, r0 .imul 104, r0 .ireturn 105]
def mt129 : List (List RI) := [mt129_0, mt129_1]
def mt130_0 : List RI := [rv (.iconst 0) 0 0 0, r0 (.istore_n 2) 1, r0 (.aload_n 0) 2, rf (.getfield 28) 3 5 8 0 782, rv (.iconst 4) 6 0 4, r0 (.aload_n 0) 7, rf (.getfield 92) 8 5 10 0 784, r0 .imul 11, r0 (.iload_n 1) 12, r0 .iadd 13, r0 .iaload 14, r0 (.istore_n 3) 15, r0 (.iload_n 3) 16, r0 (.aload_n 0) 17, rf (.getfield 28) 18 5 8 0 782, rv (.iconst 4) 21 0 4, r0 (.aload_n 0) 22, rf (.getfield 92) 23 5 10 0 784, r0 .imul 26, r0 (.iload_n 1) 27, r0 .iadd 28, rv (.iconst 1) 29 0 1, r0 .iadd 30, r0 .iaload 31, ra (.if_icmp .ge 165) 32 116, r0 (.aload_n 0) 35, rf (.getfield 25) 36 5 7 0 781, rv (.sipush 200) 39 0 200, r0 (.aload_n 0) 42, rf (.getfield 92) 43 5 10 0 784, r0 .imul 46, r0 (.iload_n 3) 47]
def mt130_1 : List RI := [r0 .iadd 48, r0 .iaload 49, r0 (.istore 4) 50, r0 (.iload 4) 52, rv (.ldc 152) 54 746 100000, ra (.if_icmp .ge 10) 56 41, r0 (.iload 4) 59, rv (.bipush 11) 61 0 11, ra (.if_icmp .ge 37) 63 58, r0 (.aload_n 0) 66, rf (.getfield 55) 67 5 27 0 801, r0 (.iload_n 2) 70, r0 (.iload 4) 71, rv (.bipush 11) 73 0 11, ra (.if_icmp .ge 13) 75 52, r0 (.aload_n 0) 78, rf (.getfield 58) 79 5 28 0 802, r0 (.iload 4) 82, r0 .iaload 84, ra (.goto 8) 85 55, r0 (.iload 4) 88, rv (.ldc 152) 90 746 100000, r0 .isub 92, r0 .iastore 93, rv (.iinc 2 1) 94 0 1, ra (.goto 94) 97 114, r0 (.iload 4) 100, rv (.bipush 13) 102 0 13, ra (.if_icmp .ne 30) 104 78, r0 (.aload_n 0) 107, rf (.getfield 55) 108 5 27 0 801, r0 (.iload_n 2) 111]
def mt130_2 : List RI := [rv (.iconst 1) 112 0 1, r0 .isub 113, r0 (.aload_n 0) 114, rf (.getfield 55) 115 5 27 0 801, r0 (.iload_n 2) 118, rv (.iconst 1) 119 0 1, r0 .isub 120, r0 .iaload 121, ra (.ifCond .ne 7) 122 75, rv (.iconst 1) 125 0 1, ra (.goto 4) 126 76, rv (.iconst 0) 129 0 0, r0 .iastore 130, ra (.goto 60) 131 114, r0 (.iload 4) 134, rv (.bipush 19) 136 0 19, ra (.if_icmp .ne 23) 138 95, r0 (.aload_n 0) 141, rf (.getfield 55) 142 5 27 0 801, r0 (.iload_n 2) 145, rv (.iconst 1) 146 0 1, r0 .isub 147, r0 (.aload_n 0) 148, rf (.getfield 55) 149 5 27 0 801, r0 (.iload_n 2) 152, rv (.iconst 1) 153 0 1, r0 .isub 154, r0 .iaload 155, r0 .ineg 156, r0 .iastore 157, ra (.goto 33) 158 114, rv (.iinc 2 (-1)) 161 0 (-1)]
def mt130_3 : List RI := [r0 (.aload_n 0) 164, rf (.getfield 55) 165 5 27 0 801, r0 (.iload_n 2) 168, rv (.iconst 1) 169 0 1, r0 .isub 170, r0 (.iload 4) 171, r0 (.aload_n 0) 173, rf (.getfield 55) 174 5 27 0 801, r0 (.iload_n 2) 177, rv (.iconst 1) 178 0 1, r0 .isub 179, r0 .iaload 180, r0 (.aload_n 0) 181, rf (.getfield 55) 182 5 27 0 801, r0 (.iload_n 2) 185, r0 .iaload 186, ri (.invokestatic 166) 187 129 3 1 1 5 922, r0 .iastore 190, rv (.iinc 3 1) 191 0 1, ra (.goto (-178)) 194 12, r0 (.aload_n 0) 197, rf (.getfield 55) 198 5 27 0 801, rv (.iconst 0) 201 0 0, r0 .iaload 202, r0 .ireturn 203]
def mt130 : List (List RI) := [mt130_0, mt130_1, mt130_2, mt130_3]
def mt131_0 : List RI := [r0 (.iload_n 1) 0, rv (.iconst 0) 1 0 0, r0 (.aload_n 0) 2, rf (.getfield 89) 3 5 9 0 783, rv (.iconst 1) 6 0 1, r0 .isub 7, ri (.invokestatic 75) 8 104 3 1 1 5 735, ra (.ifCond .ne 6) 11 10, rv (.bipush (-2)) 14 0 (-2), r0 .ireturn 16, r0 (.aload_n 0) 17, rf (.getfield 92) 18 5 10 0 784, r0 (.istore_n 2) 21, r0 (.aload_n 0) 22, r0 (.iload_n 1) 23, rf (.putfield 92) 24 5 10 0 784, r0 (.iload_n 2) 27, r0 .ireturn 28]
def mt131 : List (List RI) := [mt131_0]
def mt132_0 : List RI := [r0 (.aload_n 0) 0, rf (.getfield 58) 1 5 28 0 802, rv (.iconst 0) 4 0 0, r0 (.aload_n 0) 5, r0 (.iload_n 2) 6, ri (.invokevirtual 79) 7 108 2 0 1 5 895, ra (.ifCond .eq 14) 10 14, r0 (.aload_n 0) 13, rf (.getfield 16) 14 5 3 0 777, rv (.iconst 3) 17 0 3, r0 (.iload_n 2) 18, r0 .imul 19, r0 .iaload 20, ra (.goto 4) 21 15, rv (.iconst 0) 24 0 0, r0 .iastore 25, r0 (.aload_n 0) 26, rf (.getfield 58) 27 5 28 0 802, rv (.iconst 1) 30 0 1, r0 (.aload_n 0) 31, rf (.getfield 16) 32 5 3 0 777, rv (.iconst 3) 35 0 3, r0 (.iload_n 2) 36, r0 .imul 37, rv (.iconst 2) 38 0 2, r0 .iadd 39, r0 .iaload 40, r0 .iastore 41, r0 (.aload_n 0) 42, rf (.getfield 58) 43 5 28 0 802, rv (.iconst 2) 46 0 2, r0 (.aload_n 0) 47]
def mt132_1 : List RI := [rf (.getfield 19) 48 5 4 0 778, rv (.iconst 3) 51 0 3, r0 .iaload 52, r0 .iastore 53, r0 (.aload_n 0) 54, rf (.getfield 58) 55 5 28 0 802, rv (.iconst 3) 58 0 3, r0 (.aload_n 0) 59, ri (.invokevirtual 101) 60 110 1 0 1 5 911, ri (.invokestatic 170) 63 106 1 1 1 5 915, r0 .iastore 66, r0 (.aload_n 0) 67, rf (.getfield 58) 68 5 28 0 802, rv (.iconst 4) 71 0 4, r0 (.aload_n 0) 72, rf (.getfield 19) 73 5 4 0 778, rv (.iconst 2) 76 0 2, r0 .iaload 77, r0 .iastore 78, r0 (.aload_n 0) 79, rf (.getfield 58) 80 5 28 0 802, rv (.iconst 5) 83 0 5, r0 (.aload_n 0) 84, rf (.getfield 13) 85 5 2 0 776, r0 (.iload_n 2) 88, r0 .iaload 89, r0 .iastore 90, r0 (.aload_n 0) 91, r0 (.iload_n 1) 92, ri (.invokevirtual 173) 93 130 2 0 1 5 918, r0 (.iload_n 1) 96, ra (.ifCond .ne 7) 97 66]
def mt132_2 : List RI := [rv (.iconst 0) 100 0 0, ra (.goto 5) 101 67, rv (.bipush (-99)) 104 0 (-99), rv (.bipush 99) 106 0 99, ri (.invokestatic 176) 108 105 3 1 1 5 925, r0 .ireturn 111]
def mt132 : List (List RI) := [mt132_0, mt132_1, mt132_2]
def mt133_0 : List RI := [r0 (.iload_n 1) 0, rv (.iconst 0) 1 0 0, rv (.iconst 2) 2 0 2, ri (.invokestatic 75) 3 104 3 1 1 5 735, ra (.ifCond .eq 20) 6 14, r0 (.aload_n 0) 9, r0 (.iload_n 2) 10, ri (.invokevirtual 179) 11 107 2 0 1 5 960, ra (.ifCond .eq 12) 14 14, r0 (.aload_n 0) 17, r0 (.iload_n 1) 18, r0 (.iload_n 2) 19, ri (.invokevirtual 182) 20 132 3 0 1 5 907, ra (.goto 6) 23 15, rv (.sipush (-1000)) 26 0 (-1000), r0 .ireturn 29]
def mt133 : List (List RI) := [mt133_0]
def mt134_0 : List RI := [r0 (.iload_n 1) 0, rv (.iconst 0) 1 0 0, rv (.bipush 59) 2 0 59, ri (.invokestatic 75) 4 104 3 1 1 5 735, ra (.ifCond .eq 13) 7 10, r0 (.iload_n 2) 10, rv (.iconst 0) 11 0 0, rv (.bipush 63) 12 0 63, ri (.invokestatic 75) 14 104 3 1 1 5 735, ra (.ifCond .ne 6) 17 12, rv (.bipush (-2)) 20 0 (-2), r0 .ireturn 22, r0 (.aload_n 0) 23, rf (.getfield 72) 24 5 0 0 774, rv (.bipush 6) 27 0 6, ra (.if_icmp .ne 6) 29 18, rv (.bipush (-4)) 32 0 (-4), r0 .ireturn 34, r0 (.aload_n 0) 35, rf (.getfield 7) 36 5 1 0 775, r0 (.aload_n 0) 39, rf (.getfield 72) 40 5 0 0 774, r0 (.iload_n 1) 43, rv (.bipush 10) 44 0 10, r0 .idiv 46, r0 .iastore 47, r0 (.aload_n 0) 48, rf (.getfield 13) 49 5 2 0 776, r0 (.aload_n 0) 52, rf (.getfield 72) 53 5 0 0 774, r0 (.iload_n 1) 56, rv (.bipush 10) 57 0 10]
def mt134_1 : List RI := [r0 .irem 59, r0 .iastore 60, r0 (.aload_n 0) 61, rf (.getfield 16) 62 5 3 0 777, rv (.iconst 3) 65 0 3, r0 (.aload_n 0) 66, rf (.getfield 72) 67 5 0 0 774, r0 .imul 70, r0 (.iload_n 2) 71, r0 .iastore 72, r0 (.aload_n 0) 73, rf (.getfield 16) 74 5 3 0 777, rv (.iconst 3) 77 0 3, r0 (.aload_n 0) 78, rf (.getfield 72) 79 5 0 0 774, r0 .imul 82, rv (.iconst 1) 83 0 1, r0 .iadd 84, rv (.iconst 0) 85 0 0, r0 .iastore 86, r0 (.aload_n 0) 87, rf (.getfield 16) 88 5 3 0 777, rv (.iconst 3) 91 0 3, r0 (.aload_n 0) 92, rf (.getfield 72) 93 5 0 0 774, r0 .imul 96, rv (.iconst 2) 97 0 2, r0 .iadd 98, rv (.iconst 0) 99 0 0, r0 .iastore 100, r0 (.aload_n 0) 101, r0 .dup 102]
def mt134_2 : List RI := [rf (.getfield 72) 103 5 0 0 774, rv (.iconst 1) 106 0 1, r0 .iadd 107, rf (.putfield 72) 108 5 0 0 774, r0 (.aload_n 0) 111, rf (.getfield 72) 112 5 0 0 774, rv (.iconst 1) 115 0 1, r0 .isub 116, r0 .ireturn 117]
def mt134 : List (List RI) := [mt134_0, mt134_1, mt134_2]
def mt135_0 : List RI := [r0 (.aload_n 0) 0, r0 (.iload_n 1) 1, ri (.invokevirtual 179) 2 107 2 0 1 5 960, ra (.ifCond .ne 6) 5 6, rv (.bipush (-5)) 8 0 (-5), r0 .ireturn 10, r0 (.iload_n 2) 11, ra (.ifCond .ne 8) 12 10, rv (.bipush 63) 15 0 63, ra (.goto 14) 17 16, r0 (.iload_n 2) 20, rv (.iconst 1) 21 0 1, ra (.if_icmp .ne 7) 22 15, rv (.iconst 1) 25 0 1, ra (.goto 5) 26 16, rv (.bipush 99) 29 0 99, r0 (.istore 4) 31, r0 (.iload_n 2) 33, rv (.iconst 0) 34 0 0, rv (.iconst 2) 35 0 2, ri (.invokestatic 75) 36 104 3 1 1 5 735, ra (.ifCond .eq 25) 39 33, r0 (.iload_n 3) 42, r0 (.iload_n 2) 43, ra (.ifCond .ne 7) 44 27, rv (.iconst (-1)) 47 0 (-1), ra (.goto 4) 48 28, rv (.iconst 0) 51 0 0, r0 (.iload 4) 52, ri (.invokestatic 75) 54 104 3 1 1 5 735, ra (.ifCond .eq 7) 57 33, rv (.iconst 1) 60 0 1]
def mt135_1 : List RI := [ra (.goto 4) 61 34, rv (.iconst 0) 64 0 0, r0 (.istore 5) 65, r0 (.iload 5) 67, ra (.ifCond .eq 17) 69 45, r0 (.iload_n 2) 72, ra (.ifCond .ne 16) 73 47, r0 (.aload_n 0) 76, rf (.getfield 19) 77 5 4 0 778, rv (.iconst 1) 80 0 1, r0 .iaload 81, r0 (.iload_n 1) 82, ra (.if_icmp .ne 6) 83 47, rv (.bipush (-7)) 86 0 (-7), r0 .ireturn 88, r0 (.aload_n 0) 89, rf (.getfield 16) 90 5 3 0 777, rv (.iconst 3) 93 0 3, r0 (.iload_n 1) 94, r0 .imul 95, r0 (.iload_n 2) 96, r0 .iadd 97, r0 .iaload 98, r0 (.istore 6) 99, r0 (.aload_n 0) 101, rf (.getfield 16) 102 5 3 0 777, rv (.iconst 3) 105 0 3, r0 (.iload_n 1) 106, r0 .imul 107, r0 (.iload_n 2) 108, r0 .iadd 109, r0 (.iload_n 3) 110]
def mt135_2 : List RI := [r0 .iastore 111, r0 (.iload 6) 112, r0 .ireturn 114]
def mt135 : List (List RI) := [mt135_0, mt135_1, mt135_2]
def mt136_0 : List RI := [r0 (.aload_n 0) 0, rf (.getfield 7) 1 5 1 0 775, r0 (.iload_n 1) 4, r0 .iaload 5, rv (.iconst 5) 6 0 5, ra (.if_icmp .ne 5) 7 8, rv (.iconst 0) 10 0 0, r0 .ireturn 11, r0 (.aload_n 0) 12, rv (.iconst 0) 13 0 0, r0 (.iload_n 1) 14, ri (.invokevirtual 182) 15 132 3 0 1 5 907, r0 (.istore_n 2) 18, r0 (.aload_n 0) 19, rf (.getfield 7) 20 5 1 0 775, r0 (.iload_n 1) 23, r0 .iaload 24, rv (.iconst 1) 25 0 1, ra (.if_icmp .eq 13) 26 25, r0 (.aload_n 0) 29, rf (.getfield 7) 30 5 1 0 775, r0 (.iload_n 1) 33, r0 .iaload 34, rv (.iconst 3) 35 0 3, ra (.if_icmp .ne 9) 36 29, r0 (.iload_n 2) 39, rv (.iconst 2) 40 0 2, r0 .idiv 41, ra (.goto 24) 42 42, r0 (.aload_n 0) 45, rf (.getfield 7) 46 5 1 0 775, r0 (.iload_n 1) 49]
def mt136_1 : List RI := [r0 .iaload 50, ra (.ifCond .ne 7) 51 36, r0 (.iload_n 2) 54, ra (.goto 11) 55 42, r0 (.iload_n 2) 58, r0 (.aload_n 0) 59, rf (.getfield 13) 60 5 2 0 776, r0 (.iload_n 1) 63, r0 .iaload 64, r0 .iadd 65, r0 .ireturn 66]
def mt136 : List (List RI) := [mt136_0, mt136_1]
def mt137_0 : List RI := [r0 (.aload_n 0) 0, rf (.getfield 7) 1 5 1 0 775, r0 (.iload_n 1) 4, r0 .iaload 5, rv (.iconst 5) 6 0 5, ra (.if_icmp .ne 13) 7 13, rv (.bipush 10) 10 0 10, r0 (.aload_n 0) 12, rf (.getfield 13) 13 5 2 0 776, r0 (.iload_n 1) 16, r0 .iaload 17, r0 .imul 18, r0 .ireturn 19, r0 (.aload_n 0) 20, rv (.iconst 1) 21 0 1, r0 (.iload_n 1) 22, ri (.invokevirtual 182) 23 132 3 0 1 5 907, r0 (.istore_n 2) 26, r0 (.aload_n 0) 27, rf (.getfield 7) 28 5 1 0 775, r0 (.iload_n 1) 31, r0 .iaload 32, rt (.tableswitch 68 1 4 #[31, 68, 40, 65]) 33 49 [(1, 23), (2, 49), (3, 30), (4, 46)], r0 (.iload_n 2) 64, r0 (.aload_n 0) 65, rf (.getfield 13) 66 5 2 0 776, r0 (.iload_n 1) 69, r0 .iaload 70, r0 .isub 71, r0 .ireturn 72, r0 (.aload_n 0) 73, rf (.getfield 19) 74 5 4 0 778]
def mt137_1 : List RI := [rv (.iconst 3) 77 0 3, r0 .iaload 78, rv (.iconst 4) 79 0 4, r0 .irem 80, ra (.ifCond .ne 8) 81 39, rv (.bipush 99) 84 0 99, ra (.goto 11) 86 45, r0 (.iload_n 2) 89, r0 (.aload_n 0) 90, rf (.getfield 13) 91 5 2 0 776, r0 (.iload_n 1) 94, r0 .iaload 95, r0 .isub 96, r0 .ireturn 97, r0 (.iload_n 2) 98, r0 .ineg 99, r0 .ireturn 100, r0 (.iload_n 2) 101, r0 .ireturn 102]
def mt137 : List (List RI) := [mt137_0, mt137_1]
def mt138_0 : List RI := [r0 (.aload_n 0) 0, rf (.getfield 7) 1 5 1 0 775, r0 (.iload_n 1) 4, r0 .iaload 5, rv (.iconst 4) 6 0 4, ra (.if_icmp .ne 31) 7 24, r0 (.aload_n 0) 10, rf (.getfield 19) 11 5 4 0 778, rv (.iconst 3) 14 0 3, r0 .iaload 15, rv (.iconst 2) 16 0 2, r0 .irem 17, ra (.ifCond .ne 12) 18 18, r0 (.aload_n 0) 21, rf (.getfield 13) 22 5 2 0 776, r0 (.iload_n 1) 25, r0 .iaload 26, ra (.goto 10) 27 23, r0 (.aload_n 0) 30, rf (.getfield 13) 31 5 2 0 776, r0 (.iload_n 1) 34, r0 .iaload 35, r0 .ineg 36, r0 .ireturn 37, r0 (.aload_n 0) 38, rv (.iconst 2) 39 0 2, r0 (.iload_n 1) 40, ri (.invokevirtual 182) 41 132 3 0 1 5 907, r0 (.istore_n 2) 44, r0 (.aload_n 0) 45, rf (.getfield 7) 46 5 1 0 775, r0 (.iload_n 1) 49]
def mt138_1 : List RI := [r0 .iaload 50, rt (.lookupswitch 57 #[(2, 25), (3, 41)]) 51 54 [(2, 34), (3, 44)], r0 (.aload_n 0) 76, r0 (.iload_n 1) 77, ri (.invokevirtual 185) 78 140 2 0 1 5 887, ra (.ifCond .eq 9) 81 42, r0 (.iload_n 2) 84, rv (.iconst 1) 85 0 1, r0 .iadd 86, ra (.goto 4) 87 43, r0 (.iload_n 2) 90, r0 .ireturn 91, r0 (.aload_n 0) 92, r0 (.iload_n 1) 93, ri (.invokevirtual 185) 94 140 2 0 1 5 887, ra (.ifCond .eq 7) 97 50, rv (.iconst 0) 100 0 0, ra (.goto 6) 101 53, rv (.iconst (-1)) 104 0 (-1), r0 (.iload_n 2) 105, r0 .isub 106, r0 .ireturn 107, r0 (.iload_n 2) 108, r0 .ireturn 109]
def mt138 : List (List RI) := [mt138_0, mt138_1]
def mt139_0 : List RI := [rv (.iconst (-1)) 0 0 (-1), r0 (.istore_n 2) 1, rv (.iconst 0) 2 0 0, r0 (.istore_n 3) 3, r0 (.iload_n 3) 4, r0 (.aload_n 0) 5, rf (.getfield 72) 6 5 0 0 774, ra (.if_icmp .ge 82) 9 52, r0 (.aload_n 0) 12, r0 (.iload_n 1) 13, ri (.invokevirtual 79) 14 108 2 0 1 5 895, ra (.ifCond .eq 74) 17 52, r0 (.iload_n 3) 20, r0 (.iload_n 1) 21, ra (.if_icmp .eq 63) 22 50, r0 (.aload_n 0) 25, r0 (.iload_n 3) 26, ri (.invokevirtual 83) 27 109 2 0 1 5 891, ra (.ifCond .eq 55) 30 50, r0 (.aload_n 0) 33, rf (.getfield 16) 34 5 3 0 777, rv (.iconst 3) 37 0 3, r0 (.iload_n 3) 38, r0 .imul 39, r0 .iaload 40, r0 (.aload_n 0) 41, rf (.getfield 16) 42 5 3 0 777, rv (.iconst 3) 45 0 3, r0 (.iload_n 1) 46, r0 .imul 47, r0 .iaload 48, r0 .isub 49]
def mt139_1 : List RI := [r0 (.istore 4) 50, r0 (.iload 4) 52, ra (.ifCond .ge 9) 54 38, r0 (.iload 4) 57, r0 .ineg 59, ra (.goto 5) 60 39, r0 (.iload 4) 63, r0 (.istore 4) 65, r0 (.iload_n 2) 67, rv (.iconst (-1)) 68 0 (-1), ra (.if_icmp .eq 9) 69 46, r0 (.iload 4) 72, r0 (.iload_n 2) 74, ra (.if_icmp .ge 8) 75 48, r0 (.iload 4) 78, ra (.goto 4) 80 49, r0 (.iload_n 2) 83, r0 (.istore_n 2) 84, rv (.iinc 3 1) 85 0 1, ra (.goto (-84)) 88 4, r0 (.iload_n 2) 91, r0 .ireturn 92]
def mt139 : List (List RI) := [mt139_0, mt139_1]
def mt140_0 : List RI := [r0 (.aload_n 0) 0, r0 (.iload_n 1) 1, ri (.invokevirtual 83) 2 109 2 0 1 5 891, ra (.ifCond .ne 5) 5 6, rv (.iconst 0) 8 0 0, ra .ireturn 9 1, r0 (.aload_n 0) 10, r0 (.iload_n 1) 11, ri (.invokevirtual 188) 12 139 2 0 1 5 899, r0 (.istore_n 2) 15, r0 (.iload_n 2) 16, rv (.iconst (-1)) 17 0 (-1), ra (.if_icmp .eq 12) 18 18, r0 (.iload_n 2) 21, r0 (.aload_n 0) 22, r0 (.iload_n 1) 23, ri (.invokevirtual 191) 24 136 2 0 1 5 903, ra (.if_icmp .lt 7) 27 20, rv (.iconst 1) 30 0 1, ra (.goto 4) 31 21, rv (.iconst 0) 34 0 0, ra .ireturn 35 1]
def mt140 : List (List RI) := [mt140_0]
def mt141_0 : List RI := [rv (.iconst 0) 0 0 0, r0 (.istore_n 1) 1, rv (.iconst 0) 2 0 0, r0 (.istore_n 2) 3, r0 (.iload_n 2) 4, r0 (.aload_n 0) 5, rf (.getfield 72) 6 5 0 0 774, ra (.if_icmp .ge 27) 9 22, r0 (.iload_n 1) 12, r0 (.aload_n 0) 13, r0 (.iload_n 2) 14, ri (.invokevirtual 185) 15 140 2 0 1 5 887, ra (.ifCond .eq 9) 18 17, rv (.iconst 1) 21 0 1, r0 (.iload_n 2) 22, r0 .ishl 23, ra (.goto 4) 24 18, rv (.iconst 0) 27 0 0, r0 .ior 28, r0 (.istore_n 1) 29, rv (.iinc 2 1) 30 0 1, ra (.goto (-29)) 33 4, r0 (.iload_n 1) 36, r0 .ireturn 37]
def mt141 : List (List RI) := [mt141_0]
def mt142_0 : List RI := [rv (.iconst (-1)) 0 0 (-1), r0 (.istore_n 1) 1, rv (.iconst 0) 2 0 0, r0 (.istore_n 2) 3, rv (.iconst 0) 4 0 0, r0 (.istore_n 3) 5, r0 (.iload_n 3) 6, r0 (.aload_n 0) 7, rf (.getfield 72) 8 5 0 0 774, ra (.if_icmp .ge 65) 11 42, r0 (.aload_n 0) 14, r0 (.iload_n 3) 15, ri (.invokevirtual 185) 16 140 2 0 1 5 887, ra (.ifCond .eq 51) 19 40, r0 (.aload_n 0) 22, r0 (.iload_n 3) 23, ri (.invokevirtual 194) 24 137 2 0 1 5 928, r0 (.istore 4) 27, r0 (.iload_n 1) 29, rv (.iconst (-1)) 30 0 (-1), ra (.if_icmp .eq 9) 31 24, r0 (.iload 4) 34, r0 (.iload_n 2) 36, ra (.if_icmp .le 7) 37 26, rv (.iconst 1) 40 0 1, ra (.goto 4) 41 27, rv (.iconst 0) 44 0 0, r0 (.istore 5) 45, r0 (.iload 5) 47, ra (.ifCond .eq 7) 49 32, r0 (.iload_n 3) 52, ra (.goto 4) 53 33]
def mt142_1 : List RI := [r0 (.iload_n 1) 56, r0 (.istore_n 1) 57, r0 (.iload 5) 58, ra (.ifCond .eq 8) 60 38, r0 (.iload 4) 63, ra (.goto 4) 65 39, r0 (.iload_n 2) 68, r0 (.istore_n 2) 69, rv (.iinc 3 1) 70 0 1, ra (.goto (-67)) 73 6, r0 (.iload_n 1) 76, r0 .ireturn 77]
def mt142 : List (List RI) := [mt142_0, mt142_1]
def mt143_0 : List RI := [r0 (.aload_n 0) 0, r0 (.iload_n 1) 1, ri (.invokevirtual 179) 2 107 2 0 1 5 960, ra (.ifCond .ne 6) 5 6, rv (.bipush (-5)) 8 0 (-5), r0 .ireturn 10, r0 (.iload_n 2) 11, rt (.tableswitch 127 0 9 #[56, 56, 56, 67, 74, 81, 87, 97, 107, 121]) 12 55 [(0, 8), (1, 8), (2, 8), (3, 17), (4, 22), (5, 27), (6, 31), (7, 37), (8, 43), (9, 51)], r0 (.aload_n 0) 68, rf (.getfield 16) 69 5 3 0 777, rv (.iconst 3) 72 0 3, r0 (.iload_n 1) 73, r0 .imul 74, r0 (.iload_n 2) 75, r0 .iadd 76, r0 .iaload 77, r0 .ireturn 78, r0 (.aload_n 0) 79, rf (.getfield 7) 80 5 1 0 775, r0 (.iload_n 1) 83, r0 .iaload 84, r0 .ireturn 85, r0 (.aload_n 0) 86, rf (.getfield 13) 87 5 2 0 776, r0 (.iload_n 1) 90, r0 .iaload 91, r0 .ireturn 92, r0 (.aload_n 0) 93, r0 (.iload_n 1) 94, ri (.invokevirtual 191) 95 136 2 0 1 5 903, r0 .ireturn 98, rv (.sipush 1000) 99 0 1000]
def mt143_1 : List RI := [r0 (.aload_n 0) 102, r0 (.iload_n 1) 103, ri (.invokevirtual 194) 104 137 2 0 1 5 928, r0 .iadd 107, r0 .ireturn 108, rv (.sipush 1000) 109 0 1000, r0 (.aload_n 0) 112, r0 (.iload_n 1) 113, ri (.invokevirtual 197) 114 138 2 0 1 5 976, r0 .iadd 117, r0 .ireturn 118, r0 (.aload_n 0) 119, r0 (.iload_n 1) 120, ri (.invokevirtual 185) 121 140 2 0 1 5 887, ra (.ifCond .eq 7) 124 49, rv (.iconst 1) 127 0 1, ra (.goto 4) 128 50, rv (.iconst 0) 131 0 0, r0 .ireturn 132, r0 (.aload_n 0) 133, r0 (.iload_n 1) 134, ri (.invokevirtual 188) 135 139 2 0 1 5 899, r0 .ireturn 138, rv (.bipush (-7)) 139 0 (-7), r0 .ireturn 141]
def mt143 : List (List RI) := [mt143_0, mt143_1]
def mt144_0 : List RI := [rv (.iconst 2) 0 0 2, r0 (.aload_n 0) 1, rf (.getfield 16) 2 5 3 0 777, rv (.iconst 3) 5 0 3, r0 (.iload_n 1) 6, r0 .imul 7, r0 .iaload 8, r0 .imul 9, rv (.bipush 63) 10 0 63, r0 .isub 12, r0 (.istore_n 2) 13, r0 (.aload_n 0) 14, rf (.getfield 19) 15 5 4 0 778, rv (.iconst 0) 18 0 0, rv (.iconst 1) 19 0 1, r0 (.iload_n 2) 20, ra (.ifCond .ge 8) 21 20, r0 (.iload_n 2) 24, r0 .ineg 25, ra (.goto 4) 26 21, r0 (.iload_n 2) 29, rv (.bipush 20) 30 0 20, r0 .idiv 32, r0 .iadd 33, r0 .iastore 34, r0 (.aload_n 0) 35, rf (.getfield 19) 36 5 4 0 778, rv (.iconst 1) 39 0 1, r0 (.iload_n 1) 40, r0 .iastore 41, r0 (.aload_n 0) 42, rf (.getfield 19) 43 5 4 0 778]
def mt144_1 : List RI := [rv (.iconst 2) 46 0 2, r0 (.aload_n 0) 47, rf (.getfield 19) 48 5 4 0 778, rv (.iconst 2) 51 0 2, r0 .iaload 52, rv (.iconst 1) 53 0 1, r0 .iadd 54, rv (.iconst 0) 55 0 0, rv (.sipush 9999) 56 0 9999, ri (.invokestatic 176) 59 105 3 1 1 5 925, r0 .iastore 62, r0 (.aload_n 0) 63, rf (.getfield 16) 64 5 3 0 777, rv (.iconst 3) 67 0 3, r0 (.iload_n 1) 68, r0 .imul 69, rv (.iconst (-1)) 70 0 (-1), r0 .iastore 71, r0 .return_ 72]
def mt144 : List (List RI) := [mt144_0, mt144_1]
def mt145_0 : List RI := [rv (.iconst (-1)) 0 0 (-1), r0 (.istore_n 1) 1, r0 (.aload_n 0) 2, rf (.getfield 19) 3 5 4 0 778, rv (.iconst 0) 6 0 0, r0 .iaload 7, ra (.ifCond .le 41) 8 31, r0 (.aload_n 0) 11, rf (.getfield 19) 12 5 4 0 778, rv (.iconst 0) 15 0 0, r0 .dup2 16, r0 .iaload 17, rv (.iconst 1) 18 0 1, r0 .isub 19, r0 .iastore 20, r0 (.aload_n 0) 21, rf (.getfield 19) 22 5 4 0 778, rv (.iconst 1) 25 0 1, r0 (.aload_n 0) 26, rf (.getfield 19) 27 5 4 0 778, rv (.iconst 0) 30 0 0, r0 .iaload 31, ra (.ifCond .ne 7) 32 25, rv (.iconst (-1)) 35 0 (-1), ra (.goto 9) 36 29, r0 (.aload_n 0) 39, rf (.getfield 19) 40 5 4 0 778, rv (.iconst 1) 43 0 1, r0 .iaload 44, r0 .iastore 45, ra (.goto 18) 46 40, r0 (.aload_n 0) 49]
def mt145_1 : List RI := [ri (.invokevirtual 95) 50 142 1 0 1 5 883, r0 (.istore_n 1) 53, r0 (.iload_n 1) 54, rv (.iconst (-1)) 55 0 (-1), ra (.if_icmp .eq 8) 56 40, r0 (.aload_n 0) 59, r0 (.iload_n 1) 60, ri (.invokevirtual 200) 61 144 2 0 0 5 988, rv (.iconst 0) 64 0 0, r0 (.istore_n 2) 65, r0 (.iload_n 2) 66, r0 (.aload_n 0) 67, rf (.getfield 72) 68 5 0 0 774, ra (.if_icmp .ge 73) 71 92, r0 (.aload_n 0) 74, r0 (.iload_n 2) 75, ri (.invokevirtual 79) 76 108 2 0 1 5 895, ra (.ifCond .eq 59) 79 90, r0 (.aload_n 0) 82, rf (.getfield 16) 83 5 3 0 777, rv (.iconst 3) 86 0 3, r0 (.iload_n 2) 87, r0 .imul 88, r0 (.aload_n 0) 89, rf (.getfield 16) 90 5 3 0 777, rv (.iconst 3) 93 0 3, r0 (.iload_n 2) 94, r0 .imul 95, r0 .iaload 96, r0 (.aload_n 0) 97, r0 (.iload_n 2) 98, ri (.invokevirtual 197) 99 138 2 0 1 5 976]
def mt145_2 : List RI := [r0 .iadd 102, rv (.iconst 0) 103 0 0, rv (.bipush 63) 104 0 63, ri (.invokestatic 176) 106 105 3 1 1 5 925, r0 .iastore 109, r0 (.aload_n 0) 110, rf (.getfield 16) 111 5 3 0 777, rv (.iconst 3) 114 0 3, r0 (.iload_n 2) 115, r0 .imul 116, rv (.iconst 2) 117 0 2, r0 .iadd 118, r0 (.aload_n 0) 119, rf (.getfield 16) 120 5 3 0 777, rv (.iconst 3) 123 0 3, r0 (.iload_n 2) 124, r0 .imul 125, rv (.iconst 2) 126 0 2, r0 .iadd 127, r0 .iaload 128, rv (.iconst 1) 129 0 1, r0 .iadd 130, rv (.iconst 0) 131 0 0, rv (.bipush 99) 132 0 99, ri (.invokestatic 176) 134 105 3 1 1 5 925, r0 .iastore 137, rv (.iinc 2 1) 138 0 1, ra (.goto (-75)) 141 42, r0 (.aload_n 0) 144, rf (.getfield 19) 145 5 4 0 778, rv (.iconst 3) 148 0 3, r0 .dup2 149]
def mt145_3 : List RI := [r0 .iaload 150, rv (.iconst 1) 151 0 1, r0 .iadd 152, r0 .iastore 153, r0 (.iload_n 1) 154, r0 .ireturn 155]
def mt145 : List (List RI) := [mt145_0, mt145_1, mt145_2, mt145_3]
def mt146_0 : List RI := [r0 (.aload_n 0) 0, rf (.getfield 19) 1 5 4 0 778, rv (.iconst 3) 4 0 3, r0 .iaload 5, rv (.sipush 9999) 6 0 9999, ra (.if_icmp .ne 8) 9 8, rv (.bipush (-3)) 12 0 (-3), ra (.goto 7) 14 10, r0 (.aload_n 0) 17, ri (.invokevirtual 203) 18 145 1 0 1 5 984, r0 .ireturn 21]
def mt146 : List (List RI) := [mt146_0]
def mt147_0 : List RI := [r0 (.aload_n 0) 0, r0 (.iload_n 1) 1, ri (.invokevirtual 179) 2 107 2 0 1 5 960, ra (.ifCond .ne 6) 5 6, rv (.bipush (-5)) 8 0 (-5), r0 .ireturn 10, r0 (.iload_n 2) 11, rv (.bipush (-63)) 12 0 (-63), rv (.bipush 63) 14 0 63, ri (.invokestatic 75) 16 104 3 1 1 5 735, ra (.ifCond .ne 6) 19 13, rv (.bipush (-7)) 22 0 (-7), r0 .ireturn 24, r0 (.aload_n 0) 25, r0 (.iload_n 1) 26, ri (.invokevirtual 79) 27 108 2 0 1 5 895, ra (.ifCond .ne 6) 30 19, rv (.bipush (-3)) 33 0 (-3), r0 .ireturn 35, r0 (.aload_n 0) 36, rf (.getfield 16) 37 5 3 0 777, rv (.iconst 3) 40 0 3, r0 (.iload_n 1) 41, r0 .imul 42, r0 (.aload_n 0) 43, rf (.getfield 16) 44 5 3 0 777, rv (.iconst 3) 47 0 3, r0 (.iload_n 1) 48, r0 .imul 49, r0 .iaload 50, r0 (.iload_n 2) 51, r0 .iadd 52]
def mt147_1 : List RI := [rv (.iconst 0) 53 0 0, rv (.bipush 63) 54 0 63, ri (.invokestatic 176) 56 105 3 1 1 5 925, r0 .iastore 59, r0 (.aload_n 0) 60, rf (.getfield 16) 61 5 3 0 777, rv (.iconst 3) 64 0 3, r0 (.iload_n 1) 65, r0 .imul 66, r0 .iaload 67, r0 .ireturn 68]
def mt147 : List (List RI) := [mt147_0, mt147_1]
def mt148_0 : List RI := [rv (.iconst 0) 0 0 0, r0 (.istore_n 1) 1, r0 (.iload_n 1) 2, rv (.bipush 18) 3 0 18, ra (.if_icmp .ge 21) 5 15, r0 (.aload_n 0) 8, rf (.getfield 61) 9 5 29 0 803, r0 (.iload_n 1) 12, r0 (.aload_n 0) 13, rf (.getfield 16) 14 5 3 0 777, r0 (.iload_n 1) 17, r0 .iaload 18, r0 .iastore 19, rv (.iinc 1 1) 20 0 1, ra (.goto (-21)) 23 2, rv (.iconst 0) 26 0 0, r0 (.istore_n 1) 27, r0 (.iload_n 1) 28, rv (.iconst 4) 29 0 4, ra (.if_icmp .ge 24) 30 32, r0 (.aload_n 0) 33, rf (.getfield 61) 34 5 29 0 803, rv (.bipush 18) 37 0 18, r0 (.iload_n 1) 39, r0 .iadd 40, r0 (.aload_n 0) 41, rf (.getfield 19) 42 5 4 0 778, r0 (.iload_n 1) 45, r0 .iaload 46, r0 .iastore 47, rv (.iinc 1 1) 48 0 1, ra (.goto (-23)) 51 17]
def mt148_1 : List RI := [r0 .return_ 54]
def mt148 : List (List RI) := [mt148_0, mt148_1]
def mt149_0 : List RI := [rv (.iconst 0) 0 0 0, r0 (.istore_n 1) 1, r0 (.iload_n 1) 2, rv (.bipush 18) 3 0 18, ra (.if_icmp .ge 21) 5 15, r0 (.aload_n 0) 8, rf (.getfield 16) 9 5 3 0 777, r0 (.iload_n 1) 12, r0 (.aload_n 0) 13, rf (.getfield 61) 14 5 29 0 803, r0 (.iload_n 1) 17, r0 .iaload 18, r0 .iastore 19, rv (.iinc 1 1) 20 0 1, ra (.goto (-21)) 23 2, rv (.iconst 0) 26 0 0, r0 (.istore_n 1) 27, r0 (.iload_n 1) 28, rv (.iconst 4) 29 0 4, ra (.if_icmp .ge 24) 30 32, r0 (.aload_n 0) 33, rf (.getfield 19) 34 5 4 0 778, r0 (.iload_n 1) 37, r0 (.aload_n 0) 38, rf (.getfield 61) 39 5 29 0 803, rv (.bipush 18) 42 0 18, r0 (.iload_n 1) 44, r0 .iadd 45, r0 .iaload 46, r0 .iastore 47, rv (.iinc 1 1) 48 0 1, ra (.goto (-23)) 51 17]
def mt149_1 : List RI := [r0 .return_ 54]
def mt149 : List (List RI) := [mt149_0, mt149_1]
def mt150_0 : List RI := [rv (.iconst 0) 0 0 0, r0 (.istore_n 2) 1, r0 (.aload_n 0) 2, rv (.iconst 0) 3 0 0, rf (.putfield 206) 4 5 30 0 804, rv (.iconst 0) 7 0 0, r0 (.istore_n 3) 8, r0 (.iload_n 3) 9, r0 (.iload_n 1) 10, ra (.if_icmp .ge 58) 11 40, r0 (.aload_n 0) 14, ri (.invokevirtual 203) 15 145 1 0 1 5 984, r0 (.istore 4) 18, r0 (.iload_n 2) 20, r0 (.iload 4) 21, rv (.iconst (-1)) 23 0 (-1), ra (.if_icmp .ne 7) 24 19, rv (.iconst 0) 27 0 0, ra (.goto 4) 28 20, rv (.iconst 1) 31 0 1, r0 .iadd 32, r0 (.istore_n 2) 33, r0 (.aload_n 0) 34, r0 (.iload 4) 35, rv (.iconst (-1)) 37 0 (-1), ra (.if_icmp .ne 10) 38 29, r0 (.aload_n 0) 41, rf (.getfield 206) 42 5 30 0 804, ra (.goto 15) 45 37, rv (.bipush 10) 48 0 10, r0 (.aload_n 0) 50, rf (.getfield 206) 51 5 30 0 804]
def mt150_1 : List RI := [r0 .imul 54, r0 (.iload 4) 55, r0 .iadd 57, rv (.iconst 1) 58 0 1, r0 .iadd 59, rf (.putfield 206) 60 5 30 0 804, rv (.iinc 3 1) 63 0 1, ra (.goto (-57)) 66 7, r0 (.iload_n 2) 69, r0 .ireturn 70]
def mt150 : List (List RI) := [mt150_0, mt150_1]
def mt151_0 : List RI := [r0 (.iload_n 2) 0, rv (.iconst 0) 1 0 0, rv (.iconst 2) 2 0 2, ri (.invokestatic 75) 3 104 3 1 1 5 735, ra (.ifCond .ne 35) 6 21, r0 (.iload_n 2) 9, rv (.bipush 10) 10 0 10, rv (.bipush 9) 12 0 9, r0 (.aload_n 0) 14, rf (.getfield 72) 15 5 0 0 774, r0 .iadd 18, ri (.invokestatic 75) 19 104 3 1 1 5 735, ra (.ifCond .ne 19) 22 21, r0 (.iload_n 2) 25, rv (.bipush 20) 26 0 20, rv (.bipush 19) 28 0 19, r0 (.aload_n 0) 30, rf (.getfield 72) 31 5 0 0 774, r0 .iadd 34, ri (.invokestatic 75) 35 104 3 1 1 5 735, ra (.ifCond .eq 7) 38 23, rv (.iconst 1) 41 0 1, ra (.goto 4) 42 24, rv (.iconst 0) 45 0 0, r0 (.istore_n 3) 46, r0 (.iload_n 1) 47, rv (.iconst 0) 48 0 0, rv (.bipush 60) 49 0 60, ri (.invokestatic 75) 51 104 3 1 1 5 735, ra (.ifCond .eq 7) 54 32, r0 (.iload_n 3) 57, ra (.ifCond .ne 6) 58 34]
def mt151_1 : List RI := [rv (.bipush (-2)) 61 0 (-2), r0 .ireturn 63, r0 (.aload_n 0) 64, ri (.invokevirtual 209) 65 148 1 0 0 5 1000, r0 (.aload_n 0) 68, r0 (.iload_n 1) 69, ri (.invokevirtual 212) 70 150 2 0 1 5 1004, r0 (.istore 4) 73, r0 (.iload_n 2) 75, rt (.tableswitch 49 0 2 #[28, 31, 40]) 76 51 [(0, 42), (1, 43), (2, 47)], ra (.goto 56) 104 74, r0 (.aload_n 0) 107, rf (.getfield 206) 108 5 30 0 804, r0 (.istore 4) 111, ra (.goto 47) 113 74, r0 (.aload_n 0) 116, ri (.invokevirtual 104) 117 112 1 0 1 5 936, r0 (.istore 4) 120, ra (.goto 38) 122 74, r0 (.iload_n 2) 125, rv (.bipush 20) 126 0 20, ra (.if_icmp .ge 17) 128 63, r0 (.aload_n 0) 131, rf (.getfield 16) 132 5 3 0 777, rv (.iconst 3) 135 0 3, r0 (.iload_n 2) 136, rv (.bipush 10) 137 0 10, r0 .isub 139, r0 .imul 140, r0 .iaload 141, ra (.goto 16) 142 73, r0 (.aload_n 0) 145]
def mt151_2 : List RI := [rf (.getfield 16) 146 5 3 0 777, rv (.iconst 3) 149 0 3, r0 (.iload_n 2) 150, rv (.bipush 20) 151 0 20, r0 .isub 153, r0 .imul 154, rv (.iconst 2) 155 0 2, r0 .iadd 156, r0 .iaload 157, r0 (.istore 4) 158, r0 (.aload_n 0) 160, ri (.invokevirtual 215) 161 149 1 0 0 5 1008, r0 (.iload 4) 164, r0 .ireturn 166]
def mt151 : List (List RI) := [mt151_0, mt151_1, mt151_2]
def mt152_0 : List RI := [r0 (.iload_n 2) 0, ra (.ifCond .ne 11) 1 6, r0 (.aload_n 0) 4, r0 (.iload_n 1) 5, ri (.invokevirtual 86) 6 111 2 0 1 5 940, ra (.goto 37) 9 24, r0 (.iload_n 2) 12, rv (.iconst 1) 13 0 1, ra (.if_icmp .ne 11) 14 13, r0 (.aload_n 0) 17, r0 (.iload_n 1) 18, ri (.invokevirtual 185) 19 140 2 0 1 5 887, ra (.goto 24) 22 24, r0 (.aload_n 0) 25, rf (.getfield 19) 26 5 4 0 778, rv (.iconst 0) 29 0 0, r0 .iaload 30, ra (.ifCond .ne 14) 31 23, r0 (.aload_n 0) 34, ri (.invokevirtual 98) 35 141 1 0 1 5 932, ra (.ifCond .ne 7) 38 23, rv (.iconst 1) 41 0 1, ra (.goto 4) 42 24, rv (.iconst 0) 45 0 0, ra .ireturn 46 1]
def mt152 : List (List RI) := [mt152_0]
def mt153_0 : List RI := [rv (.iconst (-1)) 0 0 (-1), r0 (.istore_n 3) 1, rv (.iconst 0) 2 0 0, r0 (.istore 4) 3, r0 (.iload 4) 5, rv (.bipush 60) 7 0 60, ra (.if_icmp .gt 35) 9 24, r0 (.iload_n 3) 12, rv (.iconst (-1)) 13 0 (-1), ra (.if_icmp .ne 30) 14 24, r0 (.aload_n 0) 17, r0 (.iload_n 1) 18, r0 (.iload_n 2) 19, ri (.invokevirtual 218) 20 152 3 0 1 5 1020, ra (.ifCond .eq 8) 23 17, r0 (.iload 4) 26, ra (.goto 4) 28 18, rv (.iconst (-1)) 31 0 (-1), r0 (.istore_n 3) 32, r0 (.aload_n 0) 33, ri (.invokevirtual 203) 34 145 1 0 1 5 984, r0 .pop 37, rv (.iinc 4 1) 38 0 1, ra (.goto (-36)) 41 4, r0 (.iload_n 3) 44, r0 .ireturn 45]
def mt153 : List (List RI) := [mt153_0]
def mt154_0 : List RI := [r0 (.iload_n 2) 0, rv (.iconst 0) 1 0 0, rv (.iconst 2) 2 0 2, ri (.invokestatic 75) 3 104 3 1 1 5 735, ra (.ifCond .ne 6) 6 7, rv (.bipush (-7)) 9 0 (-7), r0 .ireturn 11, r0 (.iload_n 2) 12, rv (.iconst 2) 13 0 2, ra (.if_icmp .ge 14) 14 16, r0 (.aload_n 0) 17, r0 (.iload_n 1) 18, ri (.invokevirtual 179) 19 107 2 0 1 5 960, ra (.ifCond .ne 6) 22 16, rv (.bipush (-5)) 25 0 (-5), r0 .ireturn 27, r0 (.aload_n 0) 28, ri (.invokevirtual 209) 29 148 1 0 0 5 1000, r0 (.aload_n 0) 32, r0 (.iload_n 1) 33, r0 (.iload_n 2) 34, ri (.invokevirtual 222) 35 153 3 0 1 5 1016, r0 (.istore_n 3) 38, r0 (.aload_n 0) 39, ri (.invokevirtual 215) 40 149 1 0 0 5 1008, r0 (.iload_n 3) 43, r0 .ireturn 44]
def mt154 : List (List RI) := [mt154_0]
def mt155_0 : List RI := [r0 (.aload_n 0) 0, ri (.invokevirtual 209) 1 148 1 0 0 5 1000, r0 (.aload_n 0) 4, r0 (.iload_n 1) 5, ri (.invokevirtual 212) 6 150 2 0 1 5 1004, r0 (.istore_n 2) 9, r0 (.aload_n 0) 10, ri (.invokevirtual 215) 11 149 1 0 0 5 1008, r0 (.iload_n 2) 14, r0 .ireturn 15]
def mt155 : List (List RI) := [mt155_0]
def mt156_0 : List RI := [r0 (.iload_n 1) 0, rv (.iconst 0) 1 0 0, rv (.bipush 60) 2 0 60, ri (.invokestatic 75) 4 104 3 1 1 5 735, ra (.ifCond .eq 12) 7 10, r0 (.iload_n 2) 10, rv (.iconst 0) 11 0 0, rv (.iconst 1) 12 0 1, ri (.invokestatic 75) 13 104 3 1 1 5 735, ra (.ifCond .ne 6) 16 12, rv (.bipush (-2)) 19 0 (-2), r0 .ireturn 21, rv (.iconst (-1)) 22 0 (-1), r0 (.istore_n 3) 23, r0 (.aload_n 0) 24, r0 (.iload_n 1) 25, ri (.invokevirtual 225) 26 155 2 0 1 5 1028, r0 (.istore 4) 29, rv (.iconst 0) 31 0 0, r0 (.istore 5) 32, r0 (.iload 5) 34, r0 (.aload_n 0) 36, rf (.getfield 72) 37 5 0 0 774, ra (.if_icmp .ge 79) 40 66, r0 (.aload_n 0) 43, r0 (.iload 5) 44, ri (.invokevirtual 83) 46 109 2 0 1 5 891, ra (.ifCond .eq 64) 49 64, r0 (.aload_n 0) 52, rf (.getfield 16) 53 5 3 0 777, rv (.iconst 3) 56 0 3, r0 (.iload 5) 57]
def mt156_1 : List RI := [r0 .imul 59, rv (.iconst 1) 60 0 1, r0 .iadd 61, rv (.iconst 1) 62 0 1, r0 .iastore 63, r0 (.aload_n 0) 64, r0 (.iload_n 1) 65, ri (.invokevirtual 225) 66 155 2 0 1 5 1028, r0 (.istore 6) 69, r0 (.aload_n 0) 71, rf (.getfield 16) 72 5 3 0 777, rv (.iconst 3) 75 0 3, r0 (.iload 5) 76, r0 .imul 78, rv (.iconst 1) 79 0 1, r0 .iadd 80, rv (.iconst 0) 81 0 0, r0 .iastore 82, r0 (.iload 6) 83, r0 (.iload 4) 85, ra (.if_icmp .le 8) 87 55, r0 (.iload 5) 90, ra (.goto 4) 92 56, r0 (.iload_n 3) 95, r0 (.istore_n 3) 96, r0 (.iload 6) 97, r0 (.iload 4) 99, ra (.if_icmp .le 8) 101 62, r0 (.iload 6) 104, ra (.goto 5) 106 63, r0 (.iload 4) 109, r0 (.istore 4) 111]
def mt156_2 : List RI := [rv (.iinc 5 1) 113 0 1, ra (.goto (-82)) 116 20, r0 (.iload_n 2) 119, ra (.ifCond .ne 7) 120 70, r0 (.iload_n 3) 123, ra (.goto 5) 124 71, r0 (.iload 4) 127, r0 .ireturn 129]
def mt156 : List (List RI) := [mt156_0, mt156_1, mt156_2]
def mt157_0 : List RI := [r0 (.aload_n 0) 0, r0 (.iload_n 1) 1, ri (.invokevirtual 179) 2 107 2 0 1 5 960, ra (.ifCond .ne 6) 5 6, rv (.bipush (-5)) 8 0 (-5), r0 .ireturn 10, r0 (.iload_n 2) 11, rv (.iconst 0) 12 0 0, rv (.iconst 1) 13 0 1, ri (.invokestatic 75) 14 104 3 1 1 5 735, ra (.ifCond .ne 6) 17 13, rv (.bipush (-7)) 20 0 (-7), r0 .ireturn 22, r0 (.aload_n 0) 23, rf (.getfield 19) 24 5 4 0 778, rv (.iconst 1) 27 0 1, r0 .iaload 28, r0 (.iload_n 1) 29, ra (.if_icmp .ne 6) 30 21, rv (.bipush (-3)) 33 0 (-3), r0 .ireturn 35, rv (.iconst (-1)) 36 0 (-1), r0 (.istore_n 3) 37, rv (.iconst (-1)) 38 0 (-1), r0 (.istore 4) 39, r0 (.aload_n 0) 41, ri (.invokevirtual 209) 42 148 1 0 0 5 1000, rv (.iconst 0) 45 0 0, r0 (.istore 5) 46, r0 (.iload 5) 48, rv (.bipush 64) 50 0 64, ra (.if_icmp .ge 93) 52 82]
def mt157_1 : List RI := [r0 (.aload_n 0) 55, rf (.getfield 16) 56 5 3 0 777, rv (.iconst 3) 59 0 3, r0 (.iload_n 1) 60, r0 .imul 61, r0 (.iload 5) 62, r0 .iastore 64, r0 (.aload_n 0) 65, rf (.getfield 16) 66 5 3 0 777, rv (.iconst 3) 69 0 3, r0 (.iload_n 1) 70, r0 .imul 71, rv (.iconst 1) 72 0 1, r0 .iadd 73, rv (.iconst 0) 74 0 0, r0 .iastore 75, r0 (.aload_n 0) 76, r0 (.iload_n 1) 77, rv (.iconst 0) 78 0 0, ri (.invokevirtual 222) 79 153 3 0 1 5 1016, r0 (.istore 6) 82, r0 (.aload_n 0) 84, ri (.invokevirtual 215) 85 149 1 0 0 5 1008, r0 (.iload 6) 88, rv (.iconst (-1)) 90 0 (-1), ra (.if_icmp .eq 19) 91 66, r0 (.iload_n 3) 94, rv (.iconst (-1)) 95 0 (-1), ra (.if_icmp .eq 10) 96 64, r0 (.iload 6) 99, r0 (.iload 4) 101, ra (.if_icmp .ge 7) 103 66]
def mt157_2 : List RI := [rv (.iconst 1) 106 0 1, ra (.goto 4) 107 67, rv (.iconst 0) 110 0 0, r0 (.istore 7) 111, r0 (.iload 7) 113, ra (.ifCond .eq 8) 115 72, r0 (.iload 5) 118, ra (.goto 4) 120 73, r0 (.iload_n 3) 123, r0 (.istore_n 3) 124, r0 (.iload 7) 125, ra (.ifCond .eq 8) 127 78, r0 (.iload 6) 130, ra (.goto 5) 132 79, r0 (.iload 4) 135, r0 (.istore 4) 137, rv (.iinc 5 1) 139 0 1, ra (.goto (-94)) 142 29, r0 (.iload_n 2) 145, ra (.ifCond .ne 7) 146 86, r0 (.iload_n 3) 149, ra (.goto 5) 150 87, r0 (.iload 4) 153, r0 .ireturn 155]
def mt157 : List (List RI) := [mt157_0, mt157_1, mt157_2]
def mt158_0 : List RI := [r0 (.aload_n 0) 0, r0 (.iload_n 1) 1, ri (.invokevirtual 179) 2 107 2 0 1 5 960, ra (.ifCond .ne 6) 5 6, rv (.bipush (-5)) 8 0 (-5), r0 .ireturn 10, r0 (.iload_n 2) 11, rv (.iconst 0) 12 0 0, rv (.iconst 1) 13 0 1, ri (.invokestatic 75) 14 104 3 1 1 5 735, ra (.ifCond .ne 6) 17 13, rv (.bipush (-7)) 20 0 (-7), r0 .ireturn 22, r0 (.aload_n 0) 23, r0 (.iload_n 1) 24, ri (.invokevirtual 83) 25 109 2 0 1 5 891, ra (.ifCond .ne 5) 28 19, rv (.iconst (-1)) 31 0 (-1), r0 .ireturn 32, r0 (.aload_n 0) 33, rf (.getfield 16) 34 5 3 0 777, rv (.iconst 3) 37 0 3, r0 (.iload_n 1) 38, r0 .imul 39, r0 .iaload 40, r0 (.istore_n 3) 41, rv (.iconst (-1)) 42 0 (-1), r0 (.istore 4) 43, rv (.iconst (-1)) 45 0 (-1), r0 (.istore 5) 46, rv (.iconst 0) 48 0 0, r0 (.istore 6) 49]
def mt158_1 : List RI := [r0 (.iload 6) 51, rv (.bipush 64) 53 0 64, ra (.if_icmp .ge 94) 55 81, r0 (.aload_n 0) 58, rf (.getfield 16) 59 5 3 0 777, rv (.iconst 3) 62 0 3, r0 (.iload_n 1) 63, r0 .imul 64, r0 (.iload 6) 65, r0 .iastore 67, r0 (.iload 6) 68, r0 (.iload_n 3) 70, ra (.if_icmp .ge 10) 71 49, r0 (.iload_n 3) 74, r0 (.iload 6) 75, r0 .isub 77, ra (.goto 7) 78 52, r0 (.iload 6) 81, r0 (.iload_n 3) 83, r0 .isub 84, r0 (.istore 7) 85, r0 (.aload_n 0) 87, r0 (.iload_n 1) 88, ri (.invokevirtual 185) 89 140 2 0 1 5 887, ra (.ifCond .eq 20) 92 65, r0 (.iload 4) 95, rv (.iconst (-1)) 97 0 (-1), ra (.if_icmp .eq 10) 98 63, r0 (.iload 7) 101, r0 (.iload 5) 103, ra (.if_icmp .ge 7) 105 65, rv (.iconst 1) 108 0 1]
def mt158_2 : List RI := [ra (.goto 4) 109 66, rv (.iconst 0) 112 0 0, r0 (.istore 8) 113, r0 (.iload 8) 115, ra (.ifCond .eq 8) 117 71, r0 (.iload 6) 120, ra (.goto 5) 122 72, r0 (.iload 4) 125, r0 (.istore 4) 127, r0 (.iload 8) 129, ra (.ifCond .eq 8) 131 77, r0 (.iload 7) 134, ra (.goto 5) 136 78, r0 (.iload 5) 139, r0 (.istore 5) 141, rv (.iinc 6 1) 143 0 1, ra (.goto (-95)) 146 32, r0 (.aload_n 0) 149, rf (.getfield 16) 150 5 3 0 777, rv (.iconst 3) 153 0 3, r0 (.iload_n 1) 154, r0 .imul 155, r0 (.iload_n 3) 156, r0 .iastore 157, r0 (.iload_n 2) 158, ra (.ifCond .ne 8) 159 92, r0 (.iload 5) 162, ra (.goto 5) 164 93, r0 (.iload 4) 167, r0 .ireturn 169]
def mt158 : List (List RI) := [mt158_0, mt158_1, mt158_2]
def mt159_0 : List RI := [rv (.iconst 0) 0 0 0, r0 (.istore_n 3) 1, r0 (.iload_n 3) 2, r0 (.aload_n 0) 3, rf (.getfield 72) 4 5 0 0 774, ra (.if_icmp .ge 42) 7 33, r0 (.aload_n 0) 10, rf (.getfield 16) 11 5 3 0 777, rv (.iconst 3) 14 0 3, r0 (.iload_n 3) 15, r0 .imul 16, rv (.iconst 1) 17 0 1, r0 .iadd 18, r0 (.iload_n 1) 19, r0 (.iload_n 3) 20, r0 .ishr 21, rv (.iconst 1) 22 0 1, r0 .iand 23, rv (.iconst 1) 24 0 1, ra (.if_icmp .ne 7) 25 22, rv (.iconst 1) 28 0 1, ra (.goto 13) 29 30, r0 (.aload_n 0) 32, rf (.getfield 16) 33 5 3 0 777, rv (.iconst 3) 36 0 3, r0 (.iload_n 3) 37, r0 .imul 38, rv (.iconst 1) 39 0 1, r0 .iadd 40, r0 .iaload 41, r0 .iastore 42, rv (.iinc 3 1) 43 0 1]
def mt159_1 : List RI := [ra (.goto (-44)) 46 2, r0 (.aload_n 0) 49, ri (.invokevirtual 98) 50 141 1 0 1 5 932, r0 (.iload_n 2) 53, r0 (.iload_n 1) 54, rv (.iconst (-1)) 55 0 (-1), r0 .ixor 56, r0 .iand 57, ra (.if_icmp .ne 7) 58 43, rv (.iconst 1) 61 0 1, ra (.goto 4) 62 44, rv (.iconst 0) 65 0 0, r0 (.istore_n 3) 66, rv (.iconst 0) 67 0 0, r0 (.istore 4) 68, r0 (.iload 4) 70, r0 (.aload_n 0) 72, rf (.getfield 72) 73 5 0 0 774, ra (.if_icmp .ge 45) 76 78, r0 (.aload_n 0) 79, rf (.getfield 16) 80 5 3 0 777, rv (.iconst 3) 83 0 3, r0 (.iload 4) 84, r0 .imul 86, rv (.iconst 1) 87 0 1, r0 .iadd 88, r0 (.iload_n 1) 89, r0 (.iload 4) 90, r0 .ishr 92, rv (.iconst 1) 93 0 1, r0 .iand 94, rv (.iconst 1) 95 0 1]
def mt159_2 : List RI := [ra (.if_icmp .ne 7) 96 67, rv (.iconst 0) 99 0 0, ra (.goto 14) 100 75, r0 (.aload_n 0) 103, rf (.getfield 16) 104 5 3 0 777, rv (.iconst 3) 107 0 3, r0 (.iload 4) 108, r0 .imul 110, rv (.iconst 1) 111 0 1, r0 .iadd 112, r0 .iaload 113, r0 .iastore 114, rv (.iinc 4 1) 115 0 1, ra (.goto (-48)) 118 47, r0 (.iload_n 3) 121, ra .ireturn 122 1]
def mt159 : List (List RI) := [mt159_0, mt159_1, mt159_2]
def mt160_0 : List RI := [r0 (.iload_n 1) 0, rv (.iconst 0) 1 0 0, rv (.iconst 1) 2 0 1, ri (.invokestatic 75) 3 104 3 1 1 5 735, ra (.ifCond .ne 6) 6 7, rv (.bipush (-2)) 9 0 (-2), r0 .ireturn 11, r0 (.aload_n 0) 12, ri (.invokevirtual 101) 13 110 1 0 1 5 911, r0 (.istore_n 2) 16, rv (.iconst (-1)) 17 0 (-1), r0 (.istore_n 3) 18, rv (.iconst (-1)) 19 0 (-1), r0 (.istore 4) 20, rv (.iconst 0) 22 0 0, r0 (.istore 5) 23, r0 (.iload 5) 25, rv (.iconst 1) 27 0 1, r0 (.aload_n 0) 28, rf (.getfield 72) 29 5 0 0 774, r0 .ishl 32, ra (.if_icmp .ge 83) 33 61, r0 (.iload 5) 36, r0 (.iload_n 2) 38, rv (.iconst (-1)) 39 0 (-1), r0 .ixor 40, r0 .iand 41, ra (.ifCond .ne 22) 42 37, r0 (.iload_n 3) 45, rv (.iconst (-1)) 46 0 (-1), ra (.if_icmp .eq 13) 47 35, r0 (.iload 5) 50]
def mt160_1 : List RI := [ri (.invokestatic 170) 52 106 1 1 1 5 915, r0 (.iload 4) 55, ra (.if_icmp .ge 7) 57 37, rv (.iconst 1) 60 0 1, ra (.goto 4) 61 38, rv (.iconst 0) 64 0 0, r0 (.istore 6) 65, r0 (.iload 6) 67, ra (.ifCond .eq 41) 69 59, r0 (.aload_n 0) 72, r0 (.iload 5) 73, r0 (.iload_n 2) 75, ri (.invokevirtual 228) 76 159 3 0 1 5 1044, r0 (.istore 7) 79, r0 (.iload 7) 81, ra (.ifCond .eq 8) 83 50, r0 (.iload 5) 86, ra (.goto 4) 88 51, r0 (.iload_n 3) 91, r0 (.istore_n 3) 92, r0 (.iload 7) 93, ra (.ifCond .eq 11) 95 57, r0 (.iload 5) 98, ri (.invokestatic 170) 100 106 1 1 1 5 915, ra (.goto 5) 103 58, r0 (.iload 4) 106, r0 (.istore 4) 108, rv (.iinc 5 1) 110 0 1, ra (.goto (-88)) 113 16, r0 (.iload_n 1) 116, ra (.ifCond .ne 7) 117 65, r0 (.iload_n 3) 120]
def mt160_2 : List RI := [ra (.goto 5) 121 66, r0 (.iload 4) 124, r0 .ireturn 126]
def mt160 : List (List RI) := [mt160_0, mt160_1, mt160_2]
def mt161_0 : List RI := [rv (.iconst 0) 0 0 0, r0 (.istore_n 3) 1, r0 (.iload_n 3) 2, r0 (.aload_n 0) 3, rf (.getfield 72) 4 5 0 0 774, ra (.if_icmp .ge 57) 7 40, r0 (.aload_n 0) 10, r0 (.iload_n 3) 11, ri (.invokevirtual 83) 12 109 2 0 1 5 891, ra (.ifCond .eq 43) 15 38, r0 (.aload_n 0) 18, rf (.getfield 16) 19 5 3 0 777, rv (.iconst 3) 22 0 3, r0 (.iload_n 3) 23, r0 .imul 24, r0 .iaload 25, r0 (.aload_n 0) 26, rf (.getfield 16) 27 5 3 0 777, rv (.iconst 3) 30 0 3, r0 (.iload_n 1) 31, r0 .imul 32, r0 .iaload 33, ra (.if_icmp .le 24) 34 38, r0 (.aload_n 0) 37, rf (.getfield 16) 38 5 3 0 777, rv (.iconst 3) 41 0 3, r0 (.iload_n 3) 42, r0 .imul 43, r0 .iaload 44, r0 (.aload_n 0) 45, rf (.getfield 16) 46 5 3 0 777, rv (.iconst 3) 49 0 3]
def mt161_1 : List RI := [r0 (.iload_n 2) 50, r0 .imul 51, r0 .iaload 52, ra (.if_icmp .ge 5) 53 38, rv (.iconst 1) 56 0 1, ra .ireturn 57 1, rv (.iinc 3 1) 58 0 1, ra (.goto (-59)) 61 2, rv (.iconst 0) 64 0 0, ra .ireturn 65 1]
def mt161 : List (List RI) := [mt161_0, mt161_1]
def mt162_0 : List RI := [r0 (.iload_n 1) 0, rv (.iconst 0) 1 0 0, rv (.iconst 1) 2 0 1, ri (.invokestatic 75) 3 104 3 1 1 5 735, ra (.ifCond .ne 6) 6 7, rv (.bipush (-2)) 9 0 (-2), r0 .ireturn 11, rv (.iconst (-1)) 12 0 (-1), r0 (.istore_n 2) 13, rv (.iconst (-1)) 14 0 (-1), r0 (.istore_n 3) 15, rv (.iconst 0) 16 0 0, r0 (.istore 4) 17, r0 (.iload 4) 19, r0 (.aload_n 0) 21, rf (.getfield 72) 22 5 0 0 774, ra (.if_icmp .ge 156) 25 93, rv (.iconst 0) 28 0 0, r0 (.istore 5) 29, r0 (.iload 5) 31, r0 (.aload_n 0) 33, rf (.getfield 72) 34 5 0 0 774, ra (.if_icmp .ge 138) 37 91, r0 (.aload_n 0) 40, rf (.getfield 16) 41 5 3 0 777, rv (.iconst 3) 44 0 3, r0 (.iload 5) 45, r0 .imul 47, r0 .iaload 48, r0 (.aload_n 0) 49, rf (.getfield 16) 50 5 3 0 777, rv (.iconst 3) 53 0 3]
def mt162_1 : List RI := [r0 (.iload 4) 54, r0 .imul 56, r0 .iaload 57, r0 .isub 58, r0 (.istore 6) 59, r0 (.iload 4) 61, r0 (.iload 5) 63, ra (.if_icmp .eq 42) 65 57, r0 (.aload_n 0) 68, r0 (.iload 4) 69, ri (.invokevirtual 83) 71 109 2 0 1 5 891, ra (.ifCond .eq 33) 74 57, r0 (.aload_n 0) 77, r0 (.iload 5) 78, ri (.invokevirtual 83) 80 109 2 0 1 5 891, ra (.ifCond .eq 24) 83 57, r0 (.iload 6) 86, ra (.ifCond .gt 15) 88 55, r0 (.iload 6) 91, ra (.ifCond .ne 14) 93 57, r0 (.iload 4) 96, r0 (.iload 5) 98, ra (.if_icmp .ge 7) 100 57, rv (.iconst 1) 103 0 1, ra (.goto 4) 104 58, rv (.iconst 0) 107 0 0, r0 (.istore 7) 108, r0 (.iload 7) 110, ra (.ifCond .eq 57) 112 89, r0 (.iload 6) 115, r0 (.iload_n 3) 117, ra (.if_icmp .le 51) 118 89]
def mt162_2 : List RI := [r0 (.aload_n 0) 121, r0 (.iload 4) 122, r0 (.iload 5) 124, ri (.invokevirtual 231) 126 161 3 0 1 5 1052, ra (.ifCond .ne 7) 129 71, rv (.iconst 1) 132 0 1, ra (.goto 4) 133 72, rv (.iconst 0) 136 0 0, r0 (.istore 7) 137, r0 (.iload 7) 139, ra (.ifCond .eq 14) 141 81, rv (.bipush 10) 144 0 10, r0 (.iload 4) 146, r0 .imul 148, r0 (.iload 5) 149, r0 .iadd 151, ra (.goto 4) 152 82, r0 (.iload_n 2) 155, r0 (.istore_n 2) 156, r0 (.iload 7) 157, ra (.ifCond .eq 8) 159 87, r0 (.iload 6) 162, ra (.goto 4) 164 88, r0 (.iload_n 3) 167, r0 (.istore_n 3) 168, rv (.iinc 5 1) 169 0 1, ra (.goto (-141)) 172 19, rv (.iinc 4 1) 175 0 1, ra (.goto (-159)) 178 13, r0 (.iload_n 1) 181, ra (.ifCond .ne 7) 182 97, r0 (.iload_n 2) 185]
def mt162_3 : List RI := [ra (.goto 4) 186 98, r0 (.iload_n 3) 189, r0 .ireturn 190]
def mt162 : List (List RI) := [mt162_0, mt162_1, mt162_2, mt162_3]
def mt163_0 : List RI := [r0 (.lload_n 0) 0, rw (.lconst 0) 1 0 0, r0 .lcmp 2, ra (.ifCond .ne 7) 3 7, r0 (.iload 4) 6, r0 .i2l 8, r0 .lreturn 9, r0 (.lload_n 0) 10, r0 (.lstore 5) 11, r0 (.lload_n 2) 13, r0 (.lstore 7) 14, r0 (.lload 7) 16, rw (.lconst 0) 18 0 0, r0 .lcmp 19, ra (.ifCond .eq 21) 20 24, r0 (.lload 5) 23, r0 (.lload 7) 25, r0 .lrem 27, r0 (.lstore 9) 28, r0 (.lload 7) 30, r0 (.lstore 5) 32, r0 (.lload 9) 34, r0 (.lstore 7) 36, ra (.goto (-22)) 38 11, r0 (.iload 4) 41, ra (.ifCond .ne 7) 43 28, r0 (.lload_n 0) 46, ra (.goto 4) 47 29, r0 (.lload_n 2) 50, r0 (.lload 5) 51, r0 .ldiv 53, r0 .lreturn 54]
def mt163 : List (List RI) := [mt163_0]
def mt164_0 : List RI := [rv (.iconst 0) 0 0 0, r0 (.istore_n 2) 1, rv (.iconst 0) 2 0 0, r0 (.istore_n 3) 3, rv (.iconst 0) 4 0 0, r0 (.istore 4) 5, r0 (.iload 4) 7, r0 (.aload_n 0) 9, rf (.getfield 72) 10 5 0 0 774, ra (.if_icmp .ge 51) 13 37, r0 (.iload_n 2) 16, r0 (.aload_n 0) 17, r0 (.iload 4) 18, ri (.invokevirtual 79) 20 108 2 0 1 5 895, ra (.ifCond .eq 15) 23 22, r0 (.aload_n 0) 26, rf (.getfield 16) 27 5 3 0 777, rv (.iconst 3) 30 0 3, r0 (.iload 4) 31, r0 .imul 33, r0 .iaload 34, ra (.goto 4) 35 23, rv (.iconst 0) 38 0 0, r0 .iadd 39, r0 (.istore_n 2) 40, r0 (.iload_n 3) 41, r0 (.aload_n 0) 42, r0 (.iload 4) 43, ri (.invokevirtual 79) 45 108 2 0 1 5 895, ra (.ifCond .eq 7) 48 32, rv (.iconst 1) 51 0 1, ra (.goto 4) 52 33]
def mt164_1 : List RI := [rv (.iconst 0) 55 0 0, r0 .iadd 56, r0 (.istore_n 3) 57, rv (.iinc 4 1) 58 0 1, ra (.goto (-54)) 61 6, r0 (.iload_n 1) 64, rv (.iconst 0) 65 0 0, rv (.iconst 1) 66 0 1, ri (.invokestatic 75) 67 104 3 1 1 5 735, ra (.ifCond .eq 18) 70 51, r0 (.iload_n 3) 73, ra (.ifCond .le 14) 74 51, r0 (.iload_n 2) 77, r0 .i2l 78, r0 (.iload_n 3) 79, r0 .i2l 80, r0 (.iload_n 1) 81, ri (.invokestatic 234) 82 163 3 1 2 5 1060, ra (.goto 6) 85 52, rw (.ldc2_w 238) 88 1063 (-4611686018427387904), r0 .lreturn 91]
def mt164 : List (List RI) := [mt164_0, mt164_1]
def mt165_0 : List RI := [r0 (.iload_n 1) 0, rv (.iconst 0) 1 0 0, rv (.iconst 3) 2 0 3, ri (.invokestatic 75) 3 104 3 1 1 5 735, ra (.ifCond .ne 6) 6 7, rv (.bipush (-2)) 9 0 (-2), r0 .ireturn 11, r0 (.aload_n 0) 12, rf (.getfield 37) 13 5 14 0 788, r0 (.iload_n 1) 16, r0 .iaload 17, rv (.iconst (-1)) 18 0 (-1), ra (.if_icmp .ne 6) 19 15, rv (.bipush (-11)) 22 0 (-11), r0 .ireturn 24, r0 (.aload_n 0) 25, rf (.getfield 40) 26 5 15 0 789, r0 (.iload_n 1) 29, r0 .iaload 30, rv (.bipush 24) 31 0 24, ra (.if_icmp .le 8) 33 23, rv (.bipush (-2)) 36 0 (-2), ra (.goto 4) 38 24, rv (.iconst 0) 41 0 0, r0 .ireturn 42]
def mt165 : List (List RI) := [mt165_0]
def mt166_0 : List RI := [rv (.iconst (-1)) 0 0 (-1), r0 (.istore_n 2) 1, r0 (.aload_n 0) 2, ri (.invokevirtual 209) 3 148 1 0 0 5 1000, rv (.iconst 0) 6 0 0, r0 (.istore_n 3) 7, r0 (.iload_n 3) 8, r0 (.aload_n 0) 9, rf (.getfield 40) 10 5 15 0 789, r0 (.iload_n 1) 13, r0 .iaload 14, ra (.if_icmp .ge 40) 15 34, r0 (.iload_n 2) 18, rv (.iconst (-1)) 19 0 (-1), ra (.if_icmp .ne 35) 20 34, r0 (.aload_n 0) 23, rf (.getfield 43) 24 5 16 0 790, rv (.bipush 40) 27 0 40, r0 (.iload_n 1) 29, r0 .imul 30, r0 (.iload_n 3) 31, r0 .iadd 32, r0 .iaload 33, r0 (.aload_n 0) 34, ri (.invokevirtual 203) 35 145 1 0 1 5 984, rv (.iconst 1) 38 0 1, r0 .iadd 39, ra (.if_icmp .ne 7) 40 30, rv (.iconst (-1)) 43 0 (-1), ra (.goto 4) 44 31, r0 (.iload_n 3) 47, r0 (.istore_n 2) 48]
def mt166_1 : List RI := [rv (.iinc 3 1) 49 0 1, ra (.goto (-44)) 52 6, r0 (.aload_n 0) 55, ri (.invokevirtual 215) 56 149 1 0 0 5 1008, r0 (.iload_n 2) 59, r0 .ireturn 60]
def mt166 : List (List RI) := [mt166_0, mt166_1]
def mt167_0 : List RI := [r0 (.aload_n 0) 0, r0 (.iload_n 1) 1, ri (.invokevirtual 240) 2 165 2 0 1 5 1068, r0 (.istore_n 2) 5, r0 (.iload_n 2) 6, ra (.ifCond .ne 11) 7 10, r0 (.aload_n 0) 10, r0 (.iload_n 1) 11, ri (.invokevirtual 243) 12 166 2 0 1 5 1072, ra (.goto 4) 15 11, r0 (.iload_n 2) 18, r0 .ireturn 19]
def mt167 : List (List RI) := [mt167_0]
def mt168_0 : List RI := [r0 (.aload_n 0) 0, r0 (.iload_n 1) 1, ri (.invokevirtual 240) 2 165 2 0 1 5 1068, r0 (.istore 4) 5, r0 (.iload 4) 7, ra (.ifCond .eq 6) 9 8, r0 (.iload 4) 12, r0 .ireturn 14, r0 (.aload_n 0) 15, r0 (.iload_n 2) 16, ri (.invokevirtual 179) 17 107 2 0 1 5 960, ra (.ifCond .ne 6) 20 14, rv (.bipush (-5)) 23 0 (-5), r0 .ireturn 25, r0 (.iload_n 3) 26, rv (.iconst 0) 27 0 0, rv (.iconst 1) 28 0 1, ri (.invokestatic 75) 29 104 3 1 1 5 735, ra (.ifCond .ne 6) 32 21, rv (.bipush (-7)) 35 0 (-7), r0 .ireturn 37, r0 (.aload_n 0) 38, rf (.getfield 7) 39 5 1 0 775, r0 (.iload_n 2) 42, r0 .iaload 43, r0 (.istore 5) 44, r0 (.aload_n 0) 46, rf (.getfield 13) 47 5 2 0 776, r0 (.iload_n 2) 50, r0 .iaload 51, r0 (.istore 6) 52, rv (.iconst 0) 54 0 0]
def mt168_1 : List RI := [r0 (.istore 7) 55, rv (.iconst 0) 57 0 0, r0 (.istore 8) 58, r0 (.iload 8) 60, r0 (.iload_n 3) 62, ra (.ifCond .ne 8) 63 40, rv (.bipush 6) 66 0 6, ra (.goto 5) 68 41, rv (.bipush 10) 71 0 10, ra (.if_icmp .ge 66) 73 76, r0 (.aload_n 0) 76, rf (.getfield 7) 77 5 1 0 775, r0 (.iload_n 2) 80, r0 (.iload_n 3) 81, ra (.ifCond .ne 8) 82 49, r0 (.iload 8) 85, ra (.goto 5) 87 50, r0 (.iload 5) 90, r0 .iastore 92, r0 (.aload_n 0) 93, rf (.getfield 13) 94 5 2 0 776, r0 (.iload_n 2) 97, r0 (.iload_n 3) 98, rv (.iconst 1) 99 0 1, ra (.if_icmp .ne 8) 100 59, r0 (.iload 8) 103, ra (.goto 5) 105 60, r0 (.iload 6) 108, r0 .iastore 110, r0 (.iload 7) 111, r0 (.aload_n 0) 113, r0 (.iload_n 1) 114]
def mt168_2 : List RI := [ri (.invokevirtual 243) 115 166 2 0 1 5 1072, rv (.iconst (-1)) 118 0 (-1), ra (.if_icmp .ne 10) 119 71, rv (.iconst 1) 122 0 1, r0 (.iload 8) 123, r0 .ishl 125, ra (.goto 4) 126 72, rv (.iconst 0) 129 0 0, r0 .ior 130, r0 (.istore 7) 131, rv (.iinc 8 1) 133 0 1, ra (.goto (-76)) 136 35, r0 (.aload_n 0) 139, rf (.getfield 7) 140 5 1 0 775, r0 (.iload_n 2) 143, r0 (.iload 5) 144, r0 .iastore 146, r0 (.aload_n 0) 147, rf (.getfield 13) 148 5 2 0 776, r0 (.iload_n 2) 151, r0 (.iload 6) 152, r0 .iastore 154, r0 (.iload 7) 155, r0 .ireturn 157]
def mt168 : List (List RI) := [mt168_0, mt168_1, mt168_2]
def mt169_0 : List RI := [r0 (.aload_n 0) 0, r0 (.iload_n 1) 1, ri (.invokevirtual 240) 2 165 2 0 1 5 1068, ra (.ifCond .ne 11) 5 8, r0 (.aload_n 0) 8, r0 (.iload_n 2) 9, ri (.invokevirtual 179) 10 107 2 0 1 5 960, ra (.ifCond .ne 7) 13 10, rw (.ldc2_w 238) 16 1063 (-4611686018427387904), r0 .lreturn 19, r0 (.aload_n 0) 20, rf (.getfield 16) 21 5 3 0 777, rv (.iconst 3) 24 0 3, r0 (.iload_n 2) 25, r0 .imul 26, r0 .iaload 27, r0 (.istore_n 3) 28, r0 (.iload_n 3) 29, rv (.iconst (-1)) 30 0 (-1), ra (.if_icmp .ne 7) 31 22, rw (.ldc2_w 238) 34 1063 (-4611686018427387904), r0 .lreturn 37, rw (.lconst 0) 38 0 0, r0 (.lstore 4) 39, rv (.iconst 0) 41 0 0, r0 (.istore 6) 42, r0 (.iload 6) 44, rv (.bipush 64) 46 0 64, ra (.if_icmp .ge 41) 48 51, r0 (.aload_n 0) 51, rf (.getfield 16) 52 5 3 0 777, rv (.iconst 3) 55 0 3]
def mt169_1 : List RI := [r0 (.iload_n 2) 56, r0 .imul 57, r0 (.iload 6) 58, r0 .iastore 60, r0 (.lload 4) 61, r0 (.aload_n 0) 63, r0 (.iload_n 1) 64, ri (.invokevirtual 243) 65 166 2 0 1 5 1072, rv (.iconst (-1)) 68 0 (-1), ra (.if_icmp .ne 10) 69 46, rw (.lconst 1) 72 0 1, r0 (.iload 6) 73, r0 .lshl 75, ra (.goto 4) 76 47, rw (.lconst 0) 79 0 0, r0 .lor 80, r0 (.lstore 4) 81, rv (.iinc 6 1) 83 0 1, ra (.goto (-42)) 86 26, r0 (.aload_n 0) 89, rf (.getfield 16) 90 5 3 0 777, rv (.iconst 3) 93 0 3, r0 (.iload_n 2) 94, r0 .imul 95, r0 (.iload_n 3) 96, r0 .iastore 97, r0 (.lload 4) 98, r0 .lreturn 100]
def mt169 : List (List RI) := [mt169_0, mt169_1]
def mt170_0 : List RI := [r0 (.aload_n 0) 0, r0 (.iload_n 1) 1, ri (.invokevirtual 240) 2 165 2 0 1 5 1068, r0 (.istore_n 2) 5, r0 (.iload_n 2) 6, ra (.ifCond .eq 5) 7 8, r0 (.iload_n 2) 10, r0 .ireturn 11, rv (.iconst 0) 12 0 0, r0 (.istore_n 3) 13, rv (.iconst 0) 14 0 0, r0 (.istore 4) 15, r0 (.iload 4) 17, r0 (.aload_n 0) 19, rf (.getfield 72) 20 5 0 0 774, ra (.if_icmp .ge 77) 23 67, r0 (.aload_n 0) 26, rf (.getfield 16) 27 5 3 0 777, rv (.iconst 3) 30 0 3, r0 (.iload 4) 31, r0 .imul 33, rv (.iconst 1) 34 0 1, r0 .iadd 35, rv (.iconst 1) 36 0 1, r0 (.aload_n 0) 37, rf (.getfield 16) 38 5 3 0 777, rv (.iconst 3) 41 0 3, r0 (.iload 4) 42, r0 .imul 44, rv (.iconst 1) 45 0 1, r0 .iadd 46, r0 .iaload 47]
def mt170_1 : List RI := [r0 .isub 48, r0 .iastore 49, r0 (.iload_n 3) 50, r0 (.aload_n 0) 51, r0 (.iload_n 1) 52, ri (.invokevirtual 243) 53 166 2 0 1 5 1072, rv (.iconst (-1)) 56 0 (-1), ra (.if_icmp .ne 10) 57 44, rv (.iconst 1) 60 0 1, r0 (.iload 4) 61, r0 .ishl 63, ra (.goto 4) 64 45, rv (.iconst 0) 67 0 0, r0 .ior 68, r0 (.istore_n 3) 69, r0 (.aload_n 0) 70, rf (.getfield 16) 71 5 3 0 777, rv (.iconst 3) 74 0 3, r0 (.iload 4) 75, r0 .imul 77, rv (.iconst 1) 78 0 1, r0 .iadd 79, rv (.iconst 1) 80 0 1, r0 (.aload_n 0) 81, rf (.getfield 16) 82 5 3 0 777, rv (.iconst 3) 85 0 3, r0 (.iload 4) 86, r0 .imul 88, rv (.iconst 1) 89 0 1, r0 .iadd 90, r0 .iaload 91, r0 .isub 92]
def mt170_2 : List RI := [r0 .iastore 93, rv (.iinc 4 1) 94 0 1, ra (.goto (-80)) 97 12, r0 (.iload_n 3) 100, r0 .ireturn 101]
def mt170 : List (List RI) := [mt170_0, mt170_1, mt170_2]
def mt171_0 : List RI := [r0 (.aload_n 0) 0, r0 (.iload_n 1) 1, ri (.invokevirtual 240) 2 165 2 0 1 5 1068, r0 (.istore 4) 5, r0 (.iload 4) 7, ra (.ifCond .eq 6) 9 8, r0 (.iload 4) 12, r0 .ireturn 14, r0 (.aload_n 0) 15, r0 (.iload_n 2) 16, ri (.invokevirtual 179) 17 107 2 0 1 5 960, ra (.ifCond .ne 6) 20 14, rv (.bipush (-5)) 23 0 (-5), r0 .ireturn 25, r0 (.iload_n 3) 26, rv (.iconst 0) 27 0 0, rv (.iconst 1) 28 0 1, ri (.invokestatic 75) 29 104 3 1 1 5 735, ra (.ifCond .ne 6) 32 21, rv (.bipush (-7)) 35 0 (-7), r0 .ireturn 37, r0 (.aload_n 0) 38, rf (.getfield 16) 39 5 3 0 777, rv (.iconst 3) 42 0 3, r0 (.iload_n 2) 43, r0 .imul 44, rv (.iconst 2) 45 0 2, r0 .iadd 46, r0 .iaload 47, r0 (.istore 5) 48, rv (.iconst 0) 50 0 0, r0 (.istore 6) 51]
def mt171_1 : List RI := [rv (.iconst (-1)) 53 0 (-1), r0 (.istore 7) 54, rv (.iconst 0) 56 0 0, r0 (.istore 8) 57, r0 (.iload 8) 59, rv (.bipush 99) 61 0 99, ra (.if_icmp .gt 72) 63 76, r0 (.aload_n 0) 66, rf (.getfield 16) 67 5 3 0 777, rv (.iconst 3) 70 0 3, r0 (.iload_n 2) 71, r0 .imul 72, rv (.iconst 2) 73 0 2, r0 .iadd 74, r0 (.iload 8) 75, r0 .iastore 77, r0 (.aload_n 0) 78, r0 (.iload_n 1) 79, ri (.invokevirtual 243) 80 166 2 0 1 5 1072, rv (.iconst (-1)) 83 0 (-1), ra (.if_icmp .ne 7) 84 55, rv (.iconst 1) 87 0 1, ra (.goto 4) 88 56, rv (.iconst 0) 91 0 0, r0 (.istore 9) 92, r0 (.iload 6) 94, r0 (.iload 9) 96, ra (.ifCond .eq 7) 98 62, rv (.iconst 1) 101 0 1, ra (.goto 4) 102 63, rv (.iconst 0) 105 0 0, r0 .iadd 106]
def mt171_2 : List RI := [r0 (.istore 6) 107, r0 (.iload 9) 109, ra (.ifCond .eq 14) 111 72, r0 (.iload 7) 114, rv (.iconst (-1)) 116 0 (-1), ra (.if_icmp .ne 8) 117 72, r0 (.iload 8) 120, ra (.goto 5) 122 73, r0 (.iload 7) 125, r0 (.istore 7) 127, rv (.iinc 8 1) 129 0 1, ra (.goto (-73)) 132 36, r0 (.aload_n 0) 135, rf (.getfield 16) 136 5 3 0 777, rv (.iconst 3) 139 0 3, r0 (.iload_n 2) 140, r0 .imul 141, rv (.iconst 2) 142 0 2, r0 .iadd 143, r0 (.iload 5) 144, r0 .iastore 146, r0 (.iload_n 3) 147, ra (.ifCond .ne 8) 148 89, r0 (.iload 6) 151, ra (.goto 5) 153 90, r0 (.iload 7) 156, r0 .ireturn 158]
def mt171 : List (List RI) := [mt171_0, mt171_1, mt171_2]
def mt172_0 : List RI := [r0 (.aload_n 0) 0, r0 (.iload_n 1) 1, ri (.invokevirtual 240) 2 165 2 0 1 5 1068, r0 (.istore_n 2) 5, r0 (.iload_n 2) 6, ra (.ifCond .eq 5) 7 8, r0 (.iload_n 2) 10, r0 .ireturn 11, r0 (.aload_n 0) 12, rf (.getfield 92) 13 5 10 0 784, r0 (.istore_n 3) 16, rv (.iconst 0) 17 0 0, r0 (.istore 4) 18, rv (.iconst 0) 20 0 0, r0 (.istore 5) 21, r0 (.iload 5) 23, r0 (.aload_n 0) 25, rf (.getfield 89) 26 5 9 0 783, ra (.if_icmp .ge 37) 29 37, r0 (.aload_n 0) 32, r0 (.iload 5) 33, rf (.putfield 92) 35 5 10 0 784, r0 (.iload 4) 38, r0 (.aload_n 0) 40, r0 (.iload_n 1) 41, ri (.invokevirtual 243) 42 166 2 0 1 5 1072, rv (.iconst (-1)) 45 0 (-1), ra (.if_icmp .ne 10) 46 32, rv (.iconst 1) 49 0 1, r0 (.iload 5) 50, r0 .ishl 52, ra (.goto 4) 53 33]
def mt172_1 : List RI := [rv (.iconst 0) 56 0 0, r0 .ior 57, r0 (.istore 4) 58, rv (.iinc 5 1) 60 0 1, ra (.goto (-40)) 63 15, r0 (.aload_n 0) 66, r0 (.iload_n 3) 67, rf (.putfield 92) 68 5 10 0 784, r0 (.iload 4) 71, r0 .ireturn 73]
def mt172 : List (List RI) := [mt172_0, mt172_1]
def mt173_0 : List RI := [r0 (.iload_n 1) 0, rv (.iconst 0) 1 0 0, rv (.iconst 3) 2 0 3, ri (.invokestatic 75) 3 104 3 1 1 5 735, ra (.ifCond .ne 6) 6 7, rv (.bipush (-2)) 9 0 (-2), r0 .ireturn 11, r0 (.iload_n 2) 12, rv (.iconst 0) 13 0 0, rv (.bipush 24) 14 0 24, ri (.invokestatic 75) 16 104 3 1 1 5 735, ra (.ifCond .ne 6) 19 14, rv (.bipush (-7)) 22 0 (-7), r0 .ireturn 24, r0 (.aload_n 0) 25, rf (.getfield 37) 26 5 14 0 788, r0 (.iload_n 1) 29, rv (.iconst 0) 30 0 0, r0 .iastore 31, r0 (.aload_n 0) 32, rf (.getfield 40) 33 5 15 0 789, r0 (.iload_n 1) 36, r0 (.iload_n 2) 37, r0 .iastore 38, r0 (.aload_n 0) 39, ri (.invokevirtual 209) 40 148 1 0 0 5 1000, rv (.iconst 0) 43 0 0, r0 (.istore_n 3) 44, r0 (.iload_n 3) 45, rv (.bipush 40) 46 0 40, ra (.if_icmp .ge 35) 48 50, r0 (.aload_n 0) 51]
def mt173_1 : List RI := [rf (.getfield 43) 52 5 16 0 790, rv (.bipush 40) 55 0 40, r0 (.iload_n 1) 57, r0 .imul 58, r0 (.iload_n 3) 59, r0 .iadd 60, r0 (.iload_n 3) 61, r0 (.iload_n 2) 62, ra (.if_icmp .ge 12) 63 46, r0 (.aload_n 0) 66, ri (.invokevirtual 203) 67 145 1 0 1 5 984, rv (.iconst 1) 70 0 1, r0 .iadd 71, ra (.goto 4) 72 47, rv (.iconst 0) 75 0 0, r0 .iastore 76, rv (.iinc 3 1) 77 0 1, ra (.goto (-35)) 80 28, r0 (.aload_n 0) 83, ri (.invokevirtual 215) 84 149 1 0 0 5 1008, r0 (.iload_n 2) 87, r0 .ireturn 88]
def mt173 : List (List RI) := [mt173_0, mt173_1]
def mt174_0 : List RI := [r0 (.iload_n 1) 0, r0 .i2l 1, rw (.lconst 1) 2 0 1, r0 .ladd 3, r0 (.lstore_n 2) 4, rv (.iconst 0) 5 0 0, r0 (.istore 4) 6, r0 (.aload_n 0) 8, ri (.invokevirtual 209) 9 148 1 0 0 5 1000, rv (.iconst 0) 12 0 0, r0 (.istore 5) 13, r0 (.iload 5) 15, rv (.bipush 12) 17 0 12, ra (.if_icmp .ge 92) 19 63, r0 (.lload_n 2) 22, rw (.ldc2_w 246) 23 1109 48271, r0 .lmul 26, rw (.ldc2_w 248) 27 1110 2147483647, r0 .lrem 30, r0 (.lstore_n 2) 31, r0 (.lload_n 2) 32, rw (.ldc2_w 250) 33 1111 6, r0 .lrem 36, r0 .l2i 37, r0 (.istore 6) 38, r0 (.lload_n 2) 40, rw (.ldc2_w 246) 41 1109 48271, r0 .lmul 44, rw (.ldc2_w 248) 45 1110 2147483647, r0 .lrem 48, r0 (.lstore_n 2) 49, r0 (.iload 6) 50]
def mt174_1 : List RI := [r0 (.aload_n 0) 52, rf (.getfield 72) 53 5 0 0 774, ra (.if_icmp .ge 31) 56 51, r0 (.aload_n 0) 59, rf (.getfield 16) 60 5 3 0 777, rv (.iconst 3) 63 0 3, r0 (.iload 6) 64, r0 .imul 66, r0 (.aload_n 0) 67, r0 (.iload 6) 68, ri (.invokevirtual 79) 70 108 2 0 1 5 895, ra (.ifCond .eq 12) 73 49, r0 (.lload_n 2) 76, rw (.ldc2_w 252) 77 1112 64, r0 .lrem 80, r0 .l2i 81, ra (.goto 4) 82 50, rv (.iconst (-1)) 85 0 (-1), r0 .iastore 86, r0 (.iload 4) 87, r0 (.aload_n 0) 89, ri (.invokevirtual 203) 90 145 1 0 1 5 984, rv (.iconst (-1)) 93 0 (-1), ra (.if_icmp .ne 7) 94 58, rv (.iconst 0) 97 0 0, ra (.goto 4) 98 59, rv (.iconst 1) 101 0 1, r0 .iadd 102, r0 (.istore 4) 103, rv (.iinc 5 1) 105 0 1, ra (.goto (-93)) 108 11, r0 (.aload_n 0) 111]
def mt174_2 : List RI := [r0 (.aload_n 0) 112, ri (.invokevirtual 104) 113 112 1 0 1 5 936, rf (.putfield 254) 116 5 31 0 805, r0 (.aload_n 0) 119, ri (.invokevirtual 215) 120 149 1 0 0 5 1008, r0 (.iload 4) 123, r0 .ireturn 125]
def mt174 : List (List RI) := [mt174_0, mt174_1, mt174_2]
def mt175_0 : List RI := [r0 (.iload_n 1) 0, rv (.iconst 0) 1 0 0, rv (.ldc_w 257) 2 1104 99999, ri (.invokestatic 75) 5 104 3 1 1 5 735, ra (.ifCond .eq 12) 8 10, r0 (.iload_n 2) 11, rv (.iconst 0) 12 0 0, rv (.iconst 1) 13 0 1, ri (.invokestatic 75) 14 104 3 1 1 5 735, ra (.ifCond .ne 6) 17 12, rv (.bipush (-2)) 20 0 (-2), r0 .ireturn 22, r0 (.aload_n 0) 23, r0 (.iload_n 1) 24, ri (.invokevirtual 258) 25 174 2 0 1 5 1105, r0 (.istore_n 3) 28, r0 (.iload_n 2) 29, ra (.ifCond .ne 7) 30 20, r0 (.iload_n 3) 33, ra (.goto 7) 34 22, r0 (.aload_n 0) 37, rf (.getfield 254) 38 5 31 0 805, r0 .ireturn 41]
def mt175 : List (List RI) := [mt175_0]
def mt176_0 : List RI := [r0 (.iload_n 1) 0, rv (.iconst 0) 1 0 0, rv (.ldc_w 257) 2 1104 99999, ri (.invokestatic 75) 5 104 3 1 1 5 735, ra (.ifCond .eq 33) 8 20, r0 (.iload_n 2) 11, rv (.iconst 1) 12 0 1, rv (.bipush 40) 13 0 40, ri (.invokestatic 75) 15 104 3 1 1 5 735, ra (.ifCond .eq 23) 18 20, r0 (.iload_n 3) 21, rv (.iconst 0) 22 0 0, rv (.bipush 12) 23 0 12, ri (.invokestatic 75) 25 104 3 1 1 5 735, ra (.ifCond .eq 13) 28 20, r0 (.iload 4) 31, rv (.iconst 0) 33 0 0, rv (.iconst 1) 34 0 1, ri (.invokestatic 75) 35 104 3 1 1 5 735, ra (.ifCond .ne 7) 38 22, rw (.ldc2_w 238) 41 1063 (-4611686018427387904), r0 .lreturn 44, rw (.lconst 0) 45 0 0, r0 (.lstore 5) 46, rv (.iconst 0) 48 0 0, r0 (.istore 7) 49, r0 (.iload 7) 51, r0 (.iload_n 2) 53, ra (.if_icmp .ge 31) 54 44, r0 (.lload 5) 57, r0 (.aload_n 0) 59, r0 (.iload_n 1) 60]
def mt176_1 : List RI := [r0 (.iload 7) 61, r0 .iadd 63, ri (.invokevirtual 258) 64 174 2 0 1 5 1105, r0 (.iload_n 3) 67, ra (.if_icmp .lt 7) 68 39, rw (.lconst 1) 71 0 1, ra (.goto 4) 72 40, rw (.lconst 0) 75 0 0, r0 .ladd 76, r0 (.lstore 5) 77, rv (.iinc 7 1) 79 0 1, ra (.goto (-31)) 82 26, r0 (.lload 5) 85, r0 (.iload_n 2) 87, r0 .i2l 88, r0 (.iload 4) 89, ri (.invokestatic 234) 91 163 3 1 2 5 1060, r0 .lreturn 94]
def mt176 : List (List RI) := [mt176_0, mt176_1]
def mt177_0 : List RI := [r0 (.aload_n 0) 0, rv (.iconst 1) 1 0 1, rf (.putfield 261) 2 5 11 1 785, rv (.iconst 0) 5 0 0, r0 (.istore_n 1) 6, r0 (.iload_n 1) 7, rv (.bipush 18) 8 0 18, ra (.if_icmp .ge 21) 10 18, r0 (.aload_n 0) 13, rf (.getfield 31) 14 5 12 0 786, r0 (.iload_n 1) 17, r0 (.aload_n 0) 18, rf (.getfield 16) 19 5 3 0 777, r0 (.iload_n 1) 22, r0 .iaload 23, r0 .iastore 24, rv (.iinc 1 1) 25 0 1, ra (.goto (-21)) 28 5, rv (.iconst 0) 31 0 0, r0 (.istore_n 1) 32, r0 (.iload_n 1) 33, rv (.iconst 4) 34 0 4, ra (.if_icmp .ge 24) 35 35, r0 (.aload_n 0) 38, rf (.getfield 31) 39 5 12 0 786, rv (.bipush 18) 42 0 18, r0 (.iload_n 1) 44, r0 .iadd 45, r0 (.aload_n 0) 46, rf (.getfield 19) 47 5 4 0 778, r0 (.iload_n 1) 50, r0 .iaload 51]
def mt177_1 : List RI := [r0 .iastore 52, rv (.iinc 1 1) 53 0 1, ra (.goto (-23)) 56 20, r0 (.aload_n 0) 59, rf (.getfield 34) 60 5 13 0 787, rv (.iconst 0) 63 0 0, r0 (.aload_n 0) 64, rf (.getfield 72) 65 5 0 0 774, r0 .iastore 68, r0 (.aload_n 0) 69, rf (.getfield 34) 70 5 13 0 787, rv (.iconst 1) 73 0 1, r0 (.aload_n 0) 74, rf (.getfield 92) 75 5 10 0 784, r0 .iastore 78, r0 (.aload_n 0) 79, rf (.getfield 72) 80 5 0 0 774, r0 .ireturn 83]
def mt177 : List (List RI) := [mt177_0, mt177_1]
def mt178_0 : List RI := [r0 (.aload_n 0) 0, rf (.getfield 261) 1 5 11 1 785, ra (.ifCond .ne 6) 4 5, rv (.bipush (-3)) 7 0 (-3), r0 .ireturn 9, rv (.iconst 0) 10 0 0, r0 (.istore_n 1) 11, r0 (.iload_n 1) 12, rv (.bipush 18) 13 0 18, ra (.if_icmp .ge 21) 15 20, r0 (.aload_n 0) 18, rf (.getfield 16) 19 5 3 0 777, r0 (.iload_n 1) 22, r0 (.aload_n 0) 23, rf (.getfield 31) 24 5 12 0 786, r0 (.iload_n 1) 27, r0 .iaload 28, r0 .iastore 29, rv (.iinc 1 1) 30 0 1, ra (.goto (-21)) 33 7, rv (.iconst 0) 36 0 0, r0 (.istore_n 1) 37, r0 (.iload_n 1) 38, rv (.iconst 4) 39 0 4, ra (.if_icmp .ge 24) 40 37, r0 (.aload_n 0) 43, rf (.getfield 19) 44 5 4 0 778, r0 (.iload_n 1) 47, r0 (.aload_n 0) 48, rf (.getfield 31) 49 5 12 0 786, rv (.bipush 18) 52 0 18, r0 (.iload_n 1) 54]
def mt178_1 : List RI := [r0 .iadd 55, r0 .iaload 56, r0 .iastore 57, rv (.iinc 1 1) 58 0 1, ra (.goto (-23)) 61 22, r0 (.aload_n 0) 64, r0 (.aload_n 0) 65, rf (.getfield 34) 66 5 13 0 787, rv (.iconst 0) 69 0 0, r0 .iaload 70, rf (.putfield 72) 71 5 0 0 774, r0 (.aload_n 0) 74, r0 (.aload_n 0) 75, rf (.getfield 34) 76 5 13 0 787, rv (.iconst 1) 79 0 1, r0 .iaload 80, rf (.putfield 92) 81 5 10 0 784, r0 (.aload_n 0) 84, rf (.getfield 72) 85 5 0 0 774, r0 .ireturn 88]
def mt178 : List (List RI) := [mt178_0, mt178_1]
def mt179_0 : List RI := [r0 (.iload_n 1) 0, rv (.iconst 0) 1 0 0, rv (.iconst 3) 2 0 3, ri (.invokestatic 75) 3 104 3 1 1 5 735, ra (.ifCond .eq 23) 6 16, r0 (.iload_n 2) 9, rv (.iconst (-1)) 10 0 (-1), rv (.iconst 2) 11 0 2, ri (.invokestatic 75) 12 104 3 1 1 5 735, ra (.ifCond .eq 14) 15 16, r0 (.iload_n 2) 18, rv (.iconst (-1)) 19 0 (-1), ra (.if_icmp .eq 12) 20 18, r0 (.iload_n 3) 23, rv (.bipush 40) 24 0 40, ra (.if_icmp .le 6) 26 18, rv (.bipush (-2)) 29 0 (-2), r0 .ireturn 31, r0 (.iload_n 2) 32, rv (.iconst (-1)) 33 0 (-1), ra (.if_icmp .eq 10) 34 25, r0 (.iload_n 3) 37, ra (.ifCond .ge 6) 38 25, rv (.bipush (-14)) 41 0 (-14), r0 .ireturn 43, r0 (.aload_n 0) 44, rf (.getfield 37) 45 5 14 0 788, r0 (.iload_n 1) 48, r0 (.iload_n 2) 49, r0 .iastore 50, r0 (.aload_n 0) 51, rf (.getfield 40) 52 5 15 0 789]
def mt179_1 : List RI := [r0 (.iload_n 1) 55, r0 (.iload_n 2) 56, rv (.iconst (-1)) 57 0 (-1), ra (.if_icmp .ne 7) 58 38, rv (.iconst 0) 61 0 0, ra (.goto 4) 62 39, r0 (.iload_n 3) 65, r0 .iastore 66, rv (.iconst 0) 67 0 0, r0 (.istore 4) 68, r0 (.iload 4) 70, rv (.bipush 40) 72 0 40, ra (.if_icmp .ge 22) 74 56, r0 (.aload_n 0) 77, rf (.getfield 43) 78 5 16 0 790, rv (.bipush 40) 81 0 40, r0 (.iload_n 1) 83, r0 .imul 84, r0 (.iload 4) 85, r0 .iadd 87, rv (.iconst 0) 88 0 0, r0 .iastore 89, rv (.iinc 4 1) 90 0 1, ra (.goto (-23)) 93 42, rv (.iconst 1) 96 0 1, r0 .ireturn 97]
def mt179 : List (List RI) := [mt179_0, mt179_1]
def mt180_0 : List RI := [r0 (.iload_n 1) 0, rv (.iconst 0) 1 0 0, rv (.iconst 3) 2 0 3, ri (.invokestatic 75) 3 104 3 1 1 5 735, ra (.ifCond .ne 6) 6 7, rv (.bipush (-2)) 9 0 (-2), r0 .ireturn 11, r0 (.aload_n 0) 12, rf (.getfield 37) 13 5 14 0 788, r0 (.iload_n 1) 16, r0 .iaload 17, rv (.iconst (-1)) 18 0 (-1), ra (.if_icmp .ne 6) 19 15, rv (.bipush (-11)) 22 0 (-11), r0 .ireturn 24, r0 (.iload_n 2) 25, rv (.iconst 0) 26 0 0, r0 (.aload_n 0) 27, rf (.getfield 40) 28 5 15 0 789, r0 (.iload_n 1) 31, r0 .iaload 32, rv (.iconst 1) 33 0 1, r0 .isub 34, ri (.invokestatic 75) 35 104 3 1 1 5 735, ra (.ifCond .ne 6) 38 27, rv (.bipush (-12)) 41 0 (-12), r0 .ireturn 43, r0 (.aload_n 0) 44, rf (.getfield 43) 45 5 16 0 790, rv (.bipush 40) 48 0 40, r0 (.iload_n 1) 50, r0 .imul 51]
def mt180_1 : List RI := [r0 (.iload_n 2) 52, r0 .iadd 53, r0 (.aload_n 0) 54, rf (.getfield 37) 55 5 14 0 788, r0 (.iload_n 1) 58, r0 .iaload 59, ra (.ifCond .ne 8) 60 42, r0 (.iload_n 3) 63, r0 .i2b 64, ra (.goto 19) 65 52, r0 (.aload_n 0) 68, rf (.getfield 37) 69 5 14 0 788, r0 (.iload_n 1) 72, r0 .iaload 73, rv (.iconst 1) 74 0 1, ra (.if_icmp .ne 8) 75 51, r0 (.iload_n 3) 78, r0 .i2s 79, ra (.goto 4) 80 52, r0 (.iload_n 3) 83, r0 .iastore 84, rv (.iconst 1) 85 0 1, r0 .ireturn 86]
def mt180 : List (List RI) := [mt180_0, mt180_1]
def mt181_0 : List RI := [r0 (.iload_n 1) 0, rv (.iconst 0) 1 0 0, rv (.iconst 3) 2 0 3, ri (.invokestatic 75) 3 104 3 1 1 5 735, ra (.ifCond .eq 12) 6 10, r0 (.iload_n 3) 9, rv (.iconst 0) 10 0 0, rv (.iconst 3) 11 0 3, ri (.invokestatic 75) 12 104 3 1 1 5 735, ra (.ifCond .ne 6) 15 12, rv (.bipush (-2)) 18 0 (-2), r0 .ireturn 20, r0 (.aload_n 0) 21, rf (.getfield 37) 22 5 14 0 788, r0 (.iload_n 1) 25, r0 .iaload 26, rv (.iconst (-1)) 27 0 (-1), ra (.if_icmp .eq 13) 28 24, r0 (.aload_n 0) 31, rf (.getfield 37) 32 5 14 0 788, r0 (.iload_n 3) 35, r0 .iaload 36, rv (.iconst (-1)) 37 0 (-1), ra (.if_icmp .ne 6) 38 26, rv (.bipush (-11)) 41 0 (-11), r0 .ireturn 43, r0 (.aload_n 0) 44, rf (.getfield 37) 45 5 14 0 788, r0 (.iload_n 1) 48, r0 .iaload 49, r0 (.aload_n 0) 50, rf (.getfield 37) 51 5 14 0 788]
def mt181_1 : List RI := [r0 (.iload_n 3) 54, r0 .iaload 55, ra (.if_icmp .eq 6) 56 37, rv (.bipush (-13)) 59 0 (-13), r0 .ireturn 61, r0 (.iload 5) 62, ra (.ifCond .lt 60) 64 71, r0 (.iload_n 2) 67, ra (.ifCond .lt 56) 68 71, r0 (.iload 4) 71, ra (.ifCond .lt 51) 73 71, r0 (.iload_n 2) 76, r0 (.aload_n 0) 77, rf (.getfield 40) 78 5 15 0 789, r0 (.iload_n 1) 81, r0 .iaload 82, ra (.if_icmp .gt 41) 83 71, r0 (.iload 4) 86, r0 (.aload_n 0) 88, rf (.getfield 40) 89 5 15 0 789, r0 (.iload_n 3) 92, r0 .iaload 93, ra (.if_icmp .gt 30) 94 71, r0 (.iload 5) 97, r0 (.aload_n 0) 99, rf (.getfield 40) 100 5 15 0 789, r0 (.iload_n 1) 103, r0 .iaload 104, r0 (.iload_n 2) 105, r0 .isub 106, ra (.if_icmp .gt 17) 107 71, r0 (.iload 5) 110]
def mt181_2 : List RI := [r0 (.aload_n 0) 112, rf (.getfield 40) 113 5 15 0 789, r0 (.iload_n 3) 116, r0 .iaload 117, r0 (.iload 4) 118, r0 .isub 120, ra (.if_icmp .le 6) 121 73, rv (.bipush (-12)) 124 0 (-12), r0 .ireturn 126, rv (.bipush 40) 127 0 40, r0 (.iload_n 1) 129, r0 .imul 130, r0 (.iload_n 2) 131, r0 .iadd 132, r0 (.istore 6) 133, rv (.bipush 40) 135 0 40, r0 (.iload_n 3) 137, r0 .imul 138, r0 (.iload 4) 139, r0 .iadd 141, r0 (.istore 7) 142, rv (.iconst 0) 144 0 0, r0 (.istore 8) 145, r0 (.iload 8) 147, r0 (.iload 5) 149, ra (.if_icmp .ge 50) 151 115, r0 (.iload 6) 154, r0 (.iload 7) 156, ra (.if_icmp .ge 13) 158 99, r0 (.iload 5) 161, rv (.iconst 1) 163 0 1, r0 .isub 164]
def mt181_3 : List RI := [r0 (.iload 8) 165, r0 .isub 167, ra (.goto 5) 168 100, r0 (.iload 8) 171, r0 (.istore 9) 173, r0 (.aload_n 0) 175, rf (.getfield 43) 176 5 16 0 790, r0 (.iload 7) 179, r0 (.iload 9) 181, r0 .iadd 183, r0 (.aload_n 0) 184, rf (.getfield 43) 185 5 16 0 790, r0 (.iload 6) 188, r0 (.iload 9) 190, r0 .iadd 192, r0 .iaload 193, r0 .iastore 194, rv (.iinc 8 1) 195 0 1, ra (.goto (-51)) 198 87, r0 (.iload 5) 201, r0 .ireturn 203]
def mt181 : List (List RI) := [mt181_0, mt181_1, mt181_2, mt181_3]
def mt182_0 : List RI := [r0 (.iload_n 1) 0, rv (.iconst 0) 1 0 0, rv (.iconst 3) 2 0 3, ri (.invokestatic 75) 3 104 3 1 1 5 735, ra (.ifCond .eq 23) 6 15, r0 (.iload_n 2) 9, rv (.iconst 0) 10 0 0, rv (.iconst 2) 11 0 2, ri (.invokestatic 75) 12 104 3 1 1 5 735, ra (.ifCond .eq 14) 15 15, r0 (.iload 4) 18, rv (.iconst 0) 20 0 0, rv (.bipush 6) 21 0 6, ri (.invokestatic 75) 23 104 3 1 1 5 735, ra (.ifCond .ne 6) 26 17, rv (.bipush (-2)) 29 0 (-2), r0 .ireturn 31, r0 (.aload_n 0) 32, rf (.getfield 37) 33 5 14 0 788, r0 (.iload_n 1) 36, r0 .iaload 37, rv (.iconst (-1)) 38 0 (-1), ra (.if_icmp .ne 6) 39 25, rv (.bipush (-11)) 42 0 (-11), r0 .ireturn 44, r0 (.aload_n 0) 45, rf (.getfield 37) 46 5 14 0 788, r0 (.iload_n 1) 49, r0 .iaload 50, r0 (.iload_n 2) 51, ra (.if_icmp .eq 6) 52 33, rv (.bipush (-13)) 55 0 (-13)]
def mt182_1 : List RI := [r0 .ireturn 57, rv (.iconst 0) 58 0 0, r0 (.istore 5) 59, rv (.iconst 0) 61 0 0, r0 (.istore 6) 62, r0 (.iload 6) 64, r0 (.iload 4) 66, ra (.if_icmp .ge 85) 68 88, r0 (.iload_n 3) 71, rv (.iconst 2) 72 0 2, r0 (.iload 6) 73, r0 .imul 75, r0 .iadd 76, r0 (.istore 7) 77, r0 (.iload_n 3) 79, ra (.ifCond .lt 22) 80 59, r0 (.iload 7) 83, r0 (.iload_n 3) 85, ra (.if_icmp .lt 16) 86 59, r0 (.iload 7) 89, r0 (.aload_n 0) 91, rf (.getfield 40) 92 5 15 0 789, r0 (.iload_n 1) 95, r0 .iaload 96, rv (.iconst 2) 97 0 2, r0 .isub 98, ra (.if_icmp .le 6) 99 61, rv (.bipush (-12)) 102 0 (-12), r0 .ireturn 104, rv (.bipush 40) 105 0 40, r0 (.iload_n 1) 107, r0 .imul 108]
def mt182_2 : List RI := [r0 (.iload 7) 109, r0 .iadd 111, r0 (.istore 8) 112, r0 (.iload 5) 114, r0 (.aload_n 0) 116, r0 (.aload_n 0) 117, rf (.getfield 43) 118 5 16 0 790, r0 (.iload 8) 121, r0 .iaload 123, r0 (.aload_n 0) 124, rf (.getfield 43) 125 5 16 0 790, r0 (.iload 8) 128, rv (.iconst 1) 130 0 1, r0 .iadd 131, r0 .iaload 132, ri (.invokevirtual 265) 133 134 3 0 1 5 1141, ra (.ifCond .lt 7) 136 83, rv (.iconst 1) 139 0 1, ra (.goto 4) 140 84, rv (.iconst 0) 143 0 0, r0 .iadd 144, r0 (.istore 5) 145, rv (.iinc 6 1) 147 0 1, ra (.goto (-86)) 150 37, r0 (.iload 5) 153, r0 .ireturn 155]
def mt182 : List (List RI) := [mt182_0, mt182_1, mt182_2]
def mt183_0 : List RI := [r0 (.iload_n 1) 0, ra (.ifCond .eq 28) 1 17, r0 (.iload_n 0) 4, r0 (.iload_n 1) 5, ra (.if_icmp .eq 23) 6 17, r0 (.iload_n 1) 9, rv (.iconst 1) 10 0 1, ra (.if_icmp .ne 8) 11 11, r0 (.iload_n 0) 14, rv (.iconst 3) 15 0 3, ra (.if_icmp .eq 13) 16 17, r0 (.iload_n 1) 19, rv (.iconst 2) 20 0 2, ra (.if_icmp .ne 12) 21 19, r0 (.iload_n 0) 24, rv (.iconst 4) 25 0 4, ra (.if_icmp .ne 7) 26 19, rv (.iconst 1) 29 0 1, ra (.goto 4) 30 20, rv (.iconst 0) 33 0 0, ra .ireturn 34 1]
def mt183 : List (List RI) := [mt183_0]
def mt184_0 : List RI := [r0 (.iload_n 2) 0, rv (.iconst 0) 1 0 0, rv (.bipush 6) 2 0 6, ri (.invokestatic 75) 4 104 3 1 1 5 735, ra (.ifCond .ne 6) 7 7, rv (.bipush (-2)) 10 0 (-2), r0 .ireturn 12, r0 (.iload_n 1) 13, rv (.iconst 0) 14 0 0, rv (.bipush 11) 15 0 11, ri (.invokestatic 75) 17 104 3 1 1 5 735, ra (.ifCond .ne 6) 20 14, rv (.bipush (-12)) 23 0 (-12), r0 .ireturn 25, r0 (.iload_n 1) 26, rv (.bipush 6) 27 0 6, r0 .irem 29, r0 (.aload_n 0) 30, rf (.getfield 72) 31 5 0 0 774, ra (.if_icmp .lt 6) 34 22, rv (.bipush (-11)) 37 0 (-11), r0 .ireturn 39, r0 (.iload_n 1) 40, rv (.bipush 6) 41 0 6, ra (.if_icmp .lt 28) 43 41, r0 (.iload_n 2) 46, rv (.bipush 6) 47 0 6, ra (.if_icmp .ne 19) 49 39, r0 (.aload_n 0) 52, rf (.getfield 16) 53 5 3 0 777, rv (.iconst 3) 56 0 3, r0 (.iload_n 1) 57]
def mt184_1 : List RI := [rv (.bipush 6) 58 0 6, r0 .isub 60, r0 .imul 61, rv (.iconst 2) 62 0 2, r0 .iadd 63, r0 .iaload 64, ra (.goto 5) 65 40, rv (.bipush (-13)) 68 0 (-13), r0 .ireturn 70, r0 (.iload_n 2) 71, rv (.bipush 6) 72 0 6, ra (.if_icmp .ge 20) 74 53, r0 (.aload_n 0) 77, rf (.getfield 7) 78 5 1 0 775, r0 (.iload_n 1) 81, r0 .iaload 82, r0 (.iload_n 2) 83, ri (.invokestatic 268) 84 183 2 1 1 5 1146, ra (.ifCond .eq 7) 87 53, r0 (.iload_n 1) 90, ra (.goto 5) 91 54, rv (.bipush (-13)) 94 0 (-13), r0 .ireturn 96]
def mt184 : List (List RI) := [mt184_0, mt184_1]
def mt185_0 : List RI := [r0 (.new 7) 0, r0 .dup 3, ri (.invokespecial 9) 4 255 0 9 0 0 0, r0 (.astore_n 1) 7, r0 (.new 10) 8, r0 .dup 11, ri (.invokespecial 12) 12 255 0 9 0 0 0, r0 (.astore_n 2) 15, rv (.iconst 0) 16 0 0, r0 (.istore_n 3) 17, r0 (.iload_n 3) 18, r0 (.aload_n 0) 19, ra .arraylength 20 1, rv (.bipush 7) 21 0 7, r0 .isub 23, ra (.if_icmp .gt 1357) 24 989, r0 (.aload_n 0) 27, r0 (.iload_n 3) 28, ra .iaload 29 1, rv (.bipush 63) 30 0 63, r0 .iand 32, rt (.tableswitch 1342 0 35 #[159, 182, 215, 238, 313, 326, 349, 382, 415, 458, 491, 504, 537, 570, 603, 636, 669, 702, 725, 748, 772, 795, 838, 872, 895, 938, 961, 994, 1027, 1081, 1094, 1107, 1150, 1193, 1256, 1309]) 33 987 [(0, 22), (1, 39), (2, 66), (3, 83), (4, 150), (5, 157), (6, 174), (7, 201), (8, 228), (9, 265), (10, 292), (11, 299), (12, 326), (13, 353), (14, 380), (15, 407), (16, 434), (17, 461), (18, 478), (19, 495), (20, 513), (21, 530), (22, 567), (23, 595), (24, 612), (25, 649), (26, 666), (27, 693), (28, 720), (29, 768), (30, 775), (31, 782), (32, 819), (33, 856), (34, 913), (35, 960)], r0 (.aload_n 1) 192, r0 (.aload_n 0) 193, r0 (.iload_n 3) 194, rv (.iconst 1) 195 0 1, r0 .iadd 196, ra .iaload 197 1, ri (.invokevirtual 13) 198 54 2 0 1 4 249, r0 (.aload_n 2) 201, r0 (.aload_n 0) 202, r0 (.iload_n 3) 203]
def mt185_1 : List RI := [rv (.iconst 1) 204 0 1, r0 .iadd 205, ra .iaload 206 1, ri (.invokevirtual 17) 207 113 2 0 1 5 871, ra (.if_icmp .eq 1165) 210 987, rv (.iconst 0) 213 0 0, ra .ireturn 214 1, r0 (.aload_n 1) 215, r0 (.aload_n 0) 216, r0 (.iload_n 3) 217, rv (.iconst 1) 218 0 1, r0 .iadd 219, ra .iaload 220 1, r0 (.aload_n 0) 221, r0 (.iload_n 3) 222, rv (.iconst 2) 223 0 2, r0 .iadd 224, ra .iaload 225 1, ri (.invokevirtual 18) 226 55 3 0 1 4 253, r0 (.aload_n 2) 229, r0 (.aload_n 0) 230, r0 (.iload_n 3) 231, rv (.iconst 1) 232 0 1, r0 .iadd 233, ra .iaload 234 1, r0 (.aload_n 0) 235, r0 (.iload_n 3) 236, rv (.iconst 2) 237 0 2, r0 .iadd 238, ra .iaload 239 1, ri (.invokevirtual 22) 240 114 3 0 1 5 875, ra (.if_icmp .eq 1132) 243 987]
def mt185_2 : List RI := [rv (.iconst 0) 246 0 0, ra .ireturn 247 1, r0 (.aload_n 1) 248, r0 (.aload_n 0) 249, r0 (.iload_n 3) 250, rv (.iconst 1) 251 0 1, r0 .iadd 252, ra .iaload 253 1, ri (.invokevirtual 23) 254 56 2 0 1 4 260, r0 (.aload_n 2) 257, r0 (.aload_n 0) 258, r0 (.iload_n 3) 259, rv (.iconst 1) 260 0 1, r0 .iadd 261, ra .iaload 262 1, ri (.invokevirtual 26) 263 115 2 0 1 5 879, ra (.if_icmp .eq 1109) 266 987, rv (.iconst 0) 269 0 0, ra .ireturn 270 1, r0 (.aload_n 1) 271, r0 (.aload_n 0) 272, r0 (.iload_n 3) 273, rv (.iconst 1) 274 0 1, r0 .iadd 275, ra .iaload 276 1, r0 (.aload_n 0) 277, r0 (.iload_n 3) 278, rv (.iconst 2) 279 0 2, r0 .iadd 280, ra .iaload 281 1, r0 (.aload_n 0) 282, r0 (.iload_n 3) 283]
def mt185_3 : List RI := [rv (.iconst 3) 284 0 3, r0 .iadd 285, ra .iaload 286 1, r0 (.aload_n 0) 287, r0 (.iload_n 3) 288, rv (.iconst 4) 289 0 4, r0 .iadd 290, ra .iaload 291 1, r0 (.aload_n 0) 292, r0 (.iload_n 3) 293, rv (.iconst 5) 294 0 5, r0 .iadd 295, ra .iaload 296 1, r0 (.aload_n 0) 297, r0 (.iload_n 3) 298, rv (.bipush 6) 299 0 6, r0 .iadd 301, ra .iaload 302 1, ri (.invokevirtual 27) 303 57 7 0 1 4 320, r0 (.aload_n 2) 306, r0 (.aload_n 0) 307, r0 (.iload_n 3) 308, rv (.iconst 1) 309 0 1, r0 .iadd 310, ra .iaload 311 1, r0 (.aload_n 0) 312, r0 (.iload_n 3) 313, rv (.iconst 2) 314 0 2, r0 .iadd 315, ra .iaload 316 1, r0 (.aload_n 0) 317, r0 (.iload_n 3) 318]
def mt185_4 : List RI := [rv (.iconst 3) 319 0 3, r0 .iadd 320, ra .iaload 321 1, r0 (.aload_n 0) 322, r0 (.iload_n 3) 323, rv (.iconst 4) 324 0 4, r0 .iadd 325, ra .iaload 326 1, r0 (.aload_n 0) 327, r0 (.iload_n 3) 328, rv (.iconst 5) 329 0 5, r0 .iadd 330, ra .iaload 331 1, r0 (.aload_n 0) 332, r0 (.iload_n 3) 333, rv (.bipush 6) 334 0 6, r0 .iadd 336, ra .iaload 337 1, ri (.invokevirtual 31) 338 117 7 0 1 5 944, ra (.if_icmp .eq 1034) 341 987, rv (.iconst 0) 344 0 0, ra .ireturn 345 1, r0 (.aload_n 1) 346, ri (.invokevirtual 32) 347 58 1 0 1 4 331, r0 (.aload_n 2) 350, ri (.invokevirtual 36) 351 128 1 0 1 5 951, ra (.if_icmp .eq 1021) 354 987, rv (.iconst 0) 357 0 0, ra .ireturn 358 1, r0 (.aload_n 1) 359, r0 (.aload_n 0) 360, r0 (.iload_n 3) 361]
def mt185_5 : List RI := [rv (.iconst 1) 362 0 1, r0 .iadd 363, ra .iaload 364 1, ri (.invokevirtual 37) 365 59 2 0 1 4 466, r0 (.aload_n 2) 368, r0 (.aload_n 0) 369, r0 (.iload_n 3) 370, rv (.iconst 1) 371 0 1, r0 .iadd 372, ra .iaload 373 1, ri (.invokevirtual 40) 374 131 2 0 1 5 952, ra (.if_icmp .eq 998) 377 987, rv (.iconst 0) 380 0 0, ra .ireturn 381 1, r0 (.aload_n 1) 382, r0 (.aload_n 0) 383, r0 (.iload_n 3) 384, rv (.iconst 1) 385 0 1, r0 .iadd 386, ra .iaload 387 1, r0 (.aload_n 0) 388, r0 (.iload_n 3) 389, rv (.iconst 2) 390 0 2, r0 .iadd 391, ra .iaload 392 1, ri (.invokevirtual 41) 393 60 3 0 1 4 470, r0 (.aload_n 2) 396, r0 (.aload_n 0) 397, r0 (.iload_n 3) 398, rv (.iconst 1) 399 0 1, r0 .iadd 400, ra .iaload 401 1]
def mt185_6 : List RI := [r0 (.aload_n 0) 402, r0 (.iload_n 3) 403, rv (.iconst 2) 404 0 2, r0 .iadd 405, ra .iaload 406 1, ri (.invokevirtual 44) 407 133 3 0 1 5 956, ra (.if_icmp .eq 965) 410 987, rv (.iconst 0) 413 0 0, ra .ireturn 414 1, r0 (.aload_n 1) 415, r0 (.aload_n 0) 416, r0 (.iload_n 3) 417, rv (.iconst 1) 418 0 1, r0 .iadd 419, ra .iaload 420 1, r0 (.aload_n 0) 421, r0 (.iload_n 3) 422, rv (.iconst 2) 423 0 2, r0 .iadd 424, ra .iaload 425 1, ri (.invokevirtual 45) 426 61 3 0 1 4 479, r0 (.aload_n 2) 429, r0 (.aload_n 0) 430, r0 (.iload_n 3) 431, rv (.iconst 1) 432 0 1, r0 .iadd 433, ra .iaload 434 1, r0 (.aload_n 0) 435, r0 (.iload_n 3) 436, rv (.iconst 2) 437 0 2, r0 .iadd 438, ra .iaload 439 1]
def mt185_7 : List RI := [ri (.invokevirtual 48) 440 134 3 0 1 5 964, ra (.if_icmp .eq 932) 443 987, rv (.iconst 0) 446 0 0, ra .ireturn 447 1, r0 (.aload_n 1) 448, r0 (.aload_n 0) 449, r0 (.iload_n 3) 450, rv (.iconst 1) 451 0 1, r0 .iadd 452, ra .iaload 453 1, r0 (.aload_n 0) 454, r0 (.iload_n 3) 455, rv (.iconst 2) 456 0 2, r0 .iadd 457, ra .iaload 458 1, r0 (.aload_n 0) 459, r0 (.iload_n 3) 460, rv (.iconst 3) 461 0 3, r0 .iadd 462, ra .iaload 463 1, ri (.invokevirtual 49) 464 62 4 0 1 4 488, r0 (.aload_n 2) 467, r0 (.aload_n 0) 468, r0 (.iload_n 3) 469, rv (.iconst 1) 470 0 1, r0 .iadd 471, ra .iaload 472 1, r0 (.aload_n 0) 473, r0 (.iload_n 3) 474, rv (.iconst 2) 475 0 2, r0 .iadd 476, ra .iaload 477 1]
def mt185_8 : List RI := [r0 (.aload_n 0) 478, r0 (.iload_n 3) 479, rv (.iconst 3) 480 0 3, r0 .iadd 481, ra .iaload 482 1, ri (.invokevirtual 53) 483 135 4 0 1 5 968, ra (.if_icmp .eq 889) 486 987, rv (.iconst 0) 489 0 0, ra .ireturn 490 1, r0 (.aload_n 1) 491, r0 (.aload_n 0) 492, r0 (.iload_n 3) 493, rv (.iconst 1) 494 0 1, r0 .iadd 495, ra .iaload 496 1, r0 (.aload_n 0) 497, r0 (.iload_n 3) 498, rv (.iconst 2) 499 0 2, r0 .iadd 500, ra .iaload 501 1, ri (.invokevirtual 54) 502 63 3 0 1 4 495, r0 (.aload_n 2) 505, r0 (.aload_n 0) 506, r0 (.iload_n 3) 507, rv (.iconst 1) 508 0 1, r0 .iadd 509, ra .iaload 510 1, r0 (.aload_n 0) 511, r0 (.iload_n 3) 512, rv (.iconst 2) 513 0 2, r0 .iadd 514, ra .iaload 515 1]
def mt185_9 : List RI := [ri (.invokevirtual 57) 516 143 3 0 1 5 972, ra (.if_icmp .eq 856) 519 987, rv (.iconst 0) 522 0 0, ra .ireturn 523 1, r0 (.aload_n 1) 524, ri (.invokevirtual 58) 525 64 1 0 1 4 511, r0 (.aload_n 2) 528, ri (.invokevirtual 61) 529 146 1 0 1 5 980, ra (.if_icmp .eq 843) 532 987, rv (.iconst 0) 535 0 0, ra .ireturn 536 1, r0 (.aload_n 1) 537, r0 (.aload_n 0) 538, r0 (.iload_n 3) 539, rv (.iconst 1) 540 0 1, r0 .iadd 541, ra .iaload 542 1, r0 (.aload_n 0) 543, r0 (.iload_n 3) 544, rv (.iconst 2) 545 0 2, r0 .iadd 546, ra .iaload 547 1, ri (.invokevirtual 62) 548 65 3 0 1 4 530, r0 (.aload_n 2) 551, r0 (.aload_n 0) 552, r0 (.iload_n 3) 553, rv (.iconst 1) 554 0 1, r0 .iadd 555, ra .iaload 556 1, r0 (.aload_n 0) 557, r0 (.iload_n 3) 558, rv (.iconst 2) 559 0 2]
def mt185_10 : List RI := [r0 .iadd 560, ra .iaload 561 1, ri (.invokevirtual 65) 562 147 3 0 1 5 992, ra (.if_icmp .eq 810) 565 987, rv (.iconst 0) 568 0 0, ra .ireturn 569 1, r0 (.aload_n 1) 570, r0 (.aload_n 0) 571, r0 (.iload_n 3) 572, rv (.iconst 1) 573 0 1, r0 .iadd 574, ra .iaload 575 1, r0 (.aload_n 0) 576, r0 (.iload_n 3) 577, rv (.iconst 2) 578 0 2, r0 .iadd 579, ra .iaload 580 1, ri (.invokevirtual 66) 581 66 3 0 1 4 535, r0 (.aload_n 2) 584, r0 (.aload_n 0) 585, r0 (.iload_n 3) 586, rv (.iconst 1) 587 0 1, r0 .iadd 588, ra .iaload 589 1, r0 (.aload_n 0) 590, r0 (.iload_n 3) 591, rv (.iconst 2) 592 0 2, r0 .iadd 593, ra .iaload 594 1, ri (.invokevirtual 69) 595 151 3 0 1 5 996, ra (.if_icmp .eq 777) 598 987, rv (.iconst 0) 601 0 0]
def mt185_11 : List RI := [ra .ireturn 602 1, r0 (.aload_n 1) 603, r0 (.aload_n 0) 604, r0 (.iload_n 3) 605, rv (.iconst 1) 606 0 1, r0 .iadd 607, ra .iaload 608 1, r0 (.aload_n 0) 609, r0 (.iload_n 3) 610, rv (.iconst 2) 611 0 2, r0 .iadd 612, ra .iaload 613 1, ri (.invokevirtual 70) 614 67 3 0 1 4 545, r0 (.aload_n 2) 617, r0 (.aload_n 0) 618, r0 (.iload_n 3) 619, rv (.iconst 1) 620 0 1, r0 .iadd 621, ra .iaload 622 1, r0 (.aload_n 0) 623, r0 (.iload_n 3) 624, rv (.iconst 2) 625 0 2, r0 .iadd 626, ra .iaload 627 1, ri (.invokevirtual 73) 628 154 3 0 1 5 1012, ra (.if_icmp .eq 744) 631 987, rv (.iconst 0) 634 0 0, ra .ireturn 635 1, r0 (.aload_n 1) 636, r0 (.aload_n 0) 637, r0 (.iload_n 3) 638, rv (.iconst 1) 639 0 1]
def mt185_12 : List RI := [r0 .iadd 640, ra .iaload 641 1, r0 (.aload_n 0) 642, r0 (.iload_n 3) 643, rv (.iconst 2) 644 0 2, r0 .iadd 645, ra .iaload 646 1, ri (.invokevirtual 74) 647 68 3 0 1 4 550, r0 (.aload_n 2) 650, r0 (.aload_n 0) 651, r0 (.iload_n 3) 652, rv (.iconst 1) 653 0 1, r0 .iadd 654, ra .iaload 655 1, r0 (.aload_n 0) 656, r0 (.iload_n 3) 657, rv (.iconst 2) 658 0 2, r0 .iadd 659, ra .iaload 660 1, ri (.invokevirtual 77) 661 156 3 0 1 5 1024, ra (.if_icmp .eq 711) 664 987, rv (.iconst 0) 667 0 0, ra .ireturn 668 1, r0 (.aload_n 1) 669, r0 (.aload_n 0) 670, r0 (.iload_n 3) 671, rv (.iconst 1) 672 0 1, r0 .iadd 673, ra .iaload 674 1, r0 (.aload_n 0) 675, r0 (.iload_n 3) 676, rv (.iconst 2) 677 0 2]
def mt185_13 : List RI := [r0 .iadd 678, ra .iaload 679 1, ri (.invokevirtual 78) 680 69 3 0 1 4 559, r0 (.aload_n 2) 683, r0 (.aload_n 0) 684, r0 (.iload_n 3) 685, rv (.iconst 1) 686 0 1, r0 .iadd 687, ra .iaload 688 1, r0 (.aload_n 0) 689, r0 (.iload_n 3) 690, rv (.iconst 2) 691 0 2, r0 .iadd 692, ra .iaload 693 1, ri (.invokevirtual 81) 694 157 3 0 1 5 1032, ra (.if_icmp .eq 678) 697 987, rv (.iconst 0) 700 0 0, ra .ireturn 701 1, r0 (.aload_n 1) 702, r0 (.aload_n 0) 703, r0 (.iload_n 3) 704, rv (.iconst 1) 705 0 1, r0 .iadd 706, ra .iaload 707 1, r0 (.aload_n 0) 708, r0 (.iload_n 3) 709, rv (.iconst 2) 710 0 2, r0 .iadd 711, ra .iaload 712 1, ri (.invokevirtual 82) 713 70 3 0 1 4 567, r0 (.aload_n 2) 716, r0 (.aload_n 0) 717]
def mt185_14 : List RI := [r0 (.iload_n 3) 718, rv (.iconst 1) 719 0 1, r0 .iadd 720, ra .iaload 721 1, r0 (.aload_n 0) 722, r0 (.iload_n 3) 723, rv (.iconst 2) 724 0 2, r0 .iadd 725, ra .iaload 726 1, ri (.invokevirtual 85) 727 158 3 0 1 5 1036, ra (.if_icmp .eq 645) 730 987, rv (.iconst 0) 733 0 0, ra .ireturn 734 1, r0 (.aload_n 1) 735, r0 (.aload_n 0) 736, r0 (.iload_n 3) 737, rv (.iconst 1) 738 0 1, r0 .iadd 739, ra .iaload 740 1, ri (.invokevirtual 86) 741 71 2 0 1 4 575, r0 (.aload_n 2) 744, r0 (.aload_n 0) 745, r0 (.iload_n 3) 746, rv (.iconst 1) 747 0 1, r0 .iadd 748, ra .iaload 749 1, ri (.invokevirtual 89) 750 160 2 0 1 5 1040, ra (.if_icmp .eq 622) 753 987, rv (.iconst 0) 756 0 0, ra .ireturn 757 1, r0 (.aload_n 1) 758, r0 (.aload_n 0) 759]
def mt185_15 : List RI := [r0 (.iload_n 3) 760, rv (.iconst 1) 761 0 1, r0 .iadd 762, ra .iaload 763 1, ri (.invokevirtual 90) 764 72 2 0 1 4 589, r0 (.aload_n 2) 767, r0 (.aload_n 0) 768, r0 (.iload_n 3) 769, rv (.iconst 1) 770 0 1, r0 .iadd 771, ra .iaload 772 1, ri (.invokevirtual 93) 773 162 2 0 1 5 1048, ra (.if_icmp .eq 599) 776 987, rv (.iconst 0) 779 0 0, ra .ireturn 780 1, r0 (.aload_n 1) 781, r0 (.aload_n 0) 782, r0 (.iload_n 3) 783, rv (.iconst 1) 784 0 1, r0 .iadd 785, ra .iaload 786 1, ri (.invokevirtual 94) 787 73 2 0 2 4 597, r0 (.aload_n 2) 790, r0 (.aload_n 0) 791, r0 (.iload_n 3) 792, rv (.iconst 1) 793 0 1, r0 .iadd 794, ra .iaload 795 1, ri (.invokevirtual 98) 796 164 2 0 2 5 1056, r0 .lcmp 799, ra (.ifCond .eq 575) 800 987, rv (.iconst 0) 803 0 0]
def mt185_16 : List RI := [ra .ireturn 804 1, r0 (.aload_n 1) 805, r0 (.aload_n 0) 806, r0 (.iload_n 3) 807, rv (.iconst 1) 808 0 1, r0 .iadd 809, ra .iaload 810 1, ri (.invokevirtual 99) 811 74 2 0 1 4 606, r0 (.aload_n 2) 814, r0 (.aload_n 0) 815, r0 (.iload_n 3) 816, rv (.iconst 1) 817 0 1, r0 .iadd 818, ra .iaload 819 1, ri (.invokevirtual 102) 820 167 2 0 1 5 1064, ra (.if_icmp .eq 552) 823 987, rv (.iconst 0) 826 0 0, ra .ireturn 827 1, r0 (.aload_n 1) 828, r0 (.aload_n 0) 829, r0 (.iload_n 3) 830, rv (.iconst 1) 831 0 1, r0 .iadd 832, ra .iaload 833 1, r0 (.aload_n 0) 834, r0 (.iload_n 3) 835, rv (.iconst 2) 836 0 2, r0 .iadd 837, ra .iaload 838 1, r0 (.aload_n 0) 839, r0 (.iload_n 3) 840, rv (.iconst 3) 841 0 3]
def mt185_17 : List RI := [r0 .iadd 842, ra .iaload 843 1, ri (.invokevirtual 103) 844 75 4 0 1 4 626, r0 (.aload_n 2) 847, r0 (.aload_n 0) 848, r0 (.iload_n 3) 849, rv (.iconst 1) 850 0 1, r0 .iadd 851, ra .iaload 852 1, r0 (.aload_n 0) 853, r0 (.iload_n 3) 854, rv (.iconst 2) 855 0 2, r0 .iadd 856, ra .iaload 857 1, r0 (.aload_n 0) 858, r0 (.iload_n 3) 859, rv (.iconst 3) 860 0 3, r0 .iadd 861, ra .iaload 862 1, ri (.invokevirtual 106) 863 168 4 0 1 5 1076, ra (.if_icmp .eq 509) 866 987, rv (.iconst 0) 869 0 0, ra .ireturn 870 1, r0 (.aload_n 1) 871, r0 (.aload_n 0) 872, r0 (.iload_n 3) 873, rv (.iconst 1) 874 0 1, r0 .iadd 875, ra .iaload 876 1, r0 (.aload_n 0) 877, r0 (.iload_n 3) 878, rv (.iconst 2) 879 0 2]
def mt185_18 : List RI := [r0 .iadd 880, ra .iaload 881 1, ri (.invokevirtual 107) 882 76 3 0 2 4 630, r0 (.aload_n 2) 885, r0 (.aload_n 0) 886, r0 (.iload_n 3) 887, rv (.iconst 1) 888 0 1, r0 .iadd 889, ra .iaload 890 1, r0 (.aload_n 0) 891, r0 (.iload_n 3) 892, rv (.iconst 2) 893 0 2, r0 .iadd 894, ra .iaload 895 1, ri (.invokevirtual 111) 896 169 3 0 2 5 1080, r0 .lcmp 899, ra (.ifCond .eq 475) 900 987, rv (.iconst 0) 903 0 0, ra .ireturn 904 1, r0 (.aload_n 1) 905, r0 (.aload_n 0) 906, r0 (.iload_n 3) 907, rv (.iconst 1) 908 0 1, r0 .iadd 909, ra .iaload 910 1, ri (.invokevirtual 112) 911 77 2 0 1 4 634, r0 (.aload_n 2) 914, r0 (.aload_n 0) 915, r0 (.iload_n 3) 916, rv (.iconst 1) 917 0 1, r0 .iadd 918, ra .iaload 919 1]
def mt185_19 : List RI := [ri (.invokevirtual 115) 920 170 2 0 1 5 1084, ra (.if_icmp .eq 452) 923 987, rv (.iconst 0) 926 0 0, ra .ireturn 927 1, r0 (.aload_n 1) 928, r0 (.aload_n 0) 929, r0 (.iload_n 3) 930, rv (.iconst 1) 931 0 1, r0 .iadd 932, ra .iaload 933 1, r0 (.aload_n 0) 934, r0 (.iload_n 3) 935, rv (.iconst 2) 936 0 2, r0 .iadd 937, ra .iaload 938 1, r0 (.aload_n 0) 939, r0 (.iload_n 3) 940, rv (.iconst 3) 941 0 3, r0 .iadd 942, ra .iaload 943 1, ri (.invokevirtual 116) 944 78 4 0 1 4 638, r0 (.aload_n 2) 947, r0 (.aload_n 0) 948, r0 (.iload_n 3) 949, rv (.iconst 1) 950 0 1, r0 .iadd 951, ra .iaload 952 1, r0 (.aload_n 0) 953, r0 (.iload_n 3) 954, rv (.iconst 2) 955 0 2, r0 .iadd 956, ra .iaload 957 1]
def mt185_20 : List RI := [r0 (.aload_n 0) 958, r0 (.iload_n 3) 959, rv (.iconst 3) 960 0 3, r0 .iadd 961, ra .iaload 962 1, ri (.invokevirtual 119) 963 171 4 0 1 5 1088, ra (.if_icmp .eq 409) 966 987, rv (.iconst 0) 969 0 0, ra .ireturn 970 1, r0 (.aload_n 1) 971, r0 (.aload_n 0) 972, r0 (.iload_n 3) 973, rv (.iconst 1) 974 0 1, r0 .iadd 975, ra .iaload 976 1, ri (.invokevirtual 120) 977 79 2 0 1 4 642, r0 (.aload_n 2) 980, r0 (.aload_n 0) 981, r0 (.iload_n 3) 982, rv (.iconst 1) 983 0 1, r0 .iadd 984, ra .iaload 985 1, ri (.invokevirtual 123) 986 172 2 0 1 5 1092, ra (.if_icmp .eq 386) 989 987, rv (.iconst 0) 992 0 0, ra .ireturn 993 1, r0 (.aload_n 1) 994, r0 (.aload_n 0) 995, r0 (.iload_n 3) 996, rv (.iconst 1) 997 0 1, r0 .iadd 998, ra .iaload 999 1]
def mt185_21 : List RI := [r0 (.aload_n 0) 1000, r0 (.iload_n 3) 1001, rv (.iconst 2) 1002 0 2, r0 .iadd 1003, ra .iaload 1004 1, ri (.invokevirtual 124) 1005 80 3 0 1 4 646, r0 (.aload_n 2) 1008, r0 (.aload_n 0) 1009, r0 (.iload_n 3) 1010, rv (.iconst 1) 1011 0 1, r0 .iadd 1012, ra .iaload 1013 1, r0 (.aload_n 0) 1014, r0 (.iload_n 3) 1015, rv (.iconst 2) 1016 0 2, r0 .iadd 1017, ra .iaload 1018 1, ri (.invokevirtual 127) 1019 173 3 0 1 5 1096, ra (.if_icmp .eq 353) 1022 987, rv (.iconst 0) 1025 0 0, ra .ireturn 1026 1, r0 (.aload_n 1) 1027, r0 (.aload_n 0) 1028, r0 (.iload_n 3) 1029, rv (.iconst 1) 1030 0 1, r0 .iadd 1031, ra .iaload 1032 1, r0 (.aload_n 0) 1033, r0 (.iload_n 3) 1034, rv (.iconst 2) 1035 0 2, r0 .iadd 1036, ra .iaload 1037 1]
def mt185_22 : List RI := [ri (.invokevirtual 128) 1038 81 3 0 1 4 658, r0 (.aload_n 2) 1041, r0 (.aload_n 0) 1042, r0 (.iload_n 3) 1043, rv (.iconst 1) 1044 0 1, r0 .iadd 1045, ra .iaload 1046 1, r0 (.aload_n 0) 1047, r0 (.iload_n 3) 1048, rv (.iconst 2) 1049 0 2, r0 .iadd 1050, ra .iaload 1051 1, ri (.invokevirtual 131) 1052 175 3 0 1 5 1100, ra (.if_icmp .eq 320) 1055 987, rv (.iconst 0) 1058 0 0, ra .ireturn 1059 1, r0 (.aload_n 1) 1060, r0 (.aload_n 0) 1061, r0 (.iload_n 3) 1062, rv (.iconst 1) 1063 0 1, r0 .iadd 1064, ra .iaload 1065 1, r0 (.aload_n 0) 1066, r0 (.iload_n 3) 1067, rv (.iconst 2) 1068 0 2, r0 .iadd 1069, ra .iaload 1070 1, r0 (.aload_n 0) 1071, r0 (.iload_n 3) 1072, rv (.iconst 3) 1073 0 3, r0 .iadd 1074, ra .iaload 1075 1]
def mt185_23 : List RI := [r0 (.aload_n 0) 1076, r0 (.iload_n 3) 1077, rv (.iconst 4) 1078 0 4, r0 .iadd 1079, ra .iaload 1080 1, ri (.invokevirtual 132) 1081 82 5 0 2 4 674, r0 (.aload_n 2) 1084, r0 (.aload_n 0) 1085, r0 (.iload_n 3) 1086, rv (.iconst 1) 1087 0 1, r0 .iadd 1088, ra .iaload 1089 1, r0 (.aload_n 0) 1090, r0 (.iload_n 3) 1091, rv (.iconst 2) 1092 0 2, r0 .iadd 1093, ra .iaload 1094 1, r0 (.aload_n 0) 1095, r0 (.iload_n 3) 1096, rv (.iconst 3) 1097 0 3, r0 .iadd 1098, ra .iaload 1099 1, r0 (.aload_n 0) 1100, r0 (.iload_n 3) 1101, rv (.iconst 4) 1102 0 4, r0 .iadd 1103, ra .iaload 1104 1, ri (.invokevirtual 136) 1105 176 5 0 2 5 1113, r0 .lcmp 1108, ra (.ifCond .eq 266) 1109 987, rv (.iconst 0) 1112 0 0, ra .ireturn 1113 1]
def mt185_24 : List RI := [r0 (.aload_n 1) 1114, ri (.invokevirtual 137) 1115 83 1 0 1 4 678, r0 (.aload_n 2) 1118, ri (.invokevirtual 140) 1119 177 1 0 1 5 1117, ra (.if_icmp .eq 253) 1122 987, rv (.iconst 0) 1125 0 0, ra .ireturn 1126 1, r0 (.aload_n 1) 1127, ri (.invokevirtual 141) 1128 84 1 0 1 4 682, r0 (.aload_n 2) 1131, ri (.invokevirtual 144) 1132 178 1 0 1 5 1121, ra (.if_icmp .eq 240) 1135 987, rv (.iconst 0) 1138 0 0, ra .ireturn 1139 1, r0 (.aload_n 1) 1140, r0 (.aload_n 0) 1141, r0 (.iload_n 3) 1142, rv (.iconst 1) 1143 0 1, r0 .iadd 1144, ra .iaload 1145 1, r0 (.aload_n 0) 1146, r0 (.iload_n 3) 1147, rv (.iconst 2) 1148 0 2, r0 .iadd 1149, ra .iaload 1150 1, r0 (.aload_n 0) 1151, r0 (.iload_n 3) 1152, rv (.iconst 3) 1153 0 3, r0 .iadd 1154, ra .iaload 1155 1, ri (.invokevirtual 145) 1156 85 4 0 1 4 686, r0 (.aload_n 2) 1159]
def mt185_25 : List RI := [r0 (.aload_n 0) 1160, r0 (.iload_n 3) 1161, rv (.iconst 1) 1162 0 1, r0 .iadd 1163, ra .iaload 1164 1, r0 (.aload_n 0) 1165, r0 (.iload_n 3) 1166, rv (.iconst 2) 1167 0 2, r0 .iadd 1168, ra .iaload 1169 1, r0 (.aload_n 0) 1170, r0 (.iload_n 3) 1171, rv (.iconst 3) 1172 0 3, r0 .iadd 1173, ra .iaload 1174 1, ri (.invokevirtual 148) 1175 179 4 0 1 5 1125, ra (.if_icmp .eq 197) 1178 987, rv (.iconst 0) 1181 0 0, ra .ireturn 1182 1, r0 (.aload_n 1) 1183, r0 (.aload_n 0) 1184, r0 (.iload_n 3) 1185, rv (.iconst 1) 1186 0 1, r0 .iadd 1187, ra .iaload 1188 1, r0 (.aload_n 0) 1189, r0 (.iload_n 3) 1190, rv (.iconst 2) 1191 0 2, r0 .iadd 1192, ra .iaload 1193 1, r0 (.aload_n 0) 1194, r0 (.iload_n 3) 1195]
def mt185_26 : List RI := [rv (.iconst 3) 1196 0 3, r0 .iadd 1197, ra .iaload 1198 1, ri (.invokevirtual 149) 1199 86 4 0 1 4 690, r0 (.aload_n 2) 1202, r0 (.aload_n 0) 1203, r0 (.iload_n 3) 1204, rv (.iconst 1) 1205 0 1, r0 .iadd 1206, ra .iaload 1207 1, r0 (.aload_n 0) 1208, r0 (.iload_n 3) 1209, rv (.iconst 2) 1210 0 2, r0 .iadd 1211, ra .iaload 1212 1, r0 (.aload_n 0) 1213, r0 (.iload_n 3) 1214, rv (.iconst 3) 1215 0 3, r0 .iadd 1216, ra .iaload 1217 1, ri (.invokevirtual 152) 1218 180 4 0 1 5 1129, ra (.if_icmp .eq 154) 1221 987, rv (.iconst 0) 1224 0 0, ra .ireturn 1225 1, r0 (.aload_n 1) 1226, r0 (.aload_n 0) 1227, r0 (.iload_n 3) 1228, rv (.iconst 1) 1229 0 1, r0 .iadd 1230, ra .iaload 1231 1, r0 (.aload_n 0) 1232, r0 (.iload_n 3) 1233]
def mt185_27 : List RI := [rv (.iconst 2) 1234 0 2, r0 .iadd 1235, ra .iaload 1236 1, r0 (.aload_n 0) 1237, r0 (.iload_n 3) 1238, rv (.iconst 3) 1239 0 3, r0 .iadd 1240, ra .iaload 1241 1, r0 (.aload_n 0) 1242, r0 (.iload_n 3) 1243, rv (.iconst 4) 1244 0 4, r0 .iadd 1245, ra .iaload 1246 1, r0 (.aload_n 0) 1247, r0 (.iload_n 3) 1248, rv (.iconst 5) 1249 0 5, r0 .iadd 1250, ra .iaload 1251 1, ri (.invokevirtual 153) 1252 87 6 0 1 4 694, r0 (.aload_n 2) 1255, r0 (.aload_n 0) 1256, r0 (.iload_n 3) 1257, rv (.iconst 1) 1258 0 1, r0 .iadd 1259, ra .iaload 1260 1, r0 (.aload_n 0) 1261, r0 (.iload_n 3) 1262, rv (.iconst 2) 1263 0 2, r0 .iadd 1264, ra .iaload 1265 1, r0 (.aload_n 0) 1266, r0 (.iload_n 3) 1267]
def mt185_28 : List RI := [rv (.iconst 3) 1268 0 3, r0 .iadd 1269, ra .iaload 1270 1, r0 (.aload_n 0) 1271, r0 (.iload_n 3) 1272, rv (.iconst 4) 1273 0 4, r0 .iadd 1274, ra .iaload 1275 1, r0 (.aload_n 0) 1276, r0 (.iload_n 3) 1277, rv (.iconst 5) 1278 0 5, r0 .iadd 1279, ra .iaload 1280 1, ri (.invokevirtual 157) 1281 181 6 0 1 5 1133, ra (.if_icmp .eq 91) 1284 987, rv (.iconst 0) 1287 0 0, ra .ireturn 1288 1, r0 (.aload_n 1) 1289, r0 (.aload_n 0) 1290, r0 (.iload_n 3) 1291, rv (.iconst 1) 1292 0 1, r0 .iadd 1293, ra .iaload 1294 1, r0 (.aload_n 0) 1295, r0 (.iload_n 3) 1296, rv (.iconst 2) 1297 0 2, r0 .iadd 1298, ra .iaload 1299 1, r0 (.aload_n 0) 1300, r0 (.iload_n 3) 1301, rv (.iconst 3) 1302 0 3, r0 .iadd 1303]
def mt185_29 : List RI := [ra .iaload 1304 1, r0 (.aload_n 0) 1305, r0 (.iload_n 3) 1306, rv (.iconst 4) 1307 0 4, r0 .iadd 1308, ra .iaload 1309 1, ri (.invokevirtual 158) 1310 88 5 0 1 4 709, r0 (.aload_n 2) 1313, r0 (.aload_n 0) 1314, r0 (.iload_n 3) 1315, rv (.iconst 1) 1316 0 1, r0 .iadd 1317, ra .iaload 1318 1, r0 (.aload_n 0) 1319, r0 (.iload_n 3) 1320, rv (.iconst 2) 1321 0 2, r0 .iadd 1322, ra .iaload 1323 1, r0 (.aload_n 0) 1324, r0 (.iload_n 3) 1325, rv (.iconst 3) 1326 0 3, r0 .iadd 1327, ra .iaload 1328 1, r0 (.aload_n 0) 1329, r0 (.iload_n 3) 1330, rv (.iconst 4) 1331 0 4, r0 .iadd 1332, ra .iaload 1333 1, ri (.invokevirtual 162) 1334 182 5 0 1 5 1137, ra (.if_icmp .eq 38) 1337 987, rv (.iconst 0) 1340 0 0, ra .ireturn 1341 1]
def mt185_30 : List RI := [r0 (.aload_n 1) 1342, r0 (.aload_n 0) 1343, r0 (.iload_n 3) 1344, rv (.iconst 1) 1345 0 1, r0 .iadd 1346, ra .iaload 1347 1, r0 (.aload_n 0) 1348, r0 (.iload_n 3) 1349, rv (.iconst 2) 1350 0 2, r0 .iadd 1351, ra .iaload 1352 1, ri (.invokevirtual 163) 1353 89 3 0 1 4 714, r0 (.aload_n 2) 1356, r0 (.aload_n 0) 1357, r0 (.iload_n 3) 1358, rv (.iconst 1) 1359 0 1, r0 .iadd 1360, ra .iaload 1361 1, r0 (.aload_n 0) 1362, r0 (.iload_n 3) 1363, rv (.iconst 2) 1364 0 2, r0 .iadd 1365, ra .iaload 1366 1, ri (.invokevirtual 166) 1367 184 3 0 1 5 1142, ra (.if_icmp .eq 5) 1370 987, rv (.iconst 0) 1373 0 0, ra .ireturn 1374 1, rv (.iinc 3 7) 1375 0 7, ra (.goto (-1360)) 1378 10, rv (.iconst 1) 1381 0 1, ra .ireturn 1382 1]
def mt185 : List (List RI) := [mt185_0, mt185_1, mt185_2, mt185_3, mt185_4, mt185_5, mt185_6, mt185_7, mt185_8, mt185_9, mt185_10, mt185_11, mt185_12, mt185_13, mt185_14, mt185_15, mt185_16, mt185_17, mt185_18, mt185_19, mt185_20, mt185_21, mt185_22, mt185_23, mt185_24, mt185_25, mt185_26, mt185_27, mt185_28, mt185_29, mt185_30]
def mb0 : List (List (List RI)) := [mt0, mt1, mt2, mt3, mt4, mt5, mt6, mt7, mt8, mt9, mt10, mt11, mt12, mt13, mt14, mt15]
def mb1 : List (List (List RI)) := [mt16, mt17, mt18, mt19, mt20, mt21, mt22, mt23, mt24, mt25, mt26, mt27, mt28, mt29, mt30, mt31]
def mb2 : List (List (List RI)) := [mt32, mt33, mt34, mt35, mt36, mt37, mt38, mt39, mt40, mt41, mt42, mt43, mt44, mt45, mt46, mt47]
def mb3 : List (List (List RI)) := [mt48, mt49, mt50, mt51, mt52, mt53, mt54, mt55, mt56, mt57, mt58, mt59, mt60, mt61, mt62, mt63]
def mb4 : List (List (List RI)) := [mt64, mt65, mt66, mt67, mt68, mt69, mt70, mt71, mt72, mt73, mt74, mt75, mt76, mt77, mt78, mt79]
def mb5 : List (List (List RI)) := [mt80, mt81, mt82, mt83, mt84, mt85, mt86, mt87, mt88, mt89, mt90, mt91, mt92, mt93, mt94, mt95]
def mb6 : List (List (List RI)) := [mt96, mt97, mt98, mt99, mt100, mt101, mt102, mt103, mt104, mt105, mt106, mt107, mt108, mt109, mt110, mt111]
def mb7 : List (List (List RI)) := [mt112, mt113, mt114, mt115, mt116, mt117, mt118, mt119, mt120, mt121, mt122, mt123, mt124, mt125, mt126, mt127]
def mb8 : List (List (List RI)) := [mt128, mt129, mt130, mt131, mt132, mt133, mt134, mt135, mt136, mt137, mt138, mt139, mt140, mt141, mt142, mt143]
def mb9 : List (List (List RI)) := [mt144, mt145, mt146, mt147, mt148, mt149, mt150, mt151, mt152, mt153, mt154, mt155, mt156, mt157, mt158, mt159]
def mb10 : List (List (List RI)) := [mt160, mt161, mt162, mt163, mt164, mt165, mt166, mt167, mt168, mt169, mt170, mt171, mt172, mt173, mt174, mt175]
def mb11 : List (List (List RI)) := [mt176, mt177, mt178, mt179, mt180, mt181, mt182, mt183, mt184, mt185]
def mtab : List (List (List (List RI))) := [mb0, mb1, mb2, mb3, mb4, mb5, mb6, mb7, mb8, mb9, mb10, mb11]
def fet1 : Option (List (List RI)) → Nat → Option RI
  | none, _ => none
  | some m, i => match nth m (i / 32) with
    | none => none
    | some c => nth c (i % 32)
def fet0 : Option (List (List (List RI))) → Nat → Option (List (List RI))
  | none, _ => none
  | some b, j => nth b j
/-- the instruction i of the method y -/
def fetch (y i : Nat) : Option RI := fet1 (fet0 (nth mtab (y / 16)) (y % 16)) i
/-! METHODS: name, bytes, how many locals, what it returns, whether static, how many it takes (not counting the receiver), its height, the places of its words -/
abbrev MI : Type := MethodName × ByteArray × Nat × Option FieldType × Bool × Nat × Nat × Nat × Nat × Nat × Nat
def mi0_ : MI := (⟨"java/lang/Integer", "bitCount", "(I)I"⟩, prog_8_method_49_code, 1, some .int, true, 1, 1, 581, 580, 0, 71)
def mi1 : MI := (⟨"java/lang/String", "length", "()I"⟩, prog_10_method_54_code, 1, some .int, false, 0, 2, 359, 357, 358, 67)
def mi2 : MI := (⟨"java/lang/String", "coder", "()B"⟩, prog_10_method_152_code, 1, some .byte, false, 0, 1, 363, 361, 362, 67)
def mi3 : MI := (⟨"java/lang/String", "isLatin1", "()Z"⟩, prog_10_method_154_code, 1, some .boolean, false, 0, 1, 373, 371, 372, 67)
def mi4 : MI := (⟨"java/lang/String", "charAt", "(I)C"⟩, prog_10_method_56_code, 2, some .char, false, 1, 4, 369, 367, 368, 67)
def mi5 : MI := (⟨"java/lang/String", "checkIndex", "(II)V"⟩, prog_10_method_155_code, 2, none, true, 2, 2, 379, 378, 0, 67)
def mi6 : MI := (⟨"java/lang/StringLatin1", "charAt", "([BI)C"⟩, prog_11_method_2_code, 2, some .char, true, 2, 3, 376, 375, 0, 68)
def mi7 : MI := (⟨"jdk/internal/util/Preconditions", "checkIndex", "(IILjava/util/function/BiFunction;)I"⟩, prog_14_method_11_code, 3, some .int, true, 3, 1, 384, 383, 0, 69)
def mi8 : MI := (⟨"FerryForAlone$Reader", "faultOf", "(I)I"⟩, prog_2_method_2_code, 4, some .int, false, 1, 16, 338, 336, 337, 62)
def mi9 : MI := (⟨"FerryForAlone$Reader", "fail", "()V"⟩, prog_2_method_3_code, 1, none, false, 0, 1, 432, 431, 6, 62)
def mi10 : MI := (⟨"FerryForAlone$Reader", "expect", "(I)V"⟩, prog_2_method_4_code, 2, none, false, 1, 8, 428, 427, 5, 62)
def mi11 : MI := (⟨"FerryForAlone$Reader", "write", "(I)V"⟩, prog_2_method_5_code, 2, none, false, 1, 1, 464, 463, 14, 62)
def mi12 : MI := (⟨"FerryForAlone$Reader", "either", "(I)V"⟩, prog_2_method_6_code, 3, none, false, 1, 15, 436, 435, 7, 62)
def mi13 : MI := (⟨"FerryForAlone$Reader", "both", "(I)V"⟩, prog_2_method_7_code, 3, none, false, 1, 14, 440, 439, 8, 62)
def mi14 : MI := (⟨"FerryForAlone$Reader", "negation", "(I)V"⟩, prog_2_method_8_code, 2, none, false, 1, 13, 444, 443, 9, 62)
def mi15 : MI := (⟨"FerryForAlone$Reader", "comparison", "(I)V"⟩, prog_2_method_9_code, 3, none, false, 1, 12, 448, 447, 10, 62)
def mi16 : MI := (⟨"FerryForAlone$Reader", "sum", "(I)V"⟩, prog_2_method_10_code, 4, none, false, 1, 11, 452, 451, 11, 62)
def mi17 : MI := (⟨"FerryForAlone$Reader", "term", "(I)V"⟩, prog_2_method_11_code, 3, none, false, 1, 10, 456, 455, 12, 62)
def mi18 : MI := (⟨"FerryForAlone$Reader", "one", "(I)V"⟩, prog_2_method_12_code, 3, none, false, 1, 9, 460, 459, 13, 62)
def mi19 : MI := (⟨"FerryForAlone$Reader", "take", "()V"⟩, prog_2_method_13_code, 2, none, false, 0, 7, 343, 342, 1, 62)
def mi20 : MI := (⟨"FerryForAlone$Reader", "takeWord", "()V"⟩, prog_2_method_14_code, 2, none, false, 0, 6, 350, 349, 2, 62)
def mi21 : MI := (⟨"FerryForAlone$Reader", "isWord", "(Ljava/lang/String;)Z"⟩, prog_2_method_15_code, 3, some .boolean, false, 1, 5, 355, 354, 3, 62)
def mi22 : MI := (⟨"FerryForAlone$Reader", "takeNumber", "()V"⟩, prog_2_method_16_code, 2, none, false, 0, 2, 421, 420, 4, 62)
def mi23 : MI := (⟨"FerryForAlone$Reader", "isLetter", "(I)Z"⟩, prog_2_method_17_code, 1, some .boolean, true, 1, 1, 346, 345, 0, 62)
def mi24 : MI := (⟨"FerryForAlone$Reader", "isDigit", "(I)Z"⟩, prog_2_method_18_code, 1, some .boolean, true, 1, 1, 417, 416, 0, 62)
def mi25 : MI := (⟨"FerryForAlone$Reader", "signOf", "(I)I"⟩, prog_2_method_19_code, 1, some .int, true, 1, 1, 424, 423, 0, 62)
def mi26 : MI := (⟨"FerryForAlone$Sheets", "has", "(I)Z"⟩, prog_3_method_2_code, 2, some .boolean, false, 1, 1, 617, 615, 616, 64)
def mi27 : MI := (⟨"FerryForAlone$Sheets", "holds", "(IJI)Z"⟩, prog_3_method_3_code, 5, some .boolean, false, 3, 1, 701, 699, 700, 64)
def mi28 : MI := (⟨"FerryForAlone$Sheets", "renew", "(III)V"⟩, prog_3_method_4_code, 5, none, false, 3, 1, 653, 651, 652, 64)
def mi29 : MI := (⟨"FerryForAlone$Sheets", "read", "(II)I"⟩, prog_3_method_5_code, 3, some .int, false, 2, 1, 625, 623, 624, 64)
def mi30 : MI := (⟨"FerryForAlone$Sheets", "write", "(III)V"⟩, prog_3_method_6_code, 5, none, false, 3, 1, 657, 655, 656, 64)
def mi31 : MI := (⟨"FerryForAlone$Sheets", "carry", "(IIIII)V"⟩, prog_3_method_7_code, 6, none, false, 5, 1, 705, 703, 704, 64)
def mi32 : MI := (⟨"FerryForAlone$Strand", "becomes", "(LFerryForAlone$Strand;)V"⟩, prog_4_method_2_code, 3, none, false, 1, 1, 544, 542, 543, 63)
def mi33 : MI := (⟨"FerryForAlone$Strand", "has", "(J)Z"⟩, prog_4_method_3_code, 3, some .boolean, false, 1, 1, 477, 475, 476, 63)
def mi34 : MI := (⟨"FerryForAlone$Strand", "welcome", "(II)I"⟩, prog_4_method_4_code, 4, some .int, false, 2, 2, 486, 484, 485, 63)
def mi35 : MI := (⟨"FerryForAlone$Strand", "isSeen", "(I)Z"⟩, prog_4_method_5_code, 2, some .boolean, false, 1, 1, 275, 273, 274, 63)
def mi36 : MI := (⟨"FerryForAlone$Strand", "isOver", "(I)Z"⟩, prog_4_method_6_code, 2, some .boolean, false, 1, 1, 319, 317, 318, 63)
def mi37 : MI := (⟨"FerryForAlone$Strand", "isAlone", "(I)Z"⟩, prog_4_method_7_code, 4, some .boolean, false, 1, 4, 271, 269, 270, 63)
def mi38 : MI := (⟨"FerryForAlone$Strand", "farFrom", "(I)I"⟩, prog_4_method_8_code, 5, some .int, false, 1, 2, 509, 507, 508, 63)
def mi39 : MI := (⟨"FerryForAlone$Strand", "areNeighbours", "(II)Z"⟩, prog_4_method_9_code, 5, some .boolean, false, 2, 2, 596, 594, 595, 63)
def mi40 : MI := (⟨"FerryForAlone$Strand", "gapAbout", "(I)I"⟩, prog_4_method_10_code, 2, some .int, false, 1, 3, 279, 277, 278, 63)
def mi41 : MI := (⟨"FerryForAlone$Strand", "likedHow", "(I)I"⟩, prog_4_method_11_code, 2, some .int, false, 1, 3, 303, 301, 302, 63)
def mi42 : MI := (⟨"FerryForAlone$Strand", "walksFar", "(I)I"⟩, prog_4_method_12_code, 2, some .int, false, 1, 5, 504, 502, 503, 63)
def mi43 : MI := (⟨"FerryForAlone$Strand", "choice", "()I"⟩, prog_4_method_13_code, 5, some .int, false, 0, 5, 267, 265, 266, 63)
def mi44 : MI := (⟨"FerryForAlone$Strand", "goOn", "(II)V"⟩, prog_4_method_14_code, 3, none, false, 2, 1, 528, 526, 527, 63)
def mi45 : MI := (⟨"FerryForAlone$Strand", "passHour", "()I"⟩, prog_4_method_15_code, 3, some .int, false, 0, 6, 518, 516, 517, 63)
def mi46 : MI := (⟨"FerryForAlone$Strand", "fetch", "(I)V"⟩, prog_4_method_16_code, 2, none, false, 1, 1, 523, 521, 522, 63)
def mi47 : MI := (⟨"FerryForAlone$Strand", "aloneBits", "()I"⟩, prog_4_method_17_code, 3, some .int, false, 0, 5, 307, 305, 306, 63)
def mi48 : MI := (⟨"FerryForAlone$Strand", "seenBits", "()I"⟩, prog_4_method_18_code, 3, some .int, false, 0, 2, 311, 309, 310, 63)
def mi49 : MI := (⟨"FerryForAlone$Strand", "overBits", "()I"⟩, prog_4_method_19_code, 3, some .int, false, 0, 2, 315, 313, 314, 63)
def mi50 : MI := (⟨"FerryForAlone$Strand", "valueOf", "(II)I"⟩, prog_4_method_20_code, 5, some .int, false, 2, 1, 287, 285, 286, 63)
def mi51 : MI := (⟨"FerryForAlone$Texts", "addFirstLaw", "()V"⟩, prog_5_method_2_code, 2, none, false, 0, 1, 220, 218, 219, 61)
def mi52 : MI := (⟨"FerryForAlone$Texts", "says", "(ILFerryForAlone$Strand;I)I"⟩, prog_5_method_3_code, 8, some .int, false, 3, 2, 283, 281, 282, 61)
def mi53 : MI := (⟨"FerryForAlone$Texts", "joined", "(III)I"⟩, prog_5_method_4_code, 3, some .int, true, 3, 1, 290, 289, 0, 61)
def mi54 : MI := (⟨"FerryForAlone", "count", "(I)I"⟩, prog_1_method_2_code, 2, some .int, false, 1, 1, 252, 250, 251, 60)
def mi55 : MI := (⟨"FerryForAlone", "bay", "(II)I"⟩, prog_1_method_3_code, 4, some .int, false, 2, 2, 256, 254, 255, 60)
def mi56 : MI := (⟨"FerryForAlone", "ferry", "(I)I"⟩, prog_1_method_4_code, 2, some .int, false, 1, 6, 263, 261, 262, 60)
def mi57 : MI := (⟨"FerryForAlone", "feed", "(IIIIII)I"⟩, prog_1_method_5_code, 7, some .int, false, 6, 3, 323, 321, 322, 60)
def mi58 : MI := (⟨"FerryForAlone", "text", "()I"⟩, prog_1_method_6_code, 2, some .int, false, 0, 17, 334, 332, 333, 60)
def mi59 : MI := (⟨"FerryForAlone", "force", "(I)I"⟩, prog_1_method_7_code, 3, some .int, false, 1, 2, 469, 467, 468, 60)
def mi60 : MI := (⟨"FerryForAlone", "asks", "(II)I"⟩, prog_1_method_8_code, 3, some .int, false, 2, 3, 473, 471, 472, 60)
def mi61 : MI := (⟨"FerryForAlone", "traveller", "(II)I"⟩, prog_1_method_9_code, 3, some .int, false, 2, 3, 482, 480, 481, 60)
def mi62 : MI := (⟨"FerryForAlone", "put", "(III)I"⟩, prog_1_method_10_code, 5, some .int, false, 3, 2, 491, 489, 490, 60)
def mi63 : MI := (⟨"FerryForAlone", "told", "(II)I"⟩, prog_1_method_11_code, 3, some .int, false, 2, 6, 498, 496, 497, 60)
def mi64 : MI := (⟨"FerryForAlone", "hour", "()I"⟩, prog_1_method_12_code, 1, some .int, false, 0, 7, 514, 512, 513, 60)
def mi65 : MI := (⟨"FerryForAlone", "walk", "(II)I"⟩, prog_1_method_13_code, 3, some .int, false, 2, 2, 533, 531, 532, 60)
def mi66 : MI := (⟨"FerryForAlone", "run", "(II)I"⟩, prog_1_method_14_code, 10, some .int, false, 2, 7, 538, 536, 537, 60)
def mi67 : MI := (⟨"FerryForAlone", "when", "(II)I"⟩, prog_1_method_15_code, 5, some .int, false, 2, 7, 548, 546, 547, 60)
def mi68 : MI := (⟨"FerryForAlone", "hide", "(II)I"⟩, prog_1_method_16_code, 7, some .int, false, 2, 8, 553, 551, 552, 60)
def mi69 : MI := (⟨"FerryForAlone", "stand", "(II)I"⟩, prog_1_method_17_code, 7, some .int, false, 2, 8, 562, 560, 561, 60)
def mi70 : MI := (⟨"FerryForAlone", "apart", "(II)I"⟩, prog_1_method_18_code, 5, some .int, false, 2, 6, 570, 568, 569, 60)
def mi71 : MI := (⟨"FerryForAlone", "breakwater", "(I)I"⟩, prog_1_method_19_code, 6, some .int, false, 1, 7, 578, 576, 577, 60)
def mi72 : MI := (⟨"FerryForAlone", "gap", "(I)I"⟩, prog_1_method_20_code, 6, some .int, false, 1, 3, 592, 590, 591, 60)
def mi73 : MI := (⟨"FerryForAlone", "middle", "(I)J"⟩, prog_1_method_21_code, 7, some .long, false, 1, 3, 600, 598, 599, 60)
def mi74 : MI := (⟨"FerryForAlone", "judge", "(I)I"⟩, prog_1_method_22_code, 3, some .int, false, 1, 8, 609, 607, 608, 60)
def mi75 : MI := (⟨"FerryForAlone", "kinds", "(III)I"⟩, prog_1_method_23_code, 8, some .int, false, 3, 8, 629, 627, 628, 60)
def mi76 : MI := (⟨"FerryForAlone", "places", "(II)J"⟩, prog_1_method_24_code, 6, some .long, false, 2, 8, 633, 631, 632, 60)
def mi77 : MI := (⟨"FerryForAlone", "turned", "(I)I"⟩, prog_1_method_25_code, 5, some .int, false, 1, 8, 637, 635, 636, 60)
def mi78 : MI := (⟨"FerryForAlone", "waits", "(III)I"⟩, prog_1_method_26_code, 8, some .int, false, 3, 8, 641, 639, 640, 60)
def mi79 : MI := (⟨"FerryForAlone", "laws", "(I)I"⟩, prog_1_method_27_code, 5, some .int, false, 1, 8, 645, 643, 644, 60)
def mi80 : MI := (⟨"FerryForAlone", "film", "(II)I"⟩, prog_1_method_28_code, 4, some .int, false, 2, 7, 649, 647, 648, 60)
def mi81 : MI := (⟨"FerryForAlone", "drawn", "(II)I"⟩, prog_1_method_29_code, 4, some .int, false, 2, 8, 661, 659, 660, 60)
def mi82 : MI := (⟨"FerryForAlone", "odds", "(IIII)J"⟩, prog_1_method_30_code, 7, some .long, false, 4, 8, 677, 675, 676, 60)
def mi83 : MI := (⟨"FerryForAlone", "image", "()I"⟩, prog_1_method_31_code, 1, some .int, false, 0, 2, 681, 679, 680, 60)
def mi84 : MI := (⟨"FerryForAlone", "back", "()I"⟩, prog_1_method_32_code, 1, some .int, false, 0, 2, 685, 683, 684, 60)
def mi85 : MI := (⟨"FerryForAlone", "sheet", "(III)I"⟩, prog_1_method_33_code, 4, some .int, false, 3, 2, 689, 687, 688, 60)
def mi86 : MI := (⟨"FerryForAlone", "cell", "(III)I"⟩, prog_1_method_34_code, 4, some .int, false, 3, 2, 693, 691, 692, 60)
def mi87 : MI := (⟨"FerryForAlone", "copy", "(IIIII)I"⟩, prog_1_method_35_code, 6, some .int, false, 5, 2, 697, 695, 696, 60)
def mi88 : MI := (⟨"FerryForAlone", "peopleBy", "(IIII)I"⟩, prog_1_method_36_code, 10, some .int, false, 4, 3, 712, 710, 711, 60)
def mi89 : MI := (⟨"FerryForAlone", "taken", "(II)I"⟩, prog_1_method_37_code, 5, some .int, false, 2, 2, 717, 715, 716, 60)
def mi90 : MI := (⟨"FerryForAlone", "within", "(III)Z"⟩, prog_1_method_38_code, 3, some .boolean, true, 3, 1, 259, 258, 0, 60)
def mi91 : MI := (⟨"FerryForAlone", "isByte", "(I)Z"⟩, prog_1_method_39_code, 1, some .boolean, true, 1, 2, 326, 325, 0, 60)
def mi92 : MI := (⟨"FerryForAlone", "bit", "(Z)I"⟩, prog_1_method_40_code, 1, some .int, true, 1, 1, 494, 493, 0, 60)
def mi93 : MI := (⟨"FerryForAlone", "tapeOne", "(I)V"⟩, prog_1_method_41_code, 2, none, false, 1, 1, 330, 329, 0, 60)
def mi94 : MI := (⟨"FerryForAlone", "isOfKind", "(II)Z"⟩, prog_1_method_42_code, 2, some .boolean, true, 2, 1, 720, 719, 0, 60)
def mi95 : MI := (⟨"FerryForAlone", "fetchedInThought", "(I)I"⟩, prog_1_method_43_code, 4, some .int, false, 1, 7, 557, 556, 15, 60)
def mi96 : MI := (⟨"FerryForAlone", "hoursTillOver", "(II)I"⟩, prog_1_method_44_code, 4, some .int, false, 2, 7, 566, 565, 16, 60)
def mi97 : MI := (⟨"FerryForAlone", "wouldBeAlone", "(II)Z"⟩, prog_1_method_45_code, 3, some .boolean, false, 2, 5, 574, 573, 17, 60)
def mi98 : MI := (⟨"FerryForAlone", "othersAloneWithout", "(I)Z"⟩, prog_1_method_46_code, 3, some .boolean, false, 1, 6, 588, 587, 18, 60)
def mi99 : MI := (⟨"FerryForAlone", "refusalToJudge", "(I)I"⟩, prog_1_method_47_code, 2, some .int, false, 1, 2, 613, 612, 19, 60)
def mi100 : MI := (⟨"FerryForAlone", "firstOtherwise", "(I)I"⟩, prog_1_method_48_code, 3, some .int, false, 1, 7, 621, 620, 20, 60)
def mi101 : MI := (⟨"FerryForAlone", "fetchedAmongGulls", "(I)I"⟩, prog_1_method_49_code, 7, some .int, false, 1, 7, 666, 665, 21, 60)
def mi102 : MI := (⟨"FerryForAlone", "lotAfter", "(J)J"⟩, prog_1_method_50_code, 2, some .long, true, 1, 1, 669, 668, 0, 60)
def mi103 : MI := (⟨"FerryForAlone", "fraction", "(JJI)J"⟩, prog_1_method_51_code, 12, some .long, true, 3, 2, 603, 602, 0, 60)
def mi104 : MI := (⟨"FerryForAloneModel", "in", "(III)Z"⟩, prog_7_method_3_code, 3, some .boolean, true, 3, 1, 737, 736, 0, 65)
def mi105 : MI := (⟨"FerryForAloneModel", "within", "(III)I"⟩, prog_7_method_4_code, 3, some .int, true, 3, 1, 927, 926, 0, 65)
def mi106 : MI := (⟨"FerryForAloneModel", "onesOf", "(I)I"⟩, prog_7_method_5_code, 3, some .int, true, 1, 1, 917, 916, 0, 65)
def mi107 : MI := (⟨"FerryForAloneModel", "isOne", "(I)Z"⟩, prog_7_method_6_code, 2, some .boolean, false, 1, 2, 963, 962, 44, 65)
def mi108 : MI := (⟨"FerryForAloneModel", "isAt", "(I)Z"⟩, prog_7_method_7_code, 2, some .boolean, false, 1, 1, 898, 897, 34, 65)
def mi109 : MI := (⟨"FerryForAloneModel", "isSeen", "(I)Z"⟩, prog_7_method_8_code, 2, some .boolean, false, 1, 2, 894, 893, 33, 65)
def mi110 : MI := (⟨"FerryForAloneModel", "seenSet", "()I"⟩, prog_7_method_9_code, 3, some .int, false, 0, 3, 914, 913, 38, 65)
def mi111 : MI := (⟨"FerryForAloneModel", "isOver", "(I)Z"⟩, prog_7_method_10_code, 2, some .boolean, false, 1, 2, 943, 942, 43, 65)
def mi112 : MI := (⟨"FerryForAloneModel", "overSet", "()I"⟩, prog_7_method_11_code, 3, some .int, false, 0, 3, 939, 938, 42, 65)
def mi113 : MI := (⟨"FerryForAloneModel", "count", "(I)I"⟩, prog_7_method_12_code, 2, some .int, false, 1, 1, 874, 872, 873, 65)
def mi114 : MI := (⟨"FerryForAloneModel", "bay", "(II)I"⟩, prog_7_method_13_code, 5, some .int, false, 2, 2, 878, 876, 877, 65)
def mi115 : MI := (⟨"FerryForAloneModel", "ferry", "(I)I"⟩, prog_7_method_14_code, 2, some .int, false, 1, 8, 882, 880, 881, 65)
def mi116 : MI := (⟨"FerryForAloneModel", "isByte", "(I)Z"⟩, prog_7_method_15_code, 1, some .boolean, true, 1, 2, 950, 949, 0, 65)
def mi117 : MI := (⟨"FerryForAloneModel", "feed", "(IIIIII)I"⟩, prog_7_method_16_code, 8, some .int, false, 6, 3, 947, 945, 946, 65)
def mi118 : MI := (⟨"FerryForAloneModel", "wordFrom", "(II)I"⟩, prog_7_method_17_code, 6, some .int, false, 2, 1, 741, 740, 23, 65)
def mi119 : MI := (⟨"FerryForAloneModel", "next", "()V"⟩, prog_7_method_18_code, 3, none, false, 0, 2, 734, 733, 22, 65)
def mi120 : MI := (⟨"FerryForAloneModel", "rank", "(I)I"⟩, prog_7_method_19_code, 1, some .int, true, 1, 1, 757, 756, 0, 65)
def mi121 : MI := (⟨"FerryForAloneModel", "puts", "(I)V"⟩, prog_7_method_20_code, 2, none, false, 1, 1, 750, 749, 25, 65)
def mi122 : MI := (⟨"FerryForAloneModel", "unwinds", "(I)V"⟩, prog_7_method_21_code, 3, none, false, 1, 2, 754, 753, 26, 65)
def mi123 : MI := (⟨"FerryForAloneModel", "holds", "(I)V"⟩, prog_7_method_22_code, 2, none, false, 1, 1, 765, 764, 28, 65)
def mi124 : MI := (⟨"FerryForAloneModel", "opensOne", "(I)Z"⟩, prog_7_method_23_code, 2, some .boolean, false, 1, 2, 761, 760, 27, 65)
def mi125 : MI := (⟨"FerryForAloneModel", "between", "(I)Z"⟩, prog_7_method_24_code, 2, some .boolean, false, 1, 3, 773, 772, 30, 65)
def mi126 : MI := (⟨"FerryForAloneModel", "signOf", "()I"⟩, prog_7_method_25_code, 1, some .int, false, 0, 1, 769, 768, 29, 65)
def mi127 : MI := (⟨"FerryForAloneModel", "eRead", "()Z"⟩, prog_7_method_26_code, 4, some .boolean, false, 0, 4, 745, 744, 24, 65)
def mi128 : MI := (⟨"FerryForAloneModel", "text", "()I"⟩, prog_7_method_27_code, 3, some .int, false, 0, 5, 730, 728, 729, 65)
def mi129 : MI := (⟨"FerryForAloneModel", "two", "(III)I"⟩, prog_7_method_28_code, 3, some .int, true, 3, 1, 924, 923, 0, 65)
def mi130 : MI := (⟨"FerryForAloneModel", "says", "(I)I"⟩, prog_7_method_29_code, 5, some .int, false, 1, 2, 921, 920, 39, 65)
def mi131 : MI := (⟨"FerryForAloneModel", "force", "(I)I"⟩, prog_7_method_30_code, 3, some .int, false, 1, 2, 955, 953, 954, 65)
def mi132 : MI := (⟨"FerryForAloneModel", "asksOf", "(II)I"⟩, prog_7_method_31_code, 3, some .int, false, 2, 4, 910, 909, 37, 65)
def mi133 : MI := (⟨"FerryForAloneModel", "asks", "(II)I"⟩, prog_7_method_32_code, 3, some .int, false, 2, 5, 959, 957, 958, 65)
def mi134 : MI := (⟨"FerryForAloneModel", "traveller", "(II)I"⟩, prog_7_method_33_code, 3, some .int, false, 2, 2, 967, 965, 966, 65)
def mi135 : MI := (⟨"FerryForAloneModel", "put", "(III)I"⟩, prog_7_method_34_code, 7, some .int, false, 3, 3, 971, 969, 970, 65)
def mi136 : MI := (⟨"FerryForAloneModel", "gapOf", "(I)I"⟩, prog_7_method_35_code, 3, some .int, false, 1, 5, 906, 905, 36, 65)
def mi137 : MI := (⟨"FerryForAloneModel", "likedOf", "(I)I"⟩, prog_7_method_36_code, 3, some .int, false, 1, 5, 931, 930, 40, 65)
def mi138 : MI := (⟨"FerryForAloneModel", "walksOf", "(I)I"⟩, prog_7_method_37_code, 3, some .int, false, 1, 7, 979, 978, 45, 65)
def mi139 : MI := (⟨"FerryForAloneModel", "farOf", "(I)I"⟩, prog_7_method_38_code, 5, some .int, false, 1, 3, 902, 901, 35, 65)
def mi140 : MI := (⟨"FerryForAloneModel", "isAlone", "(I)Z"⟩, prog_7_method_39_code, 3, some .boolean, false, 1, 6, 890, 889, 32, 65)
def mi141 : MI := (⟨"FerryForAloneModel", "aloneSet", "()I"⟩, prog_7_method_40_code, 3, some .int, false, 0, 7, 935, 934, 41, 65)
def mi142 : MI := (⟨"FerryForAloneModel", "choice", "()I"⟩, prog_7_method_41_code, 6, some .int, false, 0, 7, 886, 885, 31, 65)
def mi143 : MI := (⟨"FerryForAloneModel", "told", "(II)I"⟩, prog_7_method_42_code, 3, some .int, false, 2, 8, 975, 973, 974, 65)
def mi144 : MI := (⟨"FerryForAloneModel", "fetches", "(I)V"⟩, prog_7_method_43_code, 3, none, false, 1, 2, 991, 990, 47, 65)
def mi145 : MI := (⟨"FerryForAloneModel", "hourOf", "()I"⟩, prog_7_method_44_code, 3, some .int, false, 0, 8, 987, 986, 46, 65)
def mi146 : MI := (⟨"FerryForAloneModel", "hour", "()I"⟩, prog_7_method_45_code, 1, some .int, false, 0, 9, 983, 981, 982, 65)
def mi147 : MI := (⟨"FerryForAloneModel", "walk", "(II)I"⟩, prog_7_method_46_code, 3, some .int, false, 2, 3, 995, 993, 994, 65)
def mi148 : MI := (⟨"FerryForAloneModel", "keeps", "()V"⟩, prog_7_method_47_code, 2, none, false, 0, 1, 1003, 1002, 48, 65)
def mi149 : MI := (⟨"FerryForAloneModel", "lays", "()V"⟩, prog_7_method_48_code, 2, none, false, 0, 1, 1011, 1010, 50, 65)
def mi150 : MI := (⟨"FerryForAloneModel", "goes", "(I)I"⟩, prog_7_method_49_code, 5, some .int, false, 1, 9, 1007, 1006, 49, 65)
def mi151 : MI := (⟨"FerryForAloneModel", "run", "(II)I"⟩, prog_7_method_50_code, 5, some .int, false, 2, 10, 999, 997, 998, 65)
def mi152 : MI := (⟨"FerryForAloneModel", "isNow", "(II)Z"⟩, prog_7_method_51_code, 3, some .boolean, false, 2, 8, 1023, 1022, 52, 65)
def mi153 : MI := (⟨"FerryForAloneModel", "firstTime", "(II)I"⟩, prog_7_method_52_code, 5, some .int, false, 2, 9, 1019, 1018, 51, 65)
def mi154 : MI := (⟨"FerryForAloneModel", "when", "(II)I"⟩, prog_7_method_53_code, 4, some .int, false, 2, 10, 1015, 1013, 1014, 65)
def mi155 : MI := (⟨"FerryForAloneModel", "fetchedIn", "(I)I"⟩, prog_7_method_54_code, 3, some .int, false, 1, 10, 1031, 1030, 53, 65)
def mi156 : MI := (⟨"FerryForAloneModel", "hide", "(II)I"⟩, prog_7_method_55_code, 7, some .int, false, 2, 11, 1027, 1025, 1026, 65)
def mi157 : MI := (⟨"FerryForAloneModel", "stand", "(II)I"⟩, prog_7_method_56_code, 8, some .int, false, 2, 10, 1035, 1033, 1034, 65)
def mi158 : MI := (⟨"FerryForAloneModel", "apart", "(II)I"⟩, prog_7_method_57_code, 9, some .int, false, 2, 7, 1039, 1037, 1038, 65)
def mi159 : MI := (⟨"FerryForAloneModel", "areAllAlone", "(II)Z"⟩, prog_7_method_58_code, 5, some .boolean, false, 2, 8, 1047, 1046, 54, 65)
def mi160 : MI := (⟨"FerryForAloneModel", "breakwater", "(I)I"⟩, prog_7_method_59_code, 8, some .int, false, 1, 9, 1043, 1041, 1042, 65)
def mi161 : MI := (⟨"FerryForAloneModel", "isBetween", "(II)Z"⟩, prog_7_method_60_code, 4, some .boolean, false, 2, 3, 1055, 1054, 55, 65)
def mi162 : MI := (⟨"FerryForAloneModel", "gap", "(I)I"⟩, prog_7_method_61_code, 8, some .int, false, 1, 4, 1051, 1049, 1050, 65)
def mi163 : MI := (⟨"FerryForAloneModel", "lowest", "(JJI)J"⟩, prog_7_method_62_code, 11, some .long, true, 3, 1, 1062, 1061, 0, 65)
def mi164 : MI := (⟨"FerryForAloneModel", "middle", "(I)J"⟩, prog_7_method_63_code, 5, some .long, false, 1, 2, 1059, 1057, 1058, 65)
def mi165 : MI := (⟨"FerryForAloneModel", "sheetWrong", "(I)I"⟩, prog_7_method_64_code, 2, some .int, false, 1, 2, 1071, 1070, 56, 65)
def mi166 : MI := (⟨"FerryForAloneModel", "unlike", "(I)I"⟩, prog_7_method_65_code, 4, some .int, false, 1, 9, 1075, 1074, 57, 65)
def mi167 : MI := (⟨"FerryForAloneModel", "judge", "(I)I"⟩, prog_7_method_66_code, 3, some .int, false, 1, 10, 1067, 1065, 1066, 65)
def mi168 : MI := (⟨"FerryForAloneModel", "kinds", "(III)I"⟩, prog_7_method_67_code, 9, some .int, false, 3, 10, 1079, 1077, 1078, 65)
def mi169 : MI := (⟨"FerryForAloneModel", "places", "(II)J"⟩, prog_7_method_68_code, 7, some .long, false, 2, 10, 1083, 1081, 1082, 65)
def mi170 : MI := (⟨"FerryForAloneModel", "turned", "(I)I"⟩, prog_7_method_69_code, 5, some .int, false, 1, 10, 1087, 1085, 1086, 65)
def mi171 : MI := (⟨"FerryForAloneModel", "waits", "(III)I"⟩, prog_7_method_70_code, 10, some .int, false, 3, 10, 1091, 1089, 1090, 65)
def mi172 : MI := (⟨"FerryForAloneModel", "laws", "(I)I"⟩, prog_7_method_71_code, 6, some .int, false, 1, 10, 1095, 1093, 1094, 65)
def mi173 : MI := (⟨"FerryForAloneModel", "film", "(II)I"⟩, prog_7_method_72_code, 4, some .int, false, 2, 9, 1099, 1097, 1098, 65)
def mi174 : MI := (⟨"FerryForAloneModel", "gulls", "(I)I"⟩, prog_7_method_73_code, 7, some .int, false, 1, 9, 1108, 1107, 58, 65)
def mi175 : MI := (⟨"FerryForAloneModel", "drawn", "(II)I"⟩, prog_7_method_74_code, 4, some .int, false, 2, 10, 1103, 1101, 1102, 65)
def mi176 : MI := (⟨"FerryForAloneModel", "odds", "(IIII)J"⟩, prog_7_method_75_code, 8, some .long, false, 4, 10, 1116, 1114, 1115, 65)
def mi177 : MI := (⟨"FerryForAloneModel", "image", "()I"⟩, prog_7_method_76_code, 2, some .int, false, 0, 1, 1120, 1118, 1119, 65)
def mi178 : MI := (⟨"FerryForAloneModel", "back", "()I"⟩, prog_7_method_77_code, 2, some .int, false, 0, 1, 1124, 1122, 1123, 65)
def mi179 : MI := (⟨"FerryForAloneModel", "sheet", "(III)I"⟩, prog_7_method_78_code, 5, some .int, false, 3, 2, 1128, 1126, 1127, 65)
def mi180 : MI := (⟨"FerryForAloneModel", "cell", "(III)I"⟩, prog_7_method_79_code, 4, some .int, false, 3, 2, 1132, 1130, 1131, 65)
def mi181 : MI := (⟨"FerryForAloneModel", "copy", "(IIIII)I"⟩, prog_7_method_80_code, 10, some .int, false, 5, 2, 1136, 1134, 1135, 65)
def mi182 : MI := (⟨"FerryForAloneModel", "peopleBy", "(IIII)I"⟩, prog_7_method_81_code, 9, some .int, false, 4, 3, 1140, 1138, 1139, 65)
def mi183 : MI := (⟨"FerryForAloneModel", "isUnder", "(II)Z"⟩, prog_7_method_82_code, 2, some .boolean, true, 2, 1, 1148, 1147, 0, 65)
def mi184 : MI := (⟨"FerryForAloneModel", "taken", "(II)I"⟩, prog_7_method_83_code, 3, some .int, false, 2, 2, 1145, 1143, 1144, 65)
def mi185 : MI := (⟨"FerryForAloneLaw", "law", "([I)Z"⟩, code, 4, some .boolean, true, 1, 18, 0, 0, 0, 0)
def mk0 : List MI := [mi0_, mi1, mi2, mi3, mi4, mi5, mi6, mi7, mi8, mi9, mi10, mi11, mi12, mi13, mi14, mi15]
def mk1 : List MI := [mi16, mi17, mi18, mi19, mi20, mi21, mi22, mi23, mi24, mi25, mi26, mi27, mi28, mi29, mi30, mi31]
def mk2 : List MI := [mi32, mi33, mi34, mi35, mi36, mi37, mi38, mi39, mi40, mi41, mi42, mi43, mi44, mi45, mi46, mi47]
def mk3 : List MI := [mi48, mi49, mi50, mi51, mi52, mi53, mi54, mi55, mi56, mi57, mi58, mi59, mi60, mi61, mi62, mi63]
def mk4 : List MI := [mi64, mi65, mi66, mi67, mi68, mi69, mi70, mi71, mi72, mi73, mi74, mi75, mi76, mi77, mi78, mi79]
def mk5 : List MI := [mi80, mi81, mi82, mi83, mi84, mi85, mi86, mi87, mi88, mi89, mi90, mi91, mi92, mi93, mi94, mi95]
def mk6 : List MI := [mi96, mi97, mi98, mi99, mi100, mi101, mi102, mi103, mi104, mi105, mi106, mi107, mi108, mi109, mi110, mi111]
def mk7 : List MI := [mi112, mi113, mi114, mi115, mi116, mi117, mi118, mi119, mi120, mi121, mi122, mi123, mi124, mi125, mi126, mi127]
def mk8 : List MI := [mi128, mi129, mi130, mi131, mi132, mi133, mi134, mi135, mi136, mi137, mi138, mi139, mi140, mi141, mi142, mi143]
def mk9 : List MI := [mi144, mi145, mi146, mi147, mi148, mi149, mi150, mi151, mi152, mi153, mi154, mi155, mi156, mi157, mi158, mi159]
def mk10 : List MI := [mi160, mi161, mi162, mi163, mi164, mi165, mi166, mi167, mi168, mi169, mi170, mi171, mi172, mi173, mi174, mi175]
def mk11 : List MI := [mi176, mi177, mi178, mi179, mi180, mi181, mi182, mi183, mi184, mi185]
def mis : List (List MI) := [mk0, mk1, mk2, mk3, mk4, mk5, mk6, mk7, mk8, mk9, mk10, mk11]
def mi0 : Option (List MI) → Nat → Option MI
  | none, _ => none
  | some b, j => nth b j
def mi? (y : Nat) : Option MI := mi0 (nth mis (y / 16)) (y % 16)
def mxOf : Option MI → Nat
  | none => 0
  | some t => t.2.2.1
/-- how many locals -/
def mx (y : Nat) : Nat := mxOf (mi? y)
end
section
/-! THE PURE MACHINE. A value is a Value whose references are numbers of cells; a store gives what stands at each place of each cell. -/
abbrev Sto : Type := Nat → Nat → Int32
abbrev Rs : Type := Int32 × Int64 × Sto
def su (σ : Sto) (c i : Nat) (v : Int32) : Sto := fun c' => if c' = c then upd (σ c) i v else σ c'
def inb (i : Int32) (n : Nat) : Bool := decide (0 ≤ i.toInt) && decide (i.toInt < (n : Int))
def zb (v : Int32) : Bool := v == 0 || v == 1
/-- what a small type keeps of an int is the int itself -/
def nok : Nat → Int32 → Bool
  | 0, _ => true
  | 1, v => zb v
  | 2, v => v.toInt8.toInt32 == v
  | 3, v => (v.toUInt32.toUInt16.toUInt32.toInt32) == v
  | _, v => v.toInt16.toInt32 == v
def memb : List Nat → Nat → Bool
  | [], _ => false
  | a :: l, n => Nat.beq a n || memb l n
/-- a long's second half is no value; nothing is said of a place that holds .null -/
def dl (v : Value) : Value := if v.category = 2 then .null else v
def st1 : List Value → Nat → Value → List Value
  | [], _, _ => []
  | _ :: l, 0, v => v :: l
  | a :: l, 1, v => dl a :: st1 l 0 v
  | a :: l, n + 2, v => a :: st1 l (n + 1) v
def nul1 : List Value → List Value
  | [] => []
  | _ :: l => .null :: l
def st2 : List Value → Nat → Value → List Value
  | [], _, _ => []
  | _ :: l, 0, v => v :: nul1 l
  | a :: l, 1, v => dl a :: st2 l 0 v
  | a :: l, n + 2, v => a :: st2 l (n + 1) v
def pad : Nat → List Value → List Value
  | 0, l => l
  | n + 1, [] => .null :: pad n []
  | n + 1, a :: l => a :: pad n l
def wide : List Value → List Value
  | [] => []
  | a :: l => if a.category = 2 then a :: .null :: wide l else a :: wide l
/-- a method's first locals -/
def ent (y : Nat) (as : List Value) : List Value := pad (mx y) (wide as)
def popn : Nat → List Value → List Value → Option (List Value × List Value)
  | 0, st, acc => some (acc, st)
  | _ + 1, [], _ => none
  | n + 1, v :: st, acc => popn n st (v :: acc)
def byteL : List (List Int32) := [[103, 97, 112, 115], [108, 105, 107, 101, 115], [119, 97, 108, 107, 115], [111, 114], [97, 110, 100], [110, 111, 116], [112, 108, 97, 99, 101], [119, 97, 105, 116, 101, 100], [104, 111, 117, 114], [115, 101, 101, 110], [102, 101, 116, 99, 104, 101, 100], [109, 111, 114, 101]]
def byteOf (k : Nat) : List Int32 := match nth byteL k with
  | some l => l
  | none => []
def kLaw : Nat := 185
def absI (x : Int32) : Int32 := if 0 ≤ x then x else 0 - x
def maxI (x y : Int32) : Int32 := if x < y then y else x
def minI (x y : Int32) : Int32 := if y < x then y else x
/-! One instruction's outcome: a list of guards, each with what comes if it holds, and what comes if none does. What comes: to go on in the method; to call, and with what to go on behind it; to return; or nothing. -/
abbrev Gd : Type := (p : Prop) ×' Decidable p
abbrev Lf : Type := (Nat × List Value × List Value × Sto) ⊕ ((Nat × Nat × List Value × Sto × (Rs → List Value)) ⊕ Rs)
abbrev DL : Type := List (Gd × Option Lf) × Option Lf
def no : DL := ([], none)
def lgo (i : Nat) (L st : List Value) (σ : Sto) : Option Lf := some (.inl (i, L, st, σ))
def go (i : Nat) (L st : List Value) (σ : Sto) : DL := ([], lgo i L st σ)
def cal (y k : Nat) (as : List Value) (σ : Sto) (kk : Rs → List Value) : DL := ([], some (.inr (.inl (y, k, as, σ, kk))))
def rtn (r : Rs) : DL := ([], some (.inr (.inr r)))
def gif (p : Prop) (h : Decidable p) (o : Option Lf) (B : DL) : DL := ((⟨p, h⟩, o) :: B.1, B.2)
def ldI (L : List Value) (j : Nat) (f : Int32 → DL) : DL := match nth L j with
  | some (.int x) => f x
  | _ => no
def ldJ (L : List Value) (j : Nat) (f : Int64 → DL) : DL := match nth L j with
  | some (.long x) => f x
  | _ => no
def ldR (L : List Value) (j : Nat) (f : Nat → DL) : DL := match nth L j with
  | some (.ref x) => f x
  | _ => no
def p1 (st : List Value) (f : Int32 → List Value → DL) : DL := match st with
  | .int x :: r => f x r
  | _ => no
def p2 (st : List Value) (f : Int32 → Int32 → List Value → DL) : DL := match st with
  | .int y :: .int x :: r => f x y r
  | _ => no
def q1 (st : List Value) (f : Int64 → List Value → DL) : DL := match st with
  | .long x :: r => f x r
  | _ => no
def q2 (st : List Value) (f : Int64 → Int64 → List Value → DL) : DL := match st with
  | .long y :: .long x :: r => f x y r
  | _ => no
def q3 (st : List Value) (f : Int64 → Int32 → List Value → DL) : DL := match st with
  | .int y :: .long x :: r => f x y r
  | _ => no
def c1 (st : List Value) (f : Nat → List Value → DL) : DL := match st with
  | .ref x :: r => f x r
  | _ => no
def c2 (st : List Value) (f : Nat → Int32 → List Value → DL) : DL := match st with
  | .int y :: .ref x :: r => f x y r
  | _ => no
def c3 (st : List Value) (f : Nat → Int32 → Int32 → List Value → DL) : DL := match st with
  | .int v :: .int y :: .ref x :: r => f x y v r
  | _ => no
def c4 (st : List Value) (f : Nat → Int32 → List Value → DL) : DL := match st with
  | .int v :: .ref x :: r => f x v r
  | _ => no
/-- a value of one slot on top -/
def d1 (st : List Value) (f : Value → List Value → DL) : DL := match st with
  | .int x :: r => f (.int x) r
  | .ref x :: r => f (.ref x) r
  | _ => no
/-- a field of an object -/
def fldG (Sh : Nat → Option Cs) (c a b : Nat) (f : Option Nat → DL) : DL := match Sh c with
  | some (.inl (ci, ks)) => if ci = a then (match nth ks b with
    | some o => f o
    | none => no) else no
  | _ => no
/-- a row -/
def rowG (Sh : Nat → Option Cs) (c : Nat) (z : Bool) (f : Nat → DL) : DL := match Sh c with
  | some (.inr (z', n)) => if z' = z then f n else no
  | _ => no
def rowL (Sh : Nat → Option Cs) (c : Nat) (f : Nat → DL) : DL := match Sh c with
  | some (.inr (_, n)) => f n
  | _ => no
def swc (x : Int32) (L st : List Value) (σ : Sto) (a : Nat) : List (Int32 × Nat) → DL
  | [] => go a L st σ
  | t :: ts => gif (x = t.1) inferInstance (lgo t.2 L st σ) (swc x L st σ a ts)
def popG (n m : Nat) (st : List Value) (f : List Value → List Value → DL) : DL := match popn n st [] with
  | some (as, r) => if (r.map fun v => v.category).sum ≤ 8 ∧ (wide as).length ≤ m then f as r else no
  | none => no
/-- the receiver is an object of the kind k (50: a String constant) -/
def recvG (Sh : Nat → Option Cs) (as : List Value) (k : Nat) (f : DL) : DL := match as with
  | .ref c :: _ => if k = 50 then (if 100 ≤ c ∧ c < 112 then f else no) else (match Sh c with
    | some (.inl (ci, _)) => if ci = k then f else no
    | _ => no)
  | _ => no
def pushR (e : Nat) (r : Rs) (st : List Value) : List Value := match e with
  | 0 => st
  | 1 => .int r.1 :: st
  | _ => .long r.2.1 :: st
def cpy (σ : Sto) (c d : Nat) (sp dp n : Int32) : Sto := fun c' => if c' = d then va_cpy (σ c) (σ d) sp.toNatClampNeg dp.toNatClampNeg n.toNatClampNeg else σ c'
def carryG (Sh : Nat → Option Cs) (i : Nat) (L st : List Value) (σ : Sto) : DL := match st with
  | .int n :: .int dp :: .ref d :: .int sp :: .ref c :: r =>
    rowG Sh c false (fun nc => rowG Sh d false (fun nd => if (r.map fun v => v.category).sum ≤ 8 then
      gif (0 ≤ sp.toInt ∧ 0 ≤ dp.toInt ∧ 0 ≤ n.toInt ∧ sp.toInt + n.toInt ≤ (nc : Int) ∧ dp.toInt + n.toInt ≤ (nd : Int)) inferInstance (lgo i L r (cpy σ c d sp dp n)) no else no))
  | _ => no
/-- one instruction -/
def act (Sh : Nat → Option Cs) (y k i : Nat) (L st : List Value) (σ : Sto) : DL := match fetch y i with
  | none => no
  | some (I, _, a, b, d, e, f, _, v, w, ts) => match I with
    | .aload_n n => ldR L n.val (fun x => go (i + 1) L (.ref x :: st) σ)
    | .iload_n n => ldI L n.val (fun x => go (i + 1) L (.int x :: st) σ)
    | .iload n => ldI L n (fun x => go (i + 1) L (.int x :: st) σ)
    | .lload_n n => ldJ L n.val (fun x => go (i + 1) L (.long x :: st) σ)
    | .lload n => ldJ L n (fun x => go (i + 1) L (.long x :: st) σ)
    | .istore_n n => p1 st (fun x r => go (i + 1) (st1 L n.val (.int x)) r σ)
    | .istore n => p1 st (fun x r => go (i + 1) (st1 L n (.int x)) r σ)
    | .lstore_n n => q1 st (fun x r => go (i + 1) (st2 L n.val (.long x)) r σ)
    | .lstore n => q1 st (fun x r => go (i + 1) (st2 L n (.long x)) r σ)
    | .iinc n _ => ldI L n (fun x => go (i + 1) (st1 L n (.int (x + v))) st σ)
    | .iconst _ => go (i + 1) L (.int v :: st) σ
    | .bipush _ => go (i + 1) L (.int v :: st) σ
    | .sipush _ => go (i + 1) L (.int v :: st) σ
    | .ldc _ => if a = 1 then go (i + 1) L (.ref b :: st) σ else go (i + 1) L (.int v :: st) σ
    | .ldc_w _ => go (i + 1) L (.int v :: st) σ
    | .ldc2_w _ => go (i + 1) L (.long w :: st) σ
    | .lconst _ => go (i + 1) L (.long w :: st) σ
    | .getfield _ => c1 st (fun c r => if a = 50 then (if 100 ≤ c ∧ c < 112 then go (i + 1) L (.ref (c + 100) :: r) σ else no)
        else if a = 51 then (if 100 ≤ c ∧ c < 112 then go (i + 1) L (.int 0 :: r) σ else no)
        else fldG Sh c a b (fun o => match o with
          | none => go (i + 1) L (.int (σ c b) :: r) σ
          | some x => go (i + 1) L (.ref x :: r) σ))
    | .putfield _ => c4 st (fun c x r => fldG Sh c a b (fun o => match o with
          | none => if d = 0 then go (i + 1) L r (su σ c b x) else gif (zb x = true) inferInstance (lgo (i + 1) L r (su σ c b x)) no
          | some _ => no))
    | .getstatic _ => if a = 1 then go (i + 1) L (.int v :: st) σ else if a = 2 then go (i + 1) L (.ref 300 :: st) σ else no
    | .iaload => c2 st (fun c x r => if a = 1 then (if c = 99 then gif (inb x (σ 98 0).toNatClampNeg = true) inferInstance (lgo (i + 1) L (.int (σ 99 x.toNatClampNeg) :: r) σ) no else no)
        else rowG Sh c false (fun n => gif (inb x n = true) inferInstance (lgo (i + 1) L (.int (σ c x.toNatClampNeg) :: r) σ) no))
    | .baload => c2 st (fun c x r => if a = 2 then (if 200 ≤ c ∧ c < 212 then gif (inb x (byteOf (c - 200)).length = true) inferInstance (lgo (i + 1) L (.int ((byteOf (c - 200)).getD x.toNatClampNeg 0) :: r) σ) no else no)
        else rowG Sh c true (fun n => gif (inb x n = true) inferInstance (lgo (i + 1) L (.int (σ c x.toNatClampNeg) :: r) σ) no))
    | .iastore => c3 st (fun c x z r => rowG Sh c false (fun n => gif (inb x n = true) inferInstance (lgo (i + 1) L r (su σ c x.toNatClampNeg z)) no))
    | .bastore => c3 st (fun c x z r => rowG Sh c true (fun n => gif (inb x n = true ∧ zb z = true) inferInstance (lgo (i + 1) L r (su σ c x.toNatClampNeg z)) no))
    | .arraylength => c1 st (fun c r => if a = 1 then (if c = 99 then go (i + 1) L (.int (σ 98 0) :: r) σ else no)
        else if a = 2 then (if 200 ≤ c ∧ c < 212 then go (i + 1) L (.int (Int32.ofNat (byteOf (c - 200)).length) :: r) σ else no)
        else rowL Sh c (fun n => go (i + 1) L (.int (Int32.ofNat n) :: r) σ))
    | .invokevirtual _ => if d = 0 then popG b (mx a) st (fun as r => recvG Sh as f (match ts with
          | [] => cal a k as σ (fun s => pushR e s r)
          | _ :: _ => gif (k < 6) inferInstance (some (.inr (.inl (a, k + 1, as, σ, fun s => pushR e s r)))) no)) else no
    | .invokestatic _ => if d = 3 then carryG Sh (i + 1) L st σ
        else if d = 4 then p1 st (fun x r => if (r.map fun v => v.category).sum ≤ 8 then go (i + 1) L (.int (absI x) :: r) σ else no)
        else if d = 5 then p2 st (fun x y r => if (r.map fun v => v.category).sum ≤ 8 then go (i + 1) L (.int (maxI x y) :: r) σ else no)
        else if d = 6 then p2 st (fun x y r => if (r.map fun v => v.category).sum ≤ 8 then go (i + 1) L (.int (minI x y) :: r) σ else no)
        else if d = 1 ∨ d = 2 then popG b (mx a) st (fun as r => cal a k as σ (fun s => pushR e s r)) else no
    | .iadd => p2 st (fun x y r => go (i + 1) L (.int (x + y) :: r) σ)
    | .isub => p2 st (fun x y r => go (i + 1) L (.int (x - y) :: r) σ)
    | .imul => p2 st (fun x y r => go (i + 1) L (.int (x * y) :: r) σ)
    | .idiv => p2 st (fun x y r => gif (y = 0) inferInstance none (go (i + 1) L (.int (x / y) :: r) σ))
    | .irem => p2 st (fun x y r => gif (y = 0) inferInstance none (go (i + 1) L (.int (x - x / y * y) :: r) σ))
    | .ineg => p1 st (fun x r => go (i + 1) L (.int (-x) :: r) σ)
    | .iand => p2 st (fun x y r => go (i + 1) L (.int (x &&& y) :: r) σ)
    | .ior => p2 st (fun x y r => go (i + 1) L (.int (x ||| y) :: r) σ)
    | .ixor => p2 st (fun x y r => go (i + 1) L (.int (x ^^^ y) :: r) σ)
    | .ishl => p2 st (fun x y r => go (i + 1) L (.int (x <<< (y &&& 31)) :: r) σ)
    | .ishr => p2 st (fun x y r => go (i + 1) L (.int (x >>> (y &&& 31)) :: r) σ)
    | .iushr => p2 st (fun x y r => go (i + 1) L (.int (x.toUInt32 >>> (y.toUInt32 &&& Int32.toUInt32 31)).toInt32 :: r) σ)
    | .ladd => q2 st (fun x y r => go (i + 1) L (.long (x + y) :: r) σ)
    | .lsub => q2 st (fun x y r => go (i + 1) L (.long (x - y) :: r) σ)
    | .lmul => q2 st (fun x y r => go (i + 1) L (.long (x * y) :: r) σ)
    | .ldiv => q2 st (fun x y r => gif (y = 0) inferInstance none (go (i + 1) L (.long (x / y) :: r) σ))
    | .lrem => q2 st (fun x y r => gif (y = 0) inferInstance none (go (i + 1) L (.long (x - x / y * y) :: r) σ))
    | .lor => q2 st (fun x y r => go (i + 1) L (.long (x ||| y) :: r) σ)
    | .lshl => q3 st (fun x y r => go (i + 1) L (.long (x <<< (y.toInt64 &&& 63)) :: r) σ)
    | .lcmp => q2 st (fun x y r => go (i + 1) L (.int (lg_cmp x y) :: r) σ)
    | .i2l => p1 st (fun x r => go (i + 1) L (.long x.toInt64 :: r) σ)
    | .l2i => q1 st (fun x r => go (i + 1) L (.int x.toInt32 :: r) σ)
    | .i2b => p1 st (fun x r => go (i + 1) L (.int x.toInt8.toInt32 :: r) σ)
    | .i2s => p1 st (fun x r => go (i + 1) L (.int x.toInt16.toInt32 :: r) σ)
    | .i2c => p1 st (fun x r => go (i + 1) L (.int (x.toUInt32 % 65536).toInt32 :: r) σ)
    | .dup => d1 st (fun x r => go (i + 1) L (x :: x :: r) σ)
    | .dup2 => d1 st (fun x r => d1 r (fun z r => go (i + 1) L (x :: z :: x :: z :: r) σ))
    | .pop => d1 st (fun _ r => go (i + 1) L r σ)
    | .goto _ => go a L st σ
    | .ifCond o _ => p1 st (fun x r => match o with
        | .eq => gif (x = 0) inferInstance (lgo a L r σ) (go (i + 1) L r σ)
        | .ne => gif (x = 0) inferInstance (lgo (i + 1) L r σ) (go a L r σ)
        | .lt => gif (x < 0) inferInstance (lgo a L r σ) (go (i + 1) L r σ)
        | .ge => gif (x < 0) inferInstance (lgo (i + 1) L r σ) (go a L r σ)
        | .gt => gif (0 < x) inferInstance (lgo a L r σ) (go (i + 1) L r σ)
        | .le => gif (0 < x) inferInstance (lgo (i + 1) L r σ) (go a L r σ))
    | .if_icmp o _ => p2 st (fun x y r => match o with
        | .eq => gif (x = y) inferInstance (lgo a L r σ) (go (i + 1) L r σ)
        | .ne => gif (x = y) inferInstance (lgo (i + 1) L r σ) (go a L r σ)
        | .lt => gif (x < y) inferInstance (lgo a L r σ) (go (i + 1) L r σ)
        | .ge => gif (x < y) inferInstance (lgo (i + 1) L r σ) (go a L r σ)
        | .gt => gif (y < x) inferInstance (lgo a L r σ) (go (i + 1) L r σ)
        | .le => gif (y < x) inferInstance (lgo (i + 1) L r σ) (go a L r σ))
    | .tableswitch .. => p1 st (fun x r => swc x L r σ a ts)
    | .lookupswitch .. => p1 st (fun x r => swc x L r σ a ts)
    | .ireturn => match st with
      | [.int x] => if a = 0 then rtn (x, 0, σ) else gif (nok a x = true) inferInstance (some (.inr (.inr (x, 0, σ)))) no
      | _ => no
    | .lreturn => match st with
      | [.long x] => rtn (0, x, σ)
      | _ => no
    | .return_ => match st with
      | [] => rtn (0, 0, σ)
      | _ => no
    | _ => no
abbrev KT : Type := Nat → Nat → Nat → List Value → List Value → Sto → Option Rs
/-- what comes, with K for the rest of the method (from i on; the locals L) and for the called ones -/
def lfK (K : KT) (K' : Nat → List Value → List Value → Sto → Option Rs) (i : Nat) (L : List Value) (o : Option Lf) : Option Rs := match o with
  | none => none
  | some (.inl (i', L', st', σ')) => K' i' L' st' σ'
  | some (.inr (.inl (y', k', as, σ', kk))) => (K y' k' 0 (ent y' as) [] σ').bind fun r => K' (i + 1) L (kk r) r.2.2
  | some (.inr (.inr r)) => some r
def fold (K : KT) (K' : Nat → List Value → List Value → Sto → Option Rs) (i : Nat) (L : List Value) (z : Option Lf) : List (Gd × Option Lf) → Option Rs
  | [] => lfK K K' i L z
  | g :: gs => @ite _ g.1.1 g.1.2 (lfK K K' i L g.2) (fold K K' i L z gs)
/-- one step, with K for what comes behind it -/
def stepF (Sh : Nat → Option Cs) (K : KT) : KT := fun y k i L st σ => fold K (K y k) i L (act Sh y k i L st σ).2 (act Sh y k i L st σ).1
def run (Sh : Nat → Option Cs) : Nat → KT
  | 0 => fun _ _ _ _ _ _ => none
  | n + 1 => stepF Sh (run Sh n)
def stp (K K' : Nat → List Value → List Value → Sto → Option Rs) (stops : List Nat) (i : Nat) (L st : List Value) (σ : Sto) : Option Rs := match memb stops i with
  | true => K i L st σ
  | false => K' i L st σ
def fold1 (K : KT) (K' : Nat → List Value → List Value → Sto → Option Rs) (i : Nat) (L : List Value) (d : DL) : Option Rs := fold K K' i L d.2 d.1
/-- n steps from here on, or fewer, till one of the stops; with K for what comes behind -/
def unr (Sh : Nat → Option Cs) (K : KT) (stops : List Nat) (y k : Nat) : Nat → Nat → List Value → List Value → Sto → Option Rs
  | 0 => K y k
  | n + 1 => fun i L st σ => fold1 K (stp (K y k) (unr Sh K stops y k n) stops) i L (act Sh y k i L st σ)
end
section
/-! CHECKS: what the tables say is what the bytes and the words say -/
def TT : List Jvm.Cond := lw_tbl.filter goodWord
theorem inTT {p : Nat} {w : Jvm.Cond} (h : nth lw_tbl p = some w) (hg : goodWord w = true) : w ∈ TT := by
  have key : ∀ (l : List Jvm.Cond) (p : Nat), nth l p = some w → w ∈ l := by
    intro l
    induction l with
    | nil => intro p h; cases h
    | cons a l ih =>
      intro p h
      cases p with
      | zero => cases h; exact List.mem_cons_self
      | succ p => exact List.mem_cons_of_mem _ (ih p h)
  exact List.mem_filter.mpr ⟨key _ _ h, hg⟩
theorem goodTT : GoodIn TT TT := fun _ h => ⟨h, good_of_word (List.mem_filter.mp h).2⟩
def strK : List (Nat × String) := [(112, "gaps"), (118, "likes"), (120, "walks"), (122, "or"), (124, "and"), (126, "not"), (128, "place"), (130, "waited"), (132, "hour"), (134, "seen"), (136, "fetched"), (138, "more")]
def eOf : Option FieldType → Nat
  | none => 0
  | some .long => 2
  | some _ => 1
def narK : Option FieldType → Nat → Bool
  | some .int, 0 => true
  | some .boolean, 1 => true
  | some .byte, 2 => true
  | some .char, 3 => true
  | _, _ => false
def mAt (y i : Nat) (z : Int) : Bool := match fetch y i with
  | some r => decide ((r.2.1 : Int) = z)
  | none => false
def ftC (y i q n len : Nat) : Bool := decide (n = len) && mAt y (i + 1) ((q + len : Nat) : Int)
def wC (p : Nat) (w : Jvm.Cond) : Bool := match nth lw_tbl p with
  | some w' => decide (w' = w)
  | none => false
def tsC (y : Nat) (q : Nat) (lo : Int) : Nat → List (Int32 × Nat) → List Int → Bool
  | _, [], [] => true
  | j, t :: ts, off :: offs => decide (t.1.toInt = lo + (j : Nat)) && mAt y t.2 (q + off) && tsC y q lo (j + 1) ts offs
  | _, _, _ => false
def lsC (y : Nat) (q : Nat) : List (Int32 × Nat) → List (Int × Int) → Bool
  | [], [] => true
  | t :: ts, pr :: prs => decide (t.1.toInt = pr.1) && mAt y t.2 (q + pr.2) && lsC y q ts prs
  | _, _ => false
def fldC (own : String) (idx p a b : Nat) (wr : Bool) (d : Nat) : Bool := match nth qcl a with
  | some (C, T, N) => decide (b < N) && decide ((T b).1 = C) && wC p (.fieldLink own idx C (T b).2.1 (T b).2.2.1) && (!wr || (decide ((T b).2.2.2 = false) && decide ((T b).2.2.1 = if d = 0 then "I" else "Z")))
  | none => false
def clsC (f : Nat) (C : String) : Bool := if f = 50 then decide (C = "java/lang/String") else match nth qcl f with
  | some q => decide (C = q.1)
  | none => false
def callC (t : MI) (own : String) (idx a b d e f p : Nat) (ts : List (Int32 × Nat)) : Bool := match mi? a with
  | none => false
  | some t' => decide (a ≠ kLaw) && decide (e = eOf t'.2.2.2.1) && (if d = 2 then decide (own = "FerryForAlone$Strand") && decide (idx = 51) && decide (t'.1 = ⟨"FerryForAlone", "within", "(III)Z"⟩) else wC p (.methodLink own idx t'.1)) &&
    (if d = 0 then decide (t'.2.2.2.2.1 = false) && decide (b = t'.2.2.2.2.2.1 + 1) && clsC f t'.1.cls && (match ts with
      | [] => decide (t'.2.2.2.2.2.2.1 < t.2.2.2.2.2.2.1)
      | _ :: _ => decide (t'.2.2.2.2.2.2.1 < t.2.2.2.2.2.2.1 + 20))
    else decide (t'.2.2.2.2.1 = true) && decide (b = t'.2.2.2.2.2.1) && decide (t'.2.2.2.2.2.2.1 < t.2.2.2.2.2.2.1))
def chkK (t : MI) (y i q a b d e f p : Nat) (v : Int32) (w : Int64) (ts : List (Int32 × Nat)) (n : Nat) (I : Instr) : Bool := match I with
  | .aload_n _ | .iload_n _ | .lload_n _ => ftC y i q n 1
  | .iload _ | .lload _ => ftC y i q n 2
  | .istore_n k => ftC y i q n 1 && decide (k.val < t.2.2.1)
  | .istore k => ftC y i q n 2 && decide (k < t.2.2.1)
  | .lstore_n k => ftC y i q n 1 && decide (k.val + 1 < t.2.2.1)
  | .lstore k => ftC y i q n 2 && decide (k + 1 < t.2.2.1)
  | .iinc k z => ftC y i q n 3 && decide (k < t.2.2.1) && decide (Int32.ofInt z = v)
  | .iconst z => ftC y i q n 1 && decide (Int32.ofInt z = v)
  | .bipush z => ftC y i q n 2 && decide ((Int8.ofInt z).toInt32 = v)
  | .sipush z => ftC y i q n 3 && decide ((Int16.ofInt z).toInt32 = v)
  | .ldc idx => ftC y i q n 2 && (if a = 1 then decide (t.1.cls = "FerryForAlone$Reader") && decide (100 ≤ b) && (match nth strK (b - 100) with
      | some s => decide (s.1 = idx)
      | none => false) else wC p (.constant t.1.cls idx v))
  | .ldc_w idx => ftC y i q n 3 && wC p (.constant t.1.cls idx v)
  | .ldc2_w idx => ftC y i q n 3 && wC p (.constantLong t.1.cls idx w)
  | .lconst z => ftC y i q n 1 && decide (Int64.ofNat z.val = w)
  | .getfield idx => ftC y i q n 3 && (if a = 50 then wC p (.fieldLink t.1.cls idx "java/lang/String" "value" "[B") else if a = 51 then wC p (.fieldLink t.1.cls idx "java/lang/String" "coder" "B") else fldC t.1.cls idx p a b false d)
  | .putfield idx => ftC y i q n 3 && fldC t.1.cls idx p a b true d
  | .getstatic idx => ftC y i q n 3 && (if a = 1 then decide (v = 1) && wC p (.fieldLink t.1.cls idx "java/lang/String" "COMPACT_STRINGS" "Z") else if a = 2 then wC p (.fieldLink t.1.cls idx "jdk/internal/util/Preconditions" "SIOOBE_FORMATTER" "Ljava/util/function/BiFunction;") else true)
  | .iaload | .arraylength => ftC y i q n 1 && (if a = 1 then decide (y = kLaw) else true)
  | .baload | .iastore | .bastore | .iadd | .isub | .imul | .idiv | .irem | .ineg | .iand | .ior | .ixor | .ishl | .ishr | .iushr | .ladd | .lsub | .lmul | .ldiv | .lrem | .lor | .lshl | .lcmp | .i2l | .l2i | .i2b | .i2s | .i2c | .dup | .dup2 | .pop => ftC y i q n 1
  | .invokevirtual idx => if d = 0 then ftC y i q n 3 && callC t t.1.cls idx a b d e f p ts else true
  | .invokestatic idx => if d = 3 then ftC y i q n 3 && wC p (.methodLink t.1.cls idx arraycopyName) else if d = 4 then ftC y i q n 3 && wC p (.methodLink t.1.cls idx Lib.Math.abs.name) else if d = 5 then ftC y i q n 3 && wC p (.methodLink t.1.cls idx Lib.Math.max.name) else if d = 6 then ftC y i q n 3 && wC p (.methodLink t.1.cls idx Lib.Math.min.name) else if d = 1 ∨ d = 2 then ftC y i q n 3 && callC t t.1.cls idx a b d e f p ts else true
  | .goto off => decide (n = 3) && mAt y a (q + off)
  | .ifCond _ off | .if_icmp _ off => ftC y i q n 3 && mAt y a (q + off)
  | .tableswitch dflt lo hi offs => mAt y a (q + dflt) && tsC y q lo 0 ts offs.toList && decide (hi = lo + (offs.size : Int) - 1)
  | .lookupswitch dflt ps => mAt y a (q + dflt) && lsC y q ts ps.toList && (ps.toList.zip (ps.toList.drop 1)).all (fun (a, next) => a.1 < next.1)
  | .ireturn => decide (n = 1) && narK t.2.2.2.1 a
  | .lreturn => decide (n = 1) && decide (t.2.2.2.1 = some .long)
  | .return_ => decide (n = 1) && decide (t.2.2.2.1 = none)
  | _ => true
def chkI (t : MI) (y i : Nat) (r : RI) : Bool := match r with
  | (I, q, a, b, d, e, f, p, v, w, ts) => match decode t.2.1 q with
    | .error _ => false
    | .ok (J, n) => decide (J = I) && chkK t y i q a b d e f p v w ts n I
def chk (y i : Nat) : Bool := match mi? y with
  | none => true
  | some t => match fetch y i with
    | none => true
    | some r => chkI t y i r
/-- all instructions of the chunks lo .. lo + n - 1 of a method -/
def chkR (y lo : Nat) : Nat → Bool
  | 0 => true
  | n + 1 => chk y lo && chkR y (lo + 1) n
end
section
/-! WORLDS: where the cells lie; what a store is in the heap -/
abbrev Geo : Type := (Nat → Nat) × (Nat → ClassId) × va_G × (Nat → Nat) × (Nat → Nat) × Value
def cr (G : Geo) (c : Nat) : Value := if c < 100 then .ref (G.1 c) else if c < 200 then .ref (G.2.2.2.1 (c - 100)) else if c < 300 then .ref (G.2.2.2.2.1 (c - 200)) else G.2.2.2.2.2
def cv (G : Geo) (v : Value) : Value := match v with
  | .ref c => cr G c
  | v => v
theorem cr_cat {G : Geo} (hF : G.2.2.2.2.2.category = 1) (c : Nat) : (cr G c).category = 1 := by
  unfold cr
  split
  · rfl
  · split
    · rfl
    · split
      · rfl
      · exact hF
theorem cv_cat {G : Geo} (hF : G.2.2.2.2.2.category = 1) (v : Value) : (cv G v).category = v.category := by
  cases v <;> first | rfl | exact cr_cat hF _
theorem cv_sum {G : Geo} (hF : G.2.2.2.2.2.category = 1) (l : List Value) : ((l.map (cv G)).map fun v => v.category).sum = (l.map fun v => v.category).sum := by
  induction l with
  | nil => rfl
  | cons a l ih => simp only [List.map_cons, List.sum_cons, ih, cv_cat hF]
theorem cr_lo {G : Geo} {c : Nat} (h : c < 100) : cr G c = .ref (G.1 c) := if_pos h
/-! locals -/
def hL (G : Geo) (ls : Array Slot) (nL : Nat) (L : List Value) : Prop := ls.size = nL ∧ lv_wf ls ∧ ∀ (i : Nat) (v : Value), nth L i = some v → v ≠ .null → ls[i]? = some (.val (cv G v))
def asL (G : Geo) : Nat → List Value → List (Nat × Value)
  | _, [] => []
  | i, v :: l => if v = .null then asL G (i + 1) l else (i, cv G v) :: asL G (i + 1) l
theorem asL_mem {G : Geo} {q : Nat × Value} : ∀ (L : List Value) (i : Nat), q ∈ asL G i L ↔ ∃ (j : Nat) (v : Value), nth L j = some v ∧ v ≠ .null ∧ q = (i + j, cv G v) := by
  intro L
  induction L with
  | nil => intro i; simp [asL, nth]
  | cons a l ih =>
    intro i
    unfold asL
    by_cases h : a = .null
    · rw [if_pos h, ih]
      constructor
      · rintro ⟨j, v, h1, h2, rfl⟩
        exact ⟨j + 1, v, h1, h2, by rw [show i + (j + 1) = i + 1 + j by omega]⟩
      · rintro ⟨j, v, h1, h2, rfl⟩
        cases j with
        | zero => cases h1; exact absurd h h2
        | succ j => exact ⟨j, v, h1, h2, by rw [show i + (j + 1) = i + 1 + j by omega]⟩
    · rw [if_neg h, List.mem_cons, ih]
      constructor
      · rintro (rfl | ⟨j, v, h1, h2, rfl⟩)
        · exact ⟨0, a, rfl, h, rfl⟩
        · exact ⟨j + 1, v, h1, h2, by rw [show i + (j + 1) = i + 1 + j by omega]⟩
      · rintro ⟨j, v, h1, h2, rfl⟩
        cases j with
        | zero => cases h1; exact Or.inl rfl
        | succ j => exact Or.inr ⟨j, v, h1, h2, by rw [show i + (j + 1) = i + 1 + j by omega]⟩
theorem hL.has {G : Geo} {ls : Array Slot} {nL : Nat} {L : List Value} (h : hL G ls nL L) : lv_has ls nL (asL G 0 L) :=
  ⟨h.1, h.2.1, fun q hq => by
    obtain ⟨j, v, h1, h2, rfl⟩ := (asL_mem L 0).mp hq
    simpa using h.2.2 j v h1 h2⟩
theorem nth_st1 : ∀ (L : List Value) (i : Nat) (v : Value) (j : Nat) (w : Value), nth (st1 L i v) j = some w →
    (j = i ∧ w = v) ∨ (j + 1 = i ∧ ∃ u, nth L j = some u ∧ w = dl u) ∨ (j ≠ i ∧ j + 1 ≠ i ∧ nth L j = some w) := by
  intro L
  induction L with
  | nil => intro i v j w h; cases i <;> simp [st1, nth] at h
  | cons a l ih =>
    intro i v j w h
    match i, j with
    | 0, 0 => cases h; exact Or.inl ⟨rfl, rfl⟩
    | 0, j + 1 => exact Or.inr (Or.inr ⟨by omega, by omega, h⟩)
    | 1, 0 => cases h; exact Or.inr (Or.inl ⟨rfl, a, rfl, rfl⟩)
    | 1, j + 1 =>
      rcases ih 0 v j w h with ⟨h1, h2⟩ | ⟨h1, -⟩ | ⟨h1, h2, h3⟩
      · exact Or.inl ⟨by omega, h2⟩
      · omega
      · exact Or.inr (Or.inr ⟨by omega, by omega, h3⟩)
    | n + 2, 0 => exact Or.inr (Or.inr ⟨by omega, by omega, h⟩)
    | n + 2, j + 1 =>
      rcases ih (n + 1) v j w h with ⟨h1, h2⟩ | ⟨h1, h2⟩ | ⟨h1, h2, h3⟩
      · exact Or.inl ⟨by omega, h2⟩
      · exact Or.inr (Or.inl ⟨by omega, h2⟩)
      · exact Or.inr (Or.inr ⟨by omega, by omega, h3⟩)
theorem nth_st2 : ∀ (L : List Value) (i : Nat) (v : Value) (j : Nat) (w : Value), nth (st2 L i v) j = some w → w ≠ .null →
    (j = i ∧ w = v) ∨ (j + 1 = i ∧ ∃ u, nth L j = some u ∧ w = dl u) ∨ (j ≠ i ∧ j ≠ i + 1 ∧ j + 1 ≠ i ∧ nth L j = some w) := by
  intro L
  induction L with
  | nil => intro i v j w h; cases i <;> simp [st2, nth] at h
  | cons a l ih =>
    intro i v j w h hw
    match i, j with
    | 0, 0 => cases h; exact Or.inl ⟨rfl, rfl⟩
    | 0, j + 1 =>
      cases l with
      | nil => cases h
      | cons b l =>
        cases j with
        | zero => cases h; exact absurd rfl hw
        | succ j => exact Or.inr (Or.inr ⟨by omega, by omega, by omega, h⟩)
    | 1, 0 => cases h; exact Or.inr (Or.inl ⟨rfl, a, rfl, rfl⟩)
    | 1, j + 1 =>
      rcases ih 0 v j w h hw with ⟨h1, h2⟩ | ⟨h1, -⟩ | ⟨h1, h2, h3, h4⟩
      · exact Or.inl ⟨by omega, h2⟩
      · omega
      · exact Or.inr (Or.inr ⟨by omega, by omega, by omega, h4⟩)
    | n + 2, 0 => exact Or.inr (Or.inr ⟨by omega, by omega, by omega, h⟩)
    | n + 2, j + 1 =>
      rcases ih (n + 1) v j w h hw with ⟨h1, h2⟩ | ⟨h1, h2⟩ | ⟨h1, h2, h3, h4⟩
      · exact Or.inl ⟨by omega, h2⟩
      · exact Or.inr (Or.inl ⟨by omega, h2⟩)
      · exact Or.inr (Or.inr ⟨by omega, by omega, by omega, h4⟩)
theorem dl_ne {u w : Value} (h : w = dl u) (hw : w ≠ .null) : w = u ∧ u.category ≠ 2 := by
  unfold dl at h
  by_cases hc : u.category = 2
  · rw [if_pos hc] at h; exact absurd h hw
  · rw [if_neg hc] at h; exact ⟨h, hc⟩
theorem hL.of1 {G : Geo} (hF : G.2.2.2.2.2.category = 1) {ls : Array Slot} {nL i : Nat} {L : List Value} {x : Value}
    (h : lv_has ls nL ((i, cv G x) :: (asL G 0 L).filter (fun q => !(q.1 == i) && !(q.1 + 1 == i && q.2.category == 2)))) : hL G ls nL (st1 L i x) := by
  refine ⟨h.1, h.2.1, fun j w hj hw => ?_⟩
  rcases nth_st1 L i x j w hj with ⟨rfl, rfl⟩ | ⟨h1, u, h2, h3⟩ | ⟨h1, h2, h3⟩
  · exact h.2.2 (j, cv G w) List.mem_cons_self
  · obtain ⟨rfl, hc⟩ := dl_ne h3 hw
    refine h.2.2 (j, cv G w) (List.mem_cons_of_mem _ (List.mem_filter.mpr ⟨(asL_mem L 0).mpr ⟨j, w, h2, hw, by simp⟩, ?_⟩))
    have h4 : ¬ j = i := by omega
    have h5 : ¬ (cv G w).category = 2 := by rw [cv_cat hF]; exact hc
    simp [h4, h5]
  · refine h.2.2 (j, cv G w) (List.mem_cons_of_mem _ (List.mem_filter.mpr ⟨(asL_mem L 0).mpr ⟨j, w, h3, hw, by simp⟩, ?_⟩))
    simp [h1, h2]
theorem hL.of2 {G : Geo} (hF : G.2.2.2.2.2.category = 1) {ls : Array Slot} {nL i : Nat} {L : List Value} {x : Value}
    (h : lv_has ls nL ((i, cv G x) :: (asL G 0 L).filter (fun q => !(q.1 == i) && (!(q.1 == i + 1) && !(q.1 + 1 == i && q.2.category == 2))))) : hL G ls nL (st2 L i x) := by
  refine ⟨h.1, h.2.1, fun j w hj hw => ?_⟩
  rcases nth_st2 L i x j w hj hw with ⟨rfl, rfl⟩ | ⟨h1, u, h2, h3⟩ | ⟨h1, h2, h3, h4⟩
  · exact h.2.2 (j, cv G w) List.mem_cons_self
  · obtain ⟨rfl, hc⟩ := dl_ne h3 hw
    refine h.2.2 (j, cv G w) (List.mem_cons_of_mem _ (List.mem_filter.mpr ⟨(asL_mem L 0).mpr ⟨j, w, h2, hw, by simp⟩, ?_⟩))
    have h4 : ¬ j = i := by omega
    have h6 : ¬ j = i + 1 := by omega
    have h5 : ¬ (cv G w).category = 2 := by rw [cv_cat hF]; exact hc
    simp [h4, h5, h6]
  · refine h.2.2 (j, cv G w) (List.mem_cons_of_mem _ (List.mem_filter.mpr ⟨(asL_mem L 0).mpr ⟨j, w, h4, hw, by simp⟩, ?_⟩))
    simp [h1, h2, h3]
/-- the locals at the entry -/
theorem nth_pad : ∀ (n : Nat) (l : List Value) (j : Nat) (w : Value), nth (pad n l) j = some w → w ≠ .null → nth l j = some w := by
  intro n
  induction n with
  | zero => intro l j w h _; exact h
  | succ n ih =>
    intro l j w h hw
    match l, j with
    | [], 0 => cases h; exact absurd rfl hw
    | [], j + 1 => exact absurd (ih [] j w h hw) (by simp [nth])
    | a :: l, 0 => exact h
    | a :: l, j + 1 => exact ih l j w h hw
theorem nth_wide {G : Geo} (hF : G.2.2.2.2.2.category = 1) : ∀ (l : List Value) (i j : Nat) (w : Value), nth (wide l) j = some w → w ≠ .null → (i + j, cv G w) ∈ lv_args i (l.map (cv G)) := by
  intro l
  induction l with
  | nil => intro i j w h; cases h
  | cons a l ih =>
    intro i j w h hw
    unfold wide at h
    simp only [List.map_cons, lv_args, cv_cat hF]
    by_cases hc : a.category = 2
    · rw [if_pos hc] at h
      simp only [hc, if_true]
      match j with
      | 0 => cases h; exact List.mem_cons_self
      | 1 => cases h; exact absurd rfl hw
      | j + 2 =>
        refine List.mem_cons_of_mem _ ?_
        rw [show i + (j + 2) = i + 2 + j by omega]
        exact ih (i + 2) j w h hw
    · rw [if_neg hc] at h
      simp only [hc, if_false]
      match j with
      | 0 => cases h; exact List.mem_cons_self
      | j + 1 =>
        refine List.mem_cons_of_mem _ ?_
        rw [show i + (j + 1) = i + 1 + j by omega]
        exact ih (i + 1) j w h hw
theorem wide_len {G : Geo} (hF : G.2.2.2.2.2.category = 1) (l : List Value) : (lg_sl (l.map (cv G))).length = (wide l).length := by
  induction l with
  | nil => rfl
  | cons a l ih =>
    unfold lg_sl at ih
    unfold wide
    simp only [lg_sl, List.map_cons, List.flatMap_cons, cv_cat hF, List.length_append, ih]
    by_cases hc : a.category = 2
    · simp [hc]; omega
    · simp [hc]; omega
theorem hL.entry {G : Geo} (hF : G.2.2.2.2.2.category = 1) {as : List Value} {y n : Nat} (hn : mx y = n) (h : (wide as).length ≤ n) :
    hL G ((lg_sl (as.map (cv G)) ++ List.replicate (n - (lg_sl (as.map (cv G))).length) Slot.unset).toArray) n (ent y as) := by
  have hl := lv_entry (as.map (cv G)) (n := n) (by rw [wide_len hF]; exact h)
  refine ⟨hl.1, hl.2.1, fun j w hj hw => ?_⟩
  have h1 := nth_wide hF as 0 j w (nth_pad _ _ j w hj hw) hw
  rw [Nat.zero_add] at h1
  exact hl.2.2 _ h1
/-! the heap -/
def fieldV (G : Geo) (x : Int32) (o : Option Nat) : Value := match o with
  | none => .int x
  | some c => cr G c
def wF (G : Geo) (r : Nat → Int32) : Nat → List (Option Nat) → List Value
  | _, [] => []
  | j, o :: ks => fieldV G (r j) o :: wF G r (j + 1) ks
theorem wF_get {G : Geo} {r : Nat → Int32} : ∀ (ks : List (Option Nat)) (j b : Nat) (o : Option Nat), nth ks b = some o → (wF G r j ks)[b]? = some (fieldV G (r (j + b)) o) := by
  intro ks
  induction ks with
  | nil => intro j b o h; cases h
  | cons a ks ih =>
    intro j b o h
    cases b with
    | zero => cases h; rfl
    | succ b =>
      have h1 := ih (j + 1) b o h
      rw [show j + 1 + b = j + (b + 1) by omega] at h1
      exact h1
theorem wF_congr {G : Geo} {r r' : Nat → Int32} : ∀ (ks : List (Option Nat)) (j : Nat), (∀ i, j ≤ i → r i = r' i) → wF G r j ks = wF G r' j ks := by
  intro ks
  induction ks with
  | nil => intro j _; rfl
  | cons a ks ih =>
    intro j h
    unfold wF
    rw [h j (Nat.le_refl j), ih (j + 1) (fun i hi => h i (by omega))]
theorem wF_len {G : Geo} {r : Nat → Int32} : ∀ (ks : List (Option Nat)) (j : Nat), (wF G r j ks).length = ks.length := by
  intro ks
  induction ks with
  | nil => intro j; rfl
  | cons a ks ih => intro j; simp [wF, ih]
theorem nth_lt {α : Type} : ∀ (l : List α) (b : Nat) (o : α), nth l b = some o → b < l.length := by
  intro l
  induction l with
  | nil => intro b o h; cases h
  | cons a l ih =>
    intro b o h
    cases b with
    | zero => simp
    | succ b => have := ih b o h; simp; omega
theorem nth_get {α : Type} : ∀ (l : List α) (b : Nat), nth l b = l[b]? := by
  intro l
  induction l with
  | nil => intro b; simp [nth]
  | cons a l ih =>
    intro b
    cases b with
    | zero => rfl
    | succ b => simpa [nth] using ih b
theorem upd_s {f : Nat → Int32} {i : Nat} {v : Int32} : upd f i v i = v := if_pos rfl
theorem upd_n {f : Nat → Int32} {i j : Nat} {v : Int32} (h : j ≠ i) : upd f i v j = f j := if_neg h
theorem wF_set {G : Geo} {r : Nat → Int32} {v : Int32} : ∀ (ks : List (Option Nat)) (j b : Nat), nth ks b = some none → (wF G r j ks).set b (.int v) = wF G (upd r (j + b) v) j ks := by
  intro ks
  induction ks with
  | nil => intro j b h; cases h
  | cons a ks ih =>
    intro j b h
    cases b with
    | zero =>
      cases h
      show Value.int v :: wF G r (j + 1) ks = .int (upd r j v j) :: wF G (upd r j v) (j + 1) ks
      rw [upd_s, wF_congr (r := r) (r' := upd r j v) ks (j + 1) (fun i hi => (upd_n (by omega)).symm)]
    | succ b =>
      show fieldV G (r j) a :: (wF G r (j + 1) ks).set b (.int v) = fieldV G (upd r (j + (b + 1)) v j) a :: wF G (upd r (j + (b + 1)) v) (j + 1) ks
      rw [ih (j + 1) b h, upd_n (by omega), show j + 1 + b = j + (b + 1) by omega]
def wE (G : Geo) (Sh : Nat → Option Cs) (σ : Sto) (c : Nat) : va_E := match Sh c with
  | some (.inl (ci, ks)) => .inr (ci, wF G (σ c) 0 ks)
  | some (.inr (_, n)) => .inl (G.2.1 c, n, .inl (σ c))
  | none => .inr (0, [])
def wW (G : Geo) (Sh : Nat → Option Cs) (cs : List Nat) (σ : Sto) : va_W := cs.map fun c => (G.1 c, wE G Sh σ c)
def tyc (Sh : Nat → Option Cs) (c : Nat) : FieldType := match Sh c with
  | some (.inr (true, _)) => .boolean
  | _ => .int
def tysW (G : Geo) (Sh : Nat → Option Cs) (cs : List Nat) : List (ClassId × FieldType) := cs.map fun c => (G.2.1 c, tyc Sh c)
theorem wW_at {G : Geo} {Sh : Nat → Option Cs} {cs : List Nat} {σ : Sto} {p c : Nat} (h : cs[p]? = some c) : (wW G Sh cs σ)[p]? = some (G.1 c, wE G Sh σ c) := by
  unfold wW
  rw [List.getElem?_map, h]
  rfl
theorem tysW_at {G : Geo} {Sh : Nat → Option Cs} {cs : List Nat} {p c : Nat} (h : cs[p]? = some c) : (tysW G Sh cs)[p]? = some (G.2.1 c, tyc Sh c) := by
  unfold tysW
  rw [List.getElem?_map, h]
  rfl
theorem wW_back {G : Geo} {Sh : Nat → Option Cs} {cs : List Nat} {σ : Sto} {p : Nat} {q : Nat × va_E} (h : (wW G Sh cs σ)[p]? = some q) : ∃ c, cs[p]? = some c ∧ q = (G.1 c, wE G Sh σ c) := by
  unfold wW at h
  rw [List.getElem?_map] at h
  cases hc : cs[p]? with
  | none => rw [hc] at h; cases h
  | some c => rw [hc] at h; cases h; exact ⟨c, rfl, rfl⟩
theorem su_row {σ : Sto} {c i : Nat} {v : Int32} : su σ c i v c = upd (σ c) i v := if_pos rfl
theorem su_ne {σ : Sto} {c i c' : Nat} {v : Int32} (h : c' ≠ c) : su σ c i v c' = σ c' := if_neg h
theorem wE_row {G : Geo} {Sh : Nat → Option Cs} {σ σ' : Sto} {c : Nat} (h : σ' c = σ c) : wE G Sh σ' c = wE G Sh σ c := by
  unfold wE
  rw [h]
/-- a world in which one cell has changed -/
theorem wW_set {G : Geo} {Sh : Nat → Option Cs} {cs : List Nat} {σ σ' : Sto} {p c : Nat} {e : va_E} (hn : cs.Nodup) (hp : cs[p]? = some c) (he : e = wE G Sh σ' c) (ho : ∀ c', c' ≠ c → σ' c' = σ c') :
    (wW G Sh cs σ).set p (G.1 c, e) = wW G Sh cs σ' := by
  subst he
  apply List.ext_getElem?
  intro q
  rw [List.getElem?_set]
  by_cases hq : p = q
  · subst hq
    rw [if_pos rfl, if_pos (by
      have := (List.getElem?_eq_some_iff.mp hp).1
      simpa [wW] using this), wW_at hp]
  · rw [if_neg hq]
    unfold wW
    rw [List.getElem?_map, List.getElem?_map]
    cases hc : cs[q]? with
    | none => rfl
    | some c' =>
      have hne : c' ≠ c := by
        intro h
        subst h
        exact hq ((List.getElem?_inj (List.getElem?_eq_some_iff.mp hp).1 hn).mp (hp.trans hc.symm))
      show some (G.1 c', wE G Sh σ c') = some (G.1 c', wE G Sh σ' c')
      rw [wE_row (ho c' hne)]
theorem va_D_any {G : Geo} {Sh : Nat → Option Cs} {cs : List Nat} {σ σ' : Sto} {A : Nat → Prop} (h : va_D A (wW G Sh cs σ)) : va_D A (wW G Sh cs σ') := by
  refine ⟨fun i j p q hi hj e => ?_, fun k q hk => ?_⟩
  · obtain ⟨c, hc, rfl⟩ := wW_back hi
    obtain ⟨c', hc', rfl⟩ := wW_back hj
    exact h.1 i j _ _ (wW_at hc) (wW_at hc') e
  · obtain ⟨c, hc, rfl⟩ := wW_back hk
    have h1 := h.2 k _ (wW_at (σ := σ) hc)
    exact h1
theorem va_A_any {G : Geo} {Sh : Nat → Option Cs} {cs : List Nat} {σ : Sto} (σ' : Sto) {sz q : Nat} (h : va_A (wW G Sh cs σ) sz q) : va_A (wW G Sh cs σ') sz q := by
  rcases h with ⟨k, e, hk⟩ | h
  · obtain ⟨c, hc, h2⟩ := wW_back hk
    have h3 : q = G.1 c := congrArg Prod.fst h2
    exact Or.inl ⟨k, wE G Sh σ' c, by rw [h3]; exact wW_at hc⟩
  · exact Or.inr h
end
section
/-! what lies outside the world: String constants, two static fields, a word of the nest -/
def lenL : List Nat := byteL.map List.length
def nestW : Jvm.Cond := .methodLinkNest "FerryForAlone$Strand" 51 ⟨"FerryForAlone", "within", "(III)Z"⟩ "FerryForAlone"
def Ext (G : Geo) (A : Nat → Prop) (U : State) (H : Heap) : Prop :=
  vk_S 12 lenL byteL G.2.2.2.1 G.2.2.2.2.1 A U H ∧ (∀ (i : Nat) (q : Nat × String), nth strK i = some q → vk_R "FerryForAlone$Reader" q.1 q.2 (G.2.2.2.1 i) U) ∧
  va_Z "java/lang/String" "COMPACT_STRINGS" "Z" (.int 1) A U H ∧ va_Z "jdk/internal/util/Preconditions" "SIOOBE_FORMATTER" "Ljava/util/function/BiFunction;" G.2.2.2.2.2 A U H ∧ va_Nw nestW U ∧
  (G.2.2.2.2.2 = .null ∨ ∃ t : Nat, G.2.2.2.2.2 = .ref t)
theorem Ext.cat {G : Geo} {A : Nat → Prop} {U : State} {H : Heap} (h : Ext G A U H) : G.2.2.2.2.2.category = 1 := by
  rcases h.2.2.2.2.2 with h | ⟨t, h⟩ <;> rw [h] <;> rfl
theorem Ext.orNull {G : Geo} {A : Nat → Prop} {U : State} {H : Heap} (h : Ext G A U H) (c : Nat) : cr G c = .null ∨ ∃ t : Nat, cr G c = .ref t := by
  unfold cr
  split
  · exact Or.inr ⟨_, rfl⟩
  · split
    · exact Or.inr ⟨_, rfl⟩
    · split
      · exact Or.inr ⟨_, rfl⟩
      · exact h.2.2.2.2.2
theorem Ext.go {G : Geo} {A B : Nat → Prop} {s U : State} (h : Ext G A s s.heap) (hq : ∀ a : Nat, a < s.heap.size → ¬ A a → U.heap[a]? = s.heap[a]?) (hW : s.WarmedH U.vm) (hB : ∀ q, B q → A q) : Ext G B U U.heap :=
  ⟨((h.1.kept hq).moved hW.alike).narrow hB, fun i q hi => (h.2.1 i q hi).warm hW, ((h.2.2.1.kept hq).moved hW.alike).narrow hB, ((h.2.2.2.1.kept hq).moved hW.alike).narrow hB, va_Nw.warmM hW h.2.2.2.2.1, h.2.2.2.2.2⟩
theorem Ext.blind {G : Geo} {A : Nat → Prop} {U : State} {g : JFrame} {mk : MethodId} {a : Array Value} (h : Ext G A U U.heap) : Ext G A (U.calling g mk a) (U.calling g mk a).heap :=
  ⟨vk_S.moved (u := U) (U := U.calling g mk a) (Vm.Alike.refl U.vm) h.1, fun i q hi => vk_R.same (u := U) (U := U.calling g mk a) rfl (h.2.1 i q hi), va_Z.moved (u := U) (U := U.calling g mk a) (Vm.Alike.refl U.vm) h.2.2.1, va_Z.moved (u := U) (U := U.calling g mk a) (Vm.Alike.refl U.vm) h.2.2.2.1, va_Nw.same (U := U.calling g mk a) rfl rfl h.2.2.2.2.1, h.2.2.2.2.2⟩
theorem byteL_getD (i : Nat) : byteL.getD i [] = byteOf i := by
  unfold byteOf
  rw [nth_get, List.getD_eq_getElem?_getD]
  cases byteL[i]? <;> rfl
theorem lenL_getD (i : Nat) (h : i < 12) : lenL.getD i 0 = (byteOf i).length := by
  have h1 : ∀ i, i < 12 → lenL.getD i 0 = (byteOf i).length := by decide +kernel
  exact h1 i h
/-! contracts -/
def PreW (G : Geo) (Sh : Nat → Option Cs) (cs : List Nat) (σ : Sto) (sz : Nat) (U : State) : Prop :=
  U.heap.size = sz ∧ va_P G.2.2.1 qcl (wW G Sh cs σ) U.heap ∧ va_K G.2.2.1 qcl (tysW G Sh cs) U ∧ va_D (fun _ => True) (wW G Sh cs σ) ∧ Ext G (va_A (wW G Sh cs σ) sz) U U.heap
def retV (e : Nat) (r : Rs) : Option Value := match e with
  | 0 => none
  | 1 => some (.int r.1)
  | _ => some (.long r.2.1)
def QW (G : Geo) (Sh : Nat → Option Cs) (cs : List Nat) (σ : Sto) (sz e : Nat) (r : Rs) : Array Value → State → Outcome → State → Prop := fun _ st oc t =>
  oc = .returned (retV e r) ∧ va_P G.2.2.1 qcl (wW G Sh cs r.2.2) t.heap ∧ va_F (va_A (wW G Sh cs σ) sz) st t
def wsM (t : MI) : List Jvm.Cond := .code t.1 t.2.1 t.2.2.1 t.2.2.2.1 :: TT
def hgt (t : MI) (k : Nat) : Nat := t.2.2.2.2.2.2.1 + 20 * (6 - k)
def rmM (h : Nat) : Room := { frames := h, cells := 0, slots := 0, locals := 64 * h }
def MetP (l : Launch) (G : Geo) (Sh : Nat → Option Cs) (cs : List Nat) (y k : Nat) (as : List Value) (σ : Sto) (r : Rs) : Prop :=
  ∀ t, mi? y = some t → ∀ sz, Met l t.1 (wsM t) (rmM (hgt t k)) (va_Pc (as.map (cv G)) (PreW G Sh cs σ sz)) (QW G Sh cs σ sz (eOf t.2.2.2.1) r) 0 0 (va_A (wW G Sh cs σ) sz)
/-- what the words say of a method that is called -/
def mokP (t : MI) : Prop := Jvm.Cond.code t.1 t.2.1 t.2.2.1 t.2.2.2.1 ∈ TT ∧ (t.2.2.2.2.1 = true → Jvm.Cond.static t.1 ∈ TT) ∧ (t.2.2.2.2.1 = false → Jvm.Cond.instanceMethod t.1 ∈ TT ∧ Jvm.Cond.selects t.1.cls t.1 t.1 ∈ TT) ∧ Jvm.Cond.initialized t.1.cls ∈ TT ∧
  t.1.cls ≠ "java/lang/invoke/MethodHandle" ∧ t.1.cls ≠ "java/lang/invoke/VarHandle" ∧ (parseMethodDescriptor t.1.desc).map (fun d => d.parameters.length) = some t.2.2.2.2.2.1 ∧ plainName t.1.cls = true ∧ t.2.2.1 ≤ 40
/-- what the words say of the JDK's own methods that are taken whole -/
def natP : Prop := Jvm.Cond.native arraycopyName ∈ TT ∧ Jvm.Cond.static arraycopyName ∈ TT ∧ Jvm.Cond.initialized "java/lang/System" ∈ TT ∧ Jvm.Cond.initialized "java/lang/Math" ∈ TT ∧ (Jvm.Cond.static Lib.Math.abs.name ∈ TT ∧ Jvm.Cond.code Lib.Math.abs.name Lib.Math.abs.code 1 (some .int) ∈ TT) ∧
  (Jvm.Cond.static Lib.Math.max.name ∈ TT ∧ Jvm.Cond.code Lib.Math.max.name Lib.Math.max.code 2 (some .int) ∈ TT) ∧ (Jvm.Cond.static Lib.Math.min.name ∈ TT ∧ Jvm.Cond.code Lib.Math.min.name Lib.Math.min.code 2 (some .int) ∈ TT)
/-- the kinds: their fields' words, and types -/
def clsP : Prop := ∀ (a : Nat) (C : String) (T : u_T) (N : Nat), nth qcl a = some (C, T, N) → (∀ w ∈ u_ws C T N, w ∈ TT) ∧ ∃ ty : Nat → FieldType, (∀ k, k < N → parseFieldDescriptor (T k).2.2.1 = some (ty k)) ∧ ∀ a, a < N → ∀ b, b < N → a ≠ b → (T a).2.1 ≠ (T b).2.1
/-- what holds in a method's frame, all the way -/
def Ctx (p : Program) (s : State) (m : MethodId) (args : Array Value) (c : Code) (R : Room) (t : MI) (G : Geo) (Sh : Nat → Option Cs) (cs : List Nat) (A : Nat → Prop) (cells slots : Nat) : Prop :=
  p.tables.exec = Jvm.exec ∧ c.code = t.2.1 ∧ c.maxLocals = t.2.2.1 ∧ s.vm.findClass t.1.cls = some m.cls ∧ (∀ w ∈ TT, w.before args s = true) ∧ va_K G.2.2.1 qcl (tysW G Sh cs) s ∧ (∀ σ, va_D A (wW G Sh cs σ)) ∧
  (∀ q, s.heap.size ≤ q → A q) ∧ Ext G A s s.heap ∧ cs.Nodup ∧ (∀ c' s', Sh c' = some s' → c' ∈ cs ∧ c' < 49) ∧ cells ≤ R.cells ∧ slots ≤ R.slots ∧ clsP ∧ (∀ y t, mi? y = some t → y ≠ kLaw → mokP t) ∧ (∀ y i, chk y i = true)
section CALLW
variable {p : Program} {l : Launch} {e : Env} {R : Room} {s : State} {m : MethodId} {args : Array Value} {below : List Frame} {meth : Method} {c : Code} {H : Heap} {locs : List Loc} {cells slots : Nat} {Q : State → Prop}
/-- a call by contract -/
theorem dc_call {G : Geo} {Sh : Nat → Option Cs} {cs : List Nat} {σ : Sto} {r : Rs} {e' : Nat} {A0 free : Nat → Prop} {a : Array Value} {pc : Nat} {ls : Array Slot} {st0 rest : List Value}
    (hr : va_Run p l e R s m args below meth c H locs cells slots 0 0 (F0 m pc ls st0) rest (QW G Sh cs σ H.size e' r a) free) (hS : va_S A0 s.heap H locs) (hA : ∀ q, q < H.size → va_A (wW G Sh cs σ) H.size q → A0 q) (hf : ∀ q, free q → A0 q)
    (kk : ∀ (H1 : Heap) (locs1 : List Loc), va_P G.2.2.1 qcl (wW G Sh cs r.2.2) H1 → va_S A0 s.heap H1 locs1 → W p l e R s m args below meth c H1 locs1 cells slots Q (F0 m (pc + 3) ls ((retV e' r).toList ++ rest))) : W p l e R s m args below meth c H locs cells slots Q (F0 m pc ls st0) := by
  intro T hT X
  obtain ⟨v, st₀, t, T', L, h0, X', hL, e1, e2, ⟨hv, hP, hz, hk⟩, st⟩ := hr T hT X
  have hv1 : v = retV e' r := Outcome.returned.inj hv
  rw [h0] at hz hk
  obtain ⟨t2, a1, b1⟩ := kk T'.heap (locs ++ L) (by rw [e1]; exact hP)
    ⟨Nat.le_trans hS.1 (by rw [e1]; exact hz), fun q h1 h2 => by rw [e1, hk q (Nat.lt_of_lt_of_le h1 hS.1) (fun z => h2 (hA q (Nat.lt_of_lt_of_le h1 hS.1) z))]; exact hS.2.1 q h1 h2, fun q hq => by
      rcases List.mem_append.mp hq with h | h
      · exact hS.2.2 q h
      · exact hf _ (hL q h)⟩ T' rfl X'
  rw [← hv1] at a1
  exact ⟨t2, st t2 a1, b1⟩
end CALLW
theorem wsM_head (t : MI) : wsM t = Jvm.Cond.code t.1 t.2.1 t.2.2.1 t.2.2.2.1 :: TT := rfl
theorem goodM {t : MI} (h : Jvm.Cond.code t.1 t.2.1 t.2.2.1 t.2.2.2.1 ∈ TT) : GoodIn TT (wsM t) := fun w hw => by
  rcases List.mem_cons.mp hw with rfl | hw
  · exact goodTT _ h
  · exact goodTT _ hw
theorem popn_inv : ∀ (n : Nat) (st acc as r : List Value), popn n st acc = some (as, r) → ∃ xs, xs.length = n ∧ st = xs ++ r ∧ as = xs.reverse ++ acc := by
  intro n
  induction n with
  | zero => intro st acc as r h; cases h; exact ⟨[], rfl, rfl, rfl⟩
  | succ n ih =>
    intro st acc as r h
    cases st with
    | nil => cases h
    | cons v st =>
      obtain ⟨xs, h1, h2, h3⟩ := ih st (v :: acc) as r h
      exact ⟨v :: xs, by simp [h1], by rw [h2]; rfl, by rw [h3]; simp⟩
def qo (y i : Nat) : Nat := match fetch y i with
  | some r => r.2.1
  | none => 0
theorem mAt_qo {y i : Nat} {z : Int} (h : mAt y i z = true) : (qo y i : Int) = z := by
  unfold mAt at h
  unfold qo
  cases hf : fetch y i with
  | none => rw [hf] at h; cases h
  | some r => rw [hf] at h; exact of_decide_eq_true h
theorem ftC_inv {y i q n len : Nat} (h : ftC y i q n len = true) : n = len ∧ qo y (i + 1) = q + len := by
  unfold ftC at h
  rw [Bool.and_eq_true, decide_eq_true_eq] at h
  have h1 := mAt_qo h.2
  exact ⟨h.1, by omega⟩
theorem wC_inv {p : Nat} {w : Jvm.Cond} (h : wC p w = true) (hg : goodWord w = true) : w ∈ TT := by
  unfold wC at h
  split at h
  · rename_i w' hw
    have := of_decide_eq_true h
    subst this
    exact inTT hw hg
  · cases h
section INV
variable {K : KT} {K' : Nat → List Value → List Value → Sto → Option Rs} {i : Nat} {L st : List Value} {r : Rs}
theorem no_inv (h : fold1 K K' i L no = some r) : False := by
  have h1 : (none : Option Rs) = some r := h
  cases h1
theorem ldI_inv {j : Nat} {f : Int32 → DL} (h : fold1 K K' i L (ldI st j f) = some r) : ∃ x, nth st j = some (.int x) ∧ fold1 K K' i L (f x) = some r := by
  unfold ldI at h
  split at h
  · exact ⟨_, by assumption, h⟩
  · exact (no_inv h).elim
theorem ldJ_inv {j : Nat} {f : Int64 → DL} (h : fold1 K K' i L (ldJ st j f) = some r) : ∃ x, nth st j = some (.long x) ∧ fold1 K K' i L (f x) = some r := by
  unfold ldJ at h
  split at h
  · exact ⟨_, by assumption, h⟩
  · exact (no_inv h).elim
theorem ldR_inv {j : Nat} {f : Nat → DL} (h : fold1 K K' i L (ldR st j f) = some r) : ∃ x : Nat, nth st j = some (.ref x) ∧ fold1 K K' i L (f x) = some r := by
  unfold ldR at h
  split at h
  · exact ⟨_, by assumption, h⟩
  · exact (no_inv h).elim
theorem p1_inv {f : Int32 → List Value → DL} (h : fold1 K K' i L (p1 st f) = some r) : ∃ x s, st = .int x :: s ∧ fold1 K K' i L (f x s) = some r := by
  unfold p1 at h
  split at h
  · exact ⟨_, _, rfl, h⟩
  · exact (no_inv h).elim
theorem p2_inv {f : Int32 → Int32 → List Value → DL} (h : fold1 K K' i L (p2 st f) = some r) : ∃ x y s, st = .int y :: .int x :: s ∧ fold1 K K' i L (f x y s) = some r := by
  unfold p2 at h
  split at h
  · exact ⟨_, _, _, rfl, h⟩
  · exact (no_inv h).elim
theorem q1_inv {f : Int64 → List Value → DL} (h : fold1 K K' i L (q1 st f) = some r) : ∃ x s, st = .long x :: s ∧ fold1 K K' i L (f x s) = some r := by
  unfold q1 at h
  split at h
  · exact ⟨_, _, rfl, h⟩
  · exact (no_inv h).elim
theorem q2_inv {f : Int64 → Int64 → List Value → DL} (h : fold1 K K' i L (q2 st f) = some r) : ∃ x y s, st = .long y :: .long x :: s ∧ fold1 K K' i L (f x y s) = some r := by
  unfold q2 at h
  split at h
  · exact ⟨_, _, _, rfl, h⟩
  · exact (no_inv h).elim
theorem q3_inv {f : Int64 → Int32 → List Value → DL} (h : fold1 K K' i L (q3 st f) = some r) : ∃ x y s, st = .int y :: .long x :: s ∧ fold1 K K' i L (f x y s) = some r := by
  unfold q3 at h
  split at h
  · exact ⟨_, _, _, rfl, h⟩
  · exact (no_inv h).elim
theorem c1_inv {f : Nat → List Value → DL} (h : fold1 K K' i L (c1 st f) = some r) : ∃ (x : Nat) (s : List Value), st = .ref x :: s ∧ fold1 K K' i L (f x s) = some r := by
  unfold c1 at h
  split at h
  · exact ⟨_, _, rfl, h⟩
  · exact (no_inv h).elim
theorem c2_inv {f : Nat → Int32 → List Value → DL} (h : fold1 K K' i L (c2 st f) = some r) : ∃ (x : Nat) (y : Int32) (s : List Value), st = .int y :: .ref x :: s ∧ fold1 K K' i L (f x y s) = some r := by
  unfold c2 at h
  split at h
  · exact ⟨_, _, _, rfl, h⟩
  · exact (no_inv h).elim
theorem c3_inv {f : Nat → Int32 → Int32 → List Value → DL} (h : fold1 K K' i L (c3 st f) = some r) : ∃ (x : Nat) (y v : Int32) (s : List Value), st = .int v :: .int y :: .ref x :: s ∧ fold1 K K' i L (f x y v s) = some r := by
  unfold c3 at h
  split at h
  · exact ⟨_, _, _, _, rfl, h⟩
  · exact (no_inv h).elim
theorem c4_inv {f : Nat → Int32 → List Value → DL} (h : fold1 K K' i L (c4 st f) = some r) : ∃ (x : Nat) (v : Int32) (s : List Value), st = .int v :: .ref x :: s ∧ fold1 K K' i L (f x v s) = some r := by
  unfold c4 at h
  split at h
  · exact ⟨_, _, _, rfl, h⟩
  · exact (no_inv h).elim
theorem d1_inv {f : Value → List Value → DL} (h : fold1 K K' i L (d1 st f) = some r) : ∃ v s, st = v :: s ∧ v.category = 1 ∧ fold1 K K' i L (f v s) = some r := by
  unfold d1 at h
  split at h
  · exact ⟨_, _, rfl, rfl, h⟩
  · exact ⟨_, _, rfl, rfl, h⟩
  · exact (no_inv h).elim
theorem fldG_inv {Sh : Nat → Option Cs} {c a b : Nat} {f : Option Nat → DL} (h : fold1 K K' i L (fldG Sh c a b f) = some r) : ∃ ks o, Sh c = some (.inl (a, ks)) ∧ nth ks b = some o ∧ fold1 K K' i L (f o) = some r := by
  unfold fldG at h
  split at h
  · split at h
    · rename_i hs ha
      subst ha
      split at h
      · exact ⟨_, _, hs, by assumption, h⟩
      · exact (no_inv h).elim
    · exact (no_inv h).elim
  · exact (no_inv h).elim
theorem rowG_inv {Sh : Nat → Option Cs} {c : Nat} {z : Bool} {f : Nat → DL} (h : fold1 K K' i L (rowG Sh c z f) = some r) : ∃ n, Sh c = some (.inr (z, n)) ∧ fold1 K K' i L (f n) = some r := by
  unfold rowG at h
  split at h
  · split at h
    · rename_i hs hz
      subst hz
      exact ⟨_, hs, h⟩
    · exact (no_inv h).elim
  · exact (no_inv h).elim
theorem rowL_inv {Sh : Nat → Option Cs} {c : Nat} {f : Nat → DL} (h : fold1 K K' i L (rowL Sh c f) = some r) : ∃ z n, Sh c = some (.inr (z, n)) ∧ fold1 K K' i L (f n) = some r := by
  unfold rowL at h
  split at h
  · exact ⟨_, _, by assumption, h⟩
  · exact (no_inv h).elim
theorem gif_inv {p : Prop} {hd : Decidable p} {o : Option Lf} {B : DL} (h : fold1 K K' i L (gif p hd o B) = some r) : (p ∧ lfK K K' i L o = some r) ∨ (¬ p ∧ fold1 K K' i L B = some r) := by
  have h1 : (@ite _ p hd (lfK K K' i L o) (fold1 K K' i L B)) = some r := h
  by_cases hp : p
  · rw [if_pos hp] at h1; exact Or.inl ⟨hp, h1⟩
  · rw [if_neg hp] at h1; exact Or.inr ⟨hp, h1⟩
theorem popG_inv {n m : Nat} {f : List Value → List Value → DL} (h : fold1 K K' i L (popG n m st f) = some r) : ∃ xs s, xs.length = n ∧ st = xs ++ s ∧ (s.map fun v => v.category).sum ≤ 8 ∧ (wide xs.reverse).length ≤ m ∧ fold1 K K' i L (f xs.reverse s) = some r := by
  unfold popG at h
  split at h
  · rename_i as s hp
    obtain ⟨xs, h1, h2, h3⟩ := popn_inv _ _ _ _ _ hp
    rw [List.append_nil] at h3
    subst h3
    split at h
    · rename_i hc
      exact ⟨xs, s, h1, h2, hc.1, hc.2, h⟩
    · exact (no_inv h).elim
  · exact (no_inv h).elim
theorem recvG_inv {Sh : Nat → Option Cs} {as : List Value} {k : Nat} {f : DL} (h : fold1 K K' i L (recvG Sh as k f) = some r) : ∃ (c : Nat) (s : List Value), as = .ref c :: s ∧ ((k = 50 ∧ 100 ≤ c ∧ c < 112) ∨ (k ≠ 50 ∧ ∃ ks, Sh c = some (.inl (k, ks)))) ∧ fold1 K K' i L f = some r := by
  unfold recvG at h
  split at h
  · split at h
    · rename_i hk
      split at h
      · rename_i hc
        exact ⟨_, _, rfl, Or.inl ⟨hk, hc⟩, h⟩
      · exact (no_inv h).elim
    · rename_i hk
      split at h
      · rename_i hs
        split at h
        · rename_i hk2
          subst hk2
          exact ⟨_, _, rfl, Or.inr ⟨hk, _, hs⟩, h⟩
        · exact (no_inv h).elim
      · exact (no_inv h).elim
  · exact (no_inv h).elim
end INV
end
section
/-! THE STEP: what the pure machine does, the machine does -/
theorem zb_cases {x : Int32} (h : zb x = true) : x = 0 ∨ x = 1 := by
  unfold zb at h
  rw [Bool.or_eq_true, beq_iff_eq, beq_iff_eq] at h
  exact h
theorem inb_in {x : Int32} {n : Nat} (h : inb x n = true) : vp_in x n := by
  unfold inb at h
  rw [Bool.and_eq_true, decide_eq_true_eq, decide_eq_true_eq] at h
  exact vp_in_iff.mpr h
theorem fldC_inv {own : String} {idx p a b d : Nat} {wr : Bool} (h : fldC own idx p a b wr d = true) : ∃ C T N, nth qcl a = some (C, T, N) ∧ b < N ∧ (T b).1 = C ∧ Jvm.Cond.fieldLink own idx C (T b).2.1 (T b).2.2.1 ∈ TT ∧
    (wr = true → (T b).2.2.2 = false ∧ (T b).2.2.1 = if d = 0 then "I" else "Z") := by
  unfold fldC at h
  split at h
  · rename_i C T N hq
    simp only [Bool.and_eq_true, decide_eq_true_eq, Bool.or_eq_true, Bool.not_eq_true'] at h
    obtain ⟨⟨⟨h1, h2⟩, h3⟩, h4⟩ := h
    refine ⟨C, T, N, hq, h1, h2, wC_inv h3 rfl, fun hw => ?_⟩
    rcases h4 with h4 | h4
    · rw [hw] at h4; cases h4
    · exact h4
  · cases h
theorem wE_obj {G : Geo} {Sh : Nat → Option Cs} {σ : Sto} {c a : Nat} {ks : List (Option Nat)} (h : Sh c = some (.inl (a, ks))) : wE G Sh σ c = .inr (a, wF G (σ c) 0 ks) := by
  unfold wE; rw [h]
theorem wE_arr {G : Geo} {Sh : Nat → Option Cs} {σ : Sto} {c n : Nat} {z : Bool} (h : Sh c = some (.inr (z, n))) : wE G Sh σ c = .inl (G.2.1 c, n, .inl (σ c)) := by
  unfold wE; rw [h]
theorem tyc_arr {Sh : Nat → Option Cs} {c n : Nat} {z : Bool} (h : Sh c = some (.inr (z, n))) : tyc Sh c = if z then .boolean else .int := by
  unfold tyc; rw [h]; cases z <;> rfl
theorem tsC_swc {y q : Nat} {lo : Int} {K : KT} {K' : Nat → List Value → List Value → Sto → Option Rs} {i0 : Nat} {L0 L st : List Value} {σ : Sto} {a : Nat} {r : Rs} {x : Int32} : ∀ (ts : List (Int32 × Nat)) (offs : List Int) (j : Nat), tsC y q lo j ts offs = true →
    fold1 K K' i0 L0 (swc x L st σ a ts) = some r → (∃ (n : Nat) (off : Int) (t : Nat), offs[n]? = some off ∧ x.toInt = lo + ((j + n : Nat) : Int) ∧ (qo y t : Int) = q + off ∧ K' t L st σ = some r) ∨ ((∀ n : Nat, n < offs.length → x.toInt ≠ lo + ((j + n : Nat) : Int)) ∧ K' a L st σ = some r) := by
  intro ts
  induction ts with
  | nil =>
    intro offs j h hf
    cases offs with
    | nil => exact Or.inr ⟨fun n hn => by simp at hn, hf⟩
    | cons o offs => cases h
  | cons t ts ih =>
    intro offs j h hf
    cases offs with
    | nil => cases h
    | cons o offs =>
      unfold tsC at h
      simp only [Bool.and_eq_true, decide_eq_true_eq] at h
      obtain ⟨⟨h1, h2⟩, h3⟩ := h
      rcases gif_inv hf with ⟨hx, hr⟩ | ⟨hx, hr⟩
      · exact Or.inl ⟨0, o, t.2, rfl, by rw [hx, h1]; simp, mAt_qo h2, hr⟩
      · rcases ih offs (j + 1) h3 hr with ⟨n, off, t', g1, g2, g3, g4⟩ | ⟨g1, g2⟩
        · exact Or.inl ⟨n + 1, off, t', g1, by rw [g2]; congr 2; omega, g3, g4⟩
        · refine Or.inr ⟨fun n hn => ?_, g2⟩
          cases n with
          | zero => exact fun e => hx (Int32.toInt_inj.mp (by rw [h1, e]; simp))
          | succ n =>
            have := g1 n (by simpa using hn)
            rw [show j + 1 + n = j + (n + 1) by omega] at this
            exact this
theorem lsC_swc {y q : Nat} {K : KT} {K' : Nat → List Value → List Value → Sto → Option Rs} {i0 : Nat} {L0 L st : List Value} {σ : Sto} {a : Nat} {r : Rs} {x : Int32} {dflt : Int} (hd : (qo y a : Int) = q + dflt) : ∀ (ts : List (Int32 × Nat)) (ps : List (Int × Int)), lsC y q ts ps = true →
    fold1 K K' i0 L0 (swc x L st σ a ts) = some r → ∃ t, (qo y t : Int) = q + Op.lookupswitch.offset ps dflt x.toInt ∧ K' t L st σ = some r := by
  intro ts
  induction ts with
  | nil =>
    intro ps h hf
    cases ps with
    | nil => exact ⟨a, hd, hf⟩
    | cons o ps => cases h
  | cons t ts ih =>
    intro ps h hf
    cases ps with
    | nil => cases h
    | cons o ps =>
      unfold lsC at h
      simp only [Bool.and_eq_true, decide_eq_true_eq] at h
      obtain ⟨⟨h1, h2⟩, h3⟩ := h
      obtain ⟨o1, o2⟩ := o
      rw [Op.lookupswitch.offset_cons]
      rcases gif_inv hf with ⟨hx, hr⟩ | ⟨hx, hr⟩
      · rw [if_pos (by rw [hx, h1])]
        exact ⟨t.2, mAt_qo h2, hr⟩
      · rw [if_neg (fun e => hx (Int32.toInt_inj.mp (by rw [h1]; exact e.symm)))]
        exact ih ps h3 hr
section SIM
variable {p : Program} {l : Launch} {e : Env} {R : Room} {s : State} {m : MethodId} {args : Array Value} {below : List Frame} {meth : Method} {c : Code} {cells slots : Nat} {Q : State → Prop}
/-- the script, which the law alone reads -/
def Scr (s : State) (G : Geo) (A : Nat → Prop) (xx : Nat → Int32) (LL : Nat) : Prop := va_X (G.1 99) LL xx s s.heap ∧ G.1 99 < s.heap.size ∧ ¬ A (G.1 99) ∧ LL < 2 ^ 31
def Rows (σ : Sto) (xx : Nat → Int32) (LL : Nat) : Prop := σ 99 = xx ∧ σ 98 0 = nI LL
def RetH (p : Program) (l : Launch) (e : Env) (R : Room) (s : State) (m : MethodId) (args : Array Value) (below : List Frame) (meth : Method) (c : Code) (cells slots : Nat) (Q : State → Prop) (t : MI) (G : Geo) (Sh : Nat → Option Cs) (cs : List Nat) (A : Nat → Prop) (r : Rs) : Prop :=
  ∀ (H : Heap) (locs : List Loc) (ls : Array Slot) (q : Nat) (st : List Value), va_P G.2.2.1 qcl (wW G Sh cs r.2.2) H → va_S A s.heap H locs →
    ((∃ a, decode t.2.1 q = .ok (.ireturn, 1) ∧ narK t.2.2.2.1 a = true ∧ nok a r.1 = true ∧ st = [.int r.1]) ∨ (decode t.2.1 q = .ok (.lreturn, 1) ∧ t.2.2.2.1 = some .long ∧ st = [.long r.2.1]) ∨ (decode t.2.1 q = .ok (.return_, 1) ∧ t.2.2.2.1 = none ∧ st = [])) →
    W p l e R s m args below meth c H locs cells slots Q (F0 m q ls st)
/-- what a walk from here on gives -/
def Goes1 (p : Program) (l : Launch) (e : Env) (R : Room) (s : State) (m : MethodId) (args : Array Value) (below : List Frame) (meth : Method) (c : Code) (cells slots : Nat) (Q : State → Prop) (G : Geo) (Sh : Nat → Option Cs) (cs : List Nat) (A : Nat → Prop) (nL : Nat) (y i : Nat) (L st : List Value) (σ : Sto) : Prop :=
  ∀ (H : Heap) (locs : List Loc) (ls : Array Slot) (q : Nat), qo y i = q → va_P G.2.2.1 qcl (wW G Sh cs σ) H → va_S A s.heap H locs → hL G ls nL L → W p l e R s m args below meth c H locs cells slots Q (F0 m q ls (st.map (cv G)))
theorem dc_invoke {t : MI} {G : Geo} {Sh : Nat → Option Cs} {cs : List Nat} {A : Nat → Prop} {y k : Nat} (C0 : Ctx p s m args c R t G Sh cs A cells slots) (hRf : hgt t k ≤ R.frames ∧ 64 * hgt t k ≤ R.locals)
    {a b d e' f p' idx k' : Nat} {ts : List (Int32 × Nat)} (hc : callC t t.1.cls idx a b d e' f p' ts = true) {xs rest : List Value} {σ : Sto} {r1 : Rs}
    (hk' : ∀ t', mi? a = some t' → (d = 0 → ts ≠ [] → k' = k + 1 ∧ k < 6) ∧ ((d ≠ 0 ∨ ts = []) → k' = k))
    (hM : ∀ t', mi? a = some t' → hgt t' k' < hgt t k → a ≠ kLaw → MetP l G Sh cs a k' xs.reverse σ r1) (hn : xs.length = b) (hsum : (rest.map fun v => v.category).sum ≤ 8)
    {q : Nat} (hdec : (d = 0 ∧ decode t.2.1 q = .ok (.invokevirtual idx, 3)) ∨ (d = 1 ∨ d = 2) ∧ decode t.2.1 q = .ok (.invokestatic idx, 3))
    (hrecv : d = 0 → ∃ (c : Nat) (s : List Value), xs.reverse = .ref c :: s ∧ ((f = 50 ∧ 100 ≤ c ∧ c < 112) ∨ (f ≠ 50 ∧ ∃ ks, Sh c = some (.inl (f, ks)))))
    {H : Heap} {locs : List Loc} {ls : Array Slot} (hP : va_P G.2.2.1 qcl (wW G Sh cs σ) H) (hS : va_S A s.heap H locs) (hl : ls.size = t.2.2.1)
    (kk : ∀ (H1 : Heap) (locs1 : List Loc), va_P G.2.2.1 qcl (wW G Sh cs r1.2.2) H1 → va_S A s.heap H1 locs1 → W p l e R s m args below meth c H1 locs1 cells slots Q (F0 m (q + 3) ls ((pushR e' r1 rest).map (cv G)))) :
    W p l e R s m args below meth c H locs cells slots Q (F0 m q ls ((xs ++ rest).map (cv G))) := by
  obtain ⟨hx, hb, hml, hown, hts, hK, hD, hA, hE, hnd, hSh, hcc, hss, hcls, hmok, hck⟩ := C0
  unfold callC at hc
  cases ht' : mi? a with
  | none => rw [ht'] at hc; cases hc
  | some t' =>
    rw [ht'] at hc
    simp only [Bool.and_eq_true, decide_eq_true_eq] at hc
    obtain ⟨⟨⟨hal, he'⟩, hlink⟩, hkind⟩ := hc
    obtain ⟨hcode, hstat, hinst, hini, hn1, hn2, hpar, hpl, hmx⟩ := hmok a t' ht' hal
    have hrank : hgt t' k' < hgt t k := by
      obtain ⟨h1, h2⟩ := hk' t' ht'
      unfold hgt
      by_cases hd : d = 0
      · rw [if_pos hd] at hkind
        simp only [Bool.and_eq_true, decide_eq_true_eq] at hkind
        cases ts with
        | nil =>
          have h3 := h2 (Or.inr rfl)
          have h4 := of_decide_eq_true hkind.2
          subst h3
          omega
        | cons z ts =>
          obtain ⟨h3, h4⟩ := h1 hd (fun h => by cases h)
          have h5 := of_decide_eq_true hkind.2
          subst h3
          omega
      · rw [if_neg hd] at hkind
        simp only [Bool.and_eq_true, decide_eq_true_eq] at hkind
        have h3 := h2 (Or.inl hd)
        have h4 := hkind.2
        subst h3
        omega
    have hM1 := hM t' ht' hrank hal t' ht' H.size
    have hsq : ∀ q, va_A (wW G Sh cs σ) H.size q → A q := by
      intro q hq
      rcases hq with ⟨k9, e9, h9⟩ | h9
      · exact (hD σ).2 k9 _ h9
      · exact hA q (Nat.le_trans hS.1 h9)
    have hpre : ∀ U : State, U.heap = H → s.WarmedH U.vm → PreW G Sh cs σ H.size U := fun U hU hW =>
      ⟨by rw [hU], by rw [hU]; exact hP, va_K.moved hW.alike hK, (hD σ).weaken (fun _ _ _ _ => trivial), hE.go (fun a h1 h2 => by rw [hU]; exact hS.2.1 a h1 h2) hW hsq⟩
    have hblind : FrameBlind (va_Pc (xs.reverse.map (cv G)) (PreW G Sh cs σ H.size)) := fun a U g mk q => by
      obtain ⟨q0, q1, qP, qK, qD, qE⟩ := q
      exact ⟨q0, q1, qP, va_K.moved (u := U) (U := U.calling g mk a) (Vm.Alike.refl U.vm) qK, qD, qE.blind⟩
    have hroom : (rmM (hgt t' k')).frames + 1 ≤ R.frames ∧ 8 + (t'.2.2.1 + 11) + (rmM (hgt t' k')).locals ≤ R.locals := by
      show hgt t' k' + 1 ≤ R.frames ∧ 8 + (t'.2.2.1 + 11) + 64 * hgt t' k' ≤ R.locals
      omega
    have hsum' : 2 * (F0 m q ls ((xs ++ rest).map (cv G))).monitorRoom + ((rest.map (cv G)).map fun v => v.category).sum ≤ 8 := lv_room (by rw [cv_sum hE.cat]; exact hsum)
    have hret : (retV e' r1).toList ++ rest.map (cv G) = (pushR e' r1 rest).map (cv G) := by
      match e' with
      | 0 => rfl
      | 1 => rfl
      | n + 2 => rfl
    have hff : ∀ q, (va_A (wW G Sh cs σ) H.size) q → A q := hsq
    rw [he'] at hret kk
    have kk' : ∀ (H1 : Heap) (locs1 : List Loc), va_P G.2.2.1 qcl (wW G Sh cs r1.2.2) H1 → va_S A s.heap H1 locs1 → W p l e R s m args below meth c H1 locs1 cells slots Q (F0 m (q + 3) ls ((retV (eOf t'.2.2.2.1) r1).toList ++ rest.map (cv G))) := by
      rw [hret]; exact kk
    rcases hdec with ⟨hd, hdec⟩ | ⟨hd, hdec⟩
    · -- a receiver's method
      rw [if_neg (by omega)] at hlink
      rw [if_pos hd] at hkind
      simp only [Bool.and_eq_true, decide_eq_true_eq] at hkind
      obtain ⟨⟨⟨hst, hbn⟩, hcl⟩, -⟩ := hkind
      obtain ⟨c9, s9, hxs, hrc⟩ := hrecv hd
      obtain ⟨hin, hse⟩ := hinst hst
      have hl1 := wC_inv hlink rfl
      have hlen : s9.length = t'.2.2.2.2.2.1 := by
        have h1 := congrArg List.length hxs
        simp at h1
        omega
      have e1 : (xs ++ rest).map (cv G) = (s9.map (cv G)).reverse ++ cr G c9 :: rest.map (cv G) := by
        have h2 : xs = (s9.reverse ++ [.ref c9]) := by
          have := congrArg List.reverse hxs
          simpa using this
        rw [h2]
        simp [cv]
      have hcr : ∃ a9 : Nat, cr G c9 = .ref a9 ∧ ∃ cell : Cell, H[a9]? = some cell ∧ cell.vm.isStatics = false ∧ s.vm.findClass t'.1.cls = some cell.cls := by
        rcases hrc with ⟨hf, h1, h2⟩ | ⟨hf, ks, hs9⟩
        · have hcs : t'.1.cls = "java/lang/String" := by
            unfold clsC at hcl
            rw [if_pos hf] at hcl
            exact of_decide_eq_true hcl
          refine ⟨G.2.2.2.1 (c9 - 100), ?_, ?_⟩
          · unfold cr
            rw [if_neg (by omega), if_pos (by omega)]
          · rw [hcs]
            exact vk_recv hE.1 (by omega) hS
        · unfold clsC at hcl
          rw [if_neg hf] at hcl
          cases hq : nth qcl f with
          | none => rw [hq] at hcl; cases hcl
          | some z =>
            rw [hq] at hcl
            have hz := of_decide_eq_true hcl
            obtain ⟨hin9, h49⟩ := hSh _ _ hs9
            obtain ⟨p9, hp9⟩ := List.mem_iff_getElem?.mp hin9
            refine ⟨G.1 c9, cr_lo (by omega), ?_⟩
            rw [hz]
            exact va_recv hK hP (by rw [← nth_get]; exact hq) (by rw [wW_at hp9, wE_obj hs9])
      obtain ⟨a9, hcr1, hcell⟩ := hcr
      rw [hcr1] at e1
      have hM2 : Met l t'.1 (wsM t') (rmM (hgt t' k')) (va_Pc (.ref a9 :: s9.map (cv G)) (PreW G Sh cs σ H.size)) (QW G Sh cs σ H.size (eOf t'.2.2.2.1) r1) 0 0 (va_A (wW G Sh cs σ) H.size) := by
        have h3 : xs.reverse.map (cv G) = .ref a9 :: s9.map (cv G) := by
          rw [hxs]
          show cr G c9 :: _ = _
          rw [hcr1]
        rw [← h3]
        exact hM1
      have hblind2 : FrameBlind (va_Pc (.ref a9 :: s9.map (cv G)) (PreW G Sh cs σ H.size)) := fun a U g mk q => by
        obtain ⟨q0, q1, qP, qK, qD, qE⟩ := q
        exact ⟨q0, q1, qP, va_K.moved (u := U) (U := U.calling g mk a) (Vm.Alike.refl U.vm) qK, qD, qE.blind⟩
      have hG : GoodIn TT (wsV t.1.cls idx t'.1.cls t'.1 (wsM t')) := fun w hw => by
        simp only [wsV, List.cons_append, List.nil_append, List.mem_cons] at hw
        rcases hw with rfl | rfl | rfl | rfl | hw
        · exact goodTT _ hl1
        · exact goodTT _ hin
        · exact goodTT _ hse
        · exact goodTT _ hini
        · exact goodM hcode w hw
      rw [e1]
      refine dc_call (e' := eOf t'.2.2.2.1) (r := r1) (va_runV (As := s9.map (cv G)) (rest := rest.map (cv G)) ⟨hx, hb, hml, hown, hts⟩ hM2 (cwV t'.2.2.2.2.2.1 hts hG (wsM_head t') rfl rfl ⟨rfl, hn1, hn2, hpar⟩ hroom) ⟨hblind2, hcell, fun U hU hW => ⟨rfl, hpre U hU hW⟩⟩ rfl (by simp [hlen]) hl rfl (by rw [← e1]; exact hsum') hdec ⟨hcc, hss⟩) hS (fun q _ h => hff q h) hff kk'
    · have hd0 : d ≠ 0 := by omega
      rw [if_neg hd0] at hkind
      simp only [Bool.and_eq_true, decide_eq_true_eq] at hkind
      obtain ⟨⟨hst, hbn⟩, -⟩ := hkind
      have hsta := hstat hst
      have e1 : (xs ++ rest).map (cv G) = (xs.reverse.map (cv G)).reverse ++ rest.map (cv G) := by simp
      rcases hd with hd | hd
      · rw [if_neg (by omega)] at hlink
        have hl1 := wC_inv hlink rfl
        have hG : GoodIn TT (va_wsS t.1.cls idx t'.1 (wsM t')) := fun w hw => by
          simp only [va_wsS, List.cons_append, List.nil_append, List.mem_cons] at hw
          rcases hw with rfl | rfl | rfl | hw
          · exact goodTT _ hl1
          · exact goodTT _ hsta
          · exact goodTT _ hini
          · exact goodM hcode w hw
        rw [e1]
        refine dc_call (e' := eOf t'.2.2.2.1) (r := r1) (va_runS (As := xs.reverse.map (cv G)) (rest := rest.map (cv G)) ⟨hx, hb, hml, hown, hts⟩ hM1 (va_cwS t'.2.2.2.2.2.1 hts hG (wsM_head t') rfl rfl ⟨hn1, hn2, hpar⟩ hroom) ⟨hblind, fun U hU hW => ⟨rfl, hpre U hU hW⟩⟩ rfl (by simp; omega) hl rfl (by rw [← e1]; exact hsum') hdec ⟨hcc, hss⟩) hS (fun q _ h => hff q h) hff kk'
      · rw [if_pos hd] at hlink
        simp only [Bool.and_eq_true, decide_eq_true_eq] at hlink
        obtain ⟨⟨hw1, hw2⟩, hw3⟩ := hlink
        have hnw : va_Nw (.methodLinkNest t.1.cls idx t'.1 "FerryForAlone") s := by
          rw [hw1, hw2, hw3]
          exact hE.2.2.2.2.1
        rw [e1]
        refine dc_call (e' := eOf t'.2.2.2.1) (r := r1) (va_runSN (As := xs.reverse.map (cv G)) (rest := rest.map (cv G)) ⟨hx, hb, hml, hown, hts⟩ hM1 ⟨va_cnB t'.2.2.2.2.2.1 hts (goodM hcode) (wsM_head t') rfl rfl hnw (hts _ hini) ⟨hn1, hn2, hpar⟩ hroom, hts _ hsta, trivial⟩ ⟨hblind, fun U hU hW => ⟨rfl, hpre U hU hW⟩⟩ rfl (by simp; omega) hl rfl (by rw [← e1]; exact hsum') hdec ⟨hcc, hss⟩) hS (fun q _ h => hff q h) hff kk'
end SIM
end
section
/-! THE WALK: a run of the pure machine is a run of the machine -/
def lfOK (Sh : Nat → Option Cs) (σ : Sto) (o : Option Lf) : Prop := match o with
  | none => True
  | some (.inl (_, _, _, σ')) => ∀ c, Sh c = none → σ' c = σ c
  | some (.inr (.inl (_, _, _, σ', _))) => ∀ c, Sh c = none → σ' c = σ c
  | some (.inr (.inr r)) => ∀ c, Sh c = none → r.2.2 c = σ c
def dlOK (Sh : Nat → Option Cs) (σ : Sto) (d : DL) : Prop := lfOK Sh σ d.2 ∧ ∀ g ∈ d.1, lfOK Sh σ g.2
section DLOK
variable {Sh : Nat → Option Cs} {σ : Sto}
theorem no_ok : dlOK Sh σ no := ⟨trivial, fun g h => by cases h⟩
theorem lgo_ok {i : Nat} {L st : List Value} : lfOK Sh σ (lgo i L st σ) := fun _ _ => rfl
theorem lgo_su {i c j : Nat} {v : Int32} {L st : List Value} (h : ∃ s, Sh c = some s) : lfOK Sh σ (lgo i L st (su σ c j v)) := fun c' h' => su_ne (fun e => by obtain ⟨s, hs⟩ := h; rw [e, hs] at h'; cases h')
theorem go_ok {i : Nat} {L st : List Value} : dlOK Sh σ (go i L st σ) := ⟨lgo_ok, fun g h => by cases h⟩
theorem go_su {i c j : Nat} {v : Int32} {L st : List Value} (h : ∃ s, Sh c = some s) : dlOK Sh σ (go i L st (su σ c j v)) := ⟨lgo_su h, fun g h => by cases h⟩
theorem cal_ok {y k : Nat} {as : List Value} {kk : Rs → List Value} : dlOK Sh σ (cal y k as σ kk) := ⟨fun _ _ => rfl, fun g h => by cases h⟩
theorem rtn_ok {x : Int32} {w : Int64} : dlOK Sh σ (rtn (x, w, σ)) := ⟨fun _ _ => rfl, fun g h => by cases h⟩
theorem gif_ok {p : Prop} {hd : Decidable p} {o : Option Lf} {B : DL} (h1 : lfOK Sh σ o) (h2 : dlOK Sh σ B) : dlOK Sh σ (gif p hd o B) := ⟨h2.1, fun g h => by
  rcases List.mem_cons.mp h with rfl | h
  · exact h1
  · exact h2.2 g h⟩

theorem ldI_ok {L : List Value} {j : Nat} {f : Int32 → DL} (h : ∀ x, dlOK Sh σ (f x)) : dlOK Sh σ (ldI L j f) := by
  unfold ldI
  split
  · exact h _
  · exact no_ok
theorem ldJ_ok {L : List Value} {j : Nat} {f : Int64 → DL} (h : ∀ x, dlOK Sh σ (f x)) : dlOK Sh σ (ldJ L j f) := by
  unfold ldJ
  split
  · exact h _
  · exact no_ok
theorem ldR_ok {L : List Value} {j : Nat} {f : Nat → DL} (h : ∀ x, dlOK Sh σ (f x)) : dlOK Sh σ (ldR L j f) := by
  unfold ldR
  split
  · exact h _
  · exact no_ok
theorem p1_ok {st : List Value} {f : Int32 → List Value → DL} (h : ∀ a b, dlOK Sh σ (f a b)) : dlOK Sh σ (p1 st f) := by
  unfold p1
  split
  · exact h _ _
  · exact no_ok
theorem p2_ok {st : List Value} {f : Int32 → Int32 → List Value → DL} (h : ∀ a b c, dlOK Sh σ (f a b c)) : dlOK Sh σ (p2 st f) := by
  unfold p2
  split
  · exact h _ _ _
  · exact no_ok
theorem q1_ok {st : List Value} {f : Int64 → List Value → DL} (h : ∀ a b, dlOK Sh σ (f a b)) : dlOK Sh σ (q1 st f) := by
  unfold q1
  split
  · exact h _ _
  · exact no_ok
theorem q2_ok {st : List Value} {f : Int64 → Int64 → List Value → DL} (h : ∀ a b c, dlOK Sh σ (f a b c)) : dlOK Sh σ (q2 st f) := by
  unfold q2
  split
  · exact h _ _ _
  · exact no_ok
theorem q3_ok {st : List Value} {f : Int64 → Int32 → List Value → DL} (h : ∀ a b c, dlOK Sh σ (f a b c)) : dlOK Sh σ (q3 st f) := by
  unfold q3
  split
  · exact h _ _ _
  · exact no_ok
theorem c1_ok {st : List Value} {f : Nat → List Value → DL} (h : ∀ a b, dlOK Sh σ (f a b)) : dlOK Sh σ (c1 st f) := by
  unfold c1
  split
  · exact h _ _
  · exact no_ok
theorem c2_ok {st : List Value} {f : Nat → Int32 → List Value → DL} (h : ∀ a b c, dlOK Sh σ (f a b c)) : dlOK Sh σ (c2 st f) := by
  unfold c2
  split
  · exact h _ _ _
  · exact no_ok
theorem c3_ok {st : List Value} {f : Nat → Int32 → Int32 → List Value → DL} (h : ∀ a b c d, dlOK Sh σ (f a b c d)) : dlOK Sh σ (c3 st f) := by
  unfold c3
  split
  · exact h _ _ _ _
  · exact no_ok
theorem c4_ok {st : List Value} {f : Nat → Int32 → List Value → DL} (h : ∀ a b c, dlOK Sh σ (f a b c)) : dlOK Sh σ (c4 st f) := by
  unfold c4
  split
  · exact h _ _ _
  · exact no_ok
theorem d1_ok {st : List Value} {f : Value → List Value → DL} (h : ∀ a b, dlOK Sh σ (f a b)) : dlOK Sh σ (d1 st f) := by
  unfold d1
  split
  · exact h _ _
  · exact h _ _
  · exact no_ok
theorem fldG_ok {c a b : Nat} {f : Option Nat → DL} (h : ∀ o, (∃ s, Sh c = some s) → dlOK Sh σ (f o)) : dlOK Sh σ (fldG Sh c a b f) := by
  unfold fldG
  split
  · split
    · split
      · exact h _ ⟨_, by assumption⟩
      · exact no_ok
    · exact no_ok
  · exact no_ok
theorem rowG_ok {c : Nat} {z : Bool} {f : Nat → DL} (h : ∀ n, (∃ s, Sh c = some s) → dlOK Sh σ (f n)) : dlOK Sh σ (rowG Sh c z f) := by
  unfold rowG
  split
  · split
    · exact h _ ⟨_, by assumption⟩
    · exact no_ok
  · exact no_ok
theorem rowL_ok {c : Nat} {f : Nat → DL} (h : ∀ n, dlOK Sh σ (f n)) : dlOK Sh σ (rowL Sh c f) := by
  unfold rowL
  split
  · exact h _
  · exact no_ok
theorem swc_ok {x : Int32} {L st : List Value} {a : Nat} : ∀ ts : List (Int32 × Nat), dlOK Sh σ (swc x L st σ a ts) := by
  intro ts
  induction ts with
  | nil => exact go_ok
  | cons t ts ih => exact gif_ok lgo_ok ih
theorem popG_ok {n m : Nat} {st : List Value} {f : List Value → List Value → DL} (h : ∀ a b, dlOK Sh σ (f a b)) : dlOK Sh σ (popG n m st f) := by
  unfold popG
  split
  · split
    · exact h _ _
    · exact no_ok
  · exact no_ok
theorem recvG_ok {as : List Value} {k : Nat} {f : DL} (h : dlOK Sh σ f) : dlOK Sh σ (recvG Sh as k f) := by
  unfold recvG
  split
  · split
    · split
      · exact h
      · exact no_ok
    · split
      · split
        · exact h
        · exact no_ok
      · exact no_ok
  · exact no_ok
theorem carryG_ok {i : Nat} {L st : List Value} : dlOK Sh σ (carryG Sh i L st σ) := by
  unfold carryG
  split
  · refine rowG_ok fun _ _ => rowG_ok fun _ h => ?_
    split
    · refine gif_ok (fun c' h' => ?_) no_ok
      obtain ⟨s, hs⟩ := h
      exact if_neg (fun e => by rw [e, hs] at h'; cases h')
    · exact no_ok
  · exact no_ok
set_option maxHeartbeats 4000000 in
theorem act_ok {y k i : Nat} {L st : List Value} : dlOK Sh σ (act Sh y k i L st σ) := by
  unfold act
  split
  · exact no_ok
  · rename_i I q a b d e f p v w ts hf
    cases I
    all_goals dsimp only
    all_goals repeat' (first
      | exact no_ok
      | exact go_ok
      | exact cal_ok
      | exact rtn_ok
      | exact lgo_ok
      | exact carryG_ok
      | exact swc_ok _
      | exact go_su (by assumption)
      | exact lgo_su (by assumption)
      | exact trivial
      | exact fun _ _ => rfl
      | refine ldI_ok fun _ => ?_
      | refine ldJ_ok fun _ => ?_
      | refine ldR_ok fun _ => ?_
      | refine p1_ok fun _ _ => ?_
      | refine p2_ok fun _ _ _ => ?_
      | refine q1_ok fun _ _ => ?_
      | refine q2_ok fun _ _ _ => ?_
      | refine q3_ok fun _ _ _ => ?_
      | refine c1_ok fun _ _ => ?_
      | refine c2_ok fun _ _ _ => ?_
      | refine c3_ok fun _ _ _ _ => ?_
      | refine c4_ok fun _ _ _ => ?_
      | refine d1_ok fun _ _ => ?_
      | refine fldG_ok fun _ _ => ?_
      | refine rowG_ok fun _ _ => ?_
      | refine rowL_ok fun _ => ?_
      | refine popG_ok fun _ _ => ?_
      | refine recvG_ok ?_
      | refine gif_ok ?_ ?_
      | split)
end DLOK
theorem fold_rows {Sh : Nat → Option Cs} {σ : Sto} {K : KT} {K' : Nat → List Value → List Value → Sto → Option Rs} {i : Nat} {L : List Value} {z : Option Lf} {r : Rs}
    (hK : ∀ y k i L st σ r, K y k i L st σ = some r → ∀ c, Sh c = none → r.2.2 c = σ c) (hK' : ∀ i L st σ r, K' i L st σ = some r → ∀ c, Sh c = none → r.2.2 c = σ c) :
    ∀ gs : List (Gd × Option Lf), lfOK Sh σ z → (∀ g ∈ gs, lfOK Sh σ g.2) → fold K K' i L z gs = some r → ∀ c, Sh c = none → r.2.2 c = σ c := by
  have key : ∀ o : Option Lf, lfOK Sh σ o → lfK K K' i L o = some r → ∀ c, Sh c = none → r.2.2 c = σ c := by
    intro o ho h c hc
    match o, ho, h with
    | none, _, h => cases h
    | some (.inl (i', L', st', σ')), ho, h => exact (hK' _ _ _ _ _ h c hc).trans (ho c hc)
    | some (.inr (.inl (y', k', as, σ', kk))), ho, h =>
      have h1 : ((K y' k' 0 (ent y' as) [] σ').bind fun r => K' (i + 1) L (kk r) r.2.2) = some r := h
      cases h2 : K y' k' 0 (ent y' as) [] σ' with
      | none => rw [h2] at h1; cases h1
      | some r1 =>
        rw [h2] at h1
        exact (hK' _ _ _ _ _ h1 c hc).trans ((hK _ _ _ _ _ _ _ h2 c hc).trans (ho c hc))
    | some (.inr (.inr r')), ho, h => cases h; exact ho c hc
  intro gs
  induction gs with
  | nil => intro hz _ h; exact key z hz h
  | cons g gs ih =>
    intro hz hg h
    by_cases hp : g.1.1
    · have h1 : fold K K' i L z (g :: gs) = lfK K K' i L g.2 := @if_pos _ g.1.2 hp _ _ _
      rw [h1] at h
      exact key g.2 (hg g List.mem_cons_self) h
    · have h1 : fold K K' i L z (g :: gs) = fold K K' i L z gs := @if_neg _ g.1.2 hp _ _ _
      rw [h1] at h
      exact ih hz (fun g' h' => hg g' (List.mem_cons_of_mem _ h')) h
theorem run_rows {Sh : Nat → Option Cs} : ∀ (n y k i : Nat) (L st : List Value) (σ : Sto) (r : Rs), run Sh n y k i L st σ = some r → ∀ c, Sh c = none → r.2.2 c = σ c := by
  intro n
  induction n with
  | zero => intro y k i L st σ r h; cases h
  | succ n ih =>
    intro y k i L st σ r h
    have ok : dlOK Sh σ (act Sh y k i L st σ) := act_ok
    exact fold_rows ih (ih y k) _ ok.1 ok.2 h

section WALK
variable {p : Program} {l : Launch} {e : Env} {R : Room} {s : State} {m : MethodId} {args : Array Value} {below : List Frame} {meth : Method} {c : Code} {cells slots : Nat} {Q : State → Prop}
theorem not_lt_ge {x y : Int32} (h : ¬ x < y) : y ≤ x := Int32.not_lt.mp h
theorem lt_not_ge {x y : Int32} (h : x < y) : ¬ y ≤ x := Int32.not_le.mpr h
set_option maxHeartbeats 16000000 in
theorem sim {t : MI} {G : Geo} {Sh : Nat → Option Cs} {cs : List Nat} {A : Nat → Prop} {y k : Nat} {xx : Nat → Int32} {LL : Nat} (ht : mi? y = some t) (C0 : Ctx p s m args c R t G Sh cs A cells slots) (hRf : hgt t k ≤ R.frames ∧ 64 * hgt t k ≤ R.locals) (hR1 : 1 ≤ hgt t k)
    (hIH : ∀ (n y' k' : Nat) (t' : MI), mi? y' = some t' → hgt t' k' < hgt t k → y' ≠ kLaw → ∀ (as : List Value) (σ : Sto) (r : Rs), run Sh n y' k' 0 (ent y' as) [] σ = some r → (wide as).length ≤ mx y' → MetP l G Sh cs y' k' as σ r)
    (hcarry : natP) (hscr : y = kLaw → Scr s G A xx LL) {r : Rs} (hret : RetH p l e R s m args below meth c cells slots Q t G Sh cs A r) :
    ∀ (n i : Nat) (L st : List Value) (σ : Sto), run Sh n y k i L st σ = some r → (y = kLaw → Rows σ xx LL) → Goes1 p l e R s m args below meth c cells slots Q G Sh cs A t.2.2.1 y i L st σ := by
  have C0' := C0
  obtain ⟨hx, hb, hml, hown, hts, hK, hD, hA, hE, hnd, hSh, hcc, hss, hcls, hmok, hck⟩ := C0
  have hF := hE.cat
  intro n
  induction n with
  | zero => intro i L st σ h; cases h
  | succ n ih =>
    intro i L st σ h hrows H locs ls q hq hP hS hl
    replace h : fold1 (run Sh n) (run Sh n y k) i L (act Sh y k i L st σ) = some r := h
    unfold act at h
    cases hfet : fetch y i with
    | none => rw [hfet] at h; exact (no_inv h).elim
    | some ri =>
      obtain ⟨I, q', a, b, d, e', f, p', v, w, ts⟩ := ri
      rw [hfet] at h
      have hqq : q' = q := by rw [← hq]; unfold qo; rw [hfet]
      subst hqq
      have hck1 := hck y i
      unfold chk at hck1
      rw [ht, hfet] at hck1
      unfold chkI at hck1
      dsimp only at hck1
      cases hdec : decode t.2.1 q' with
      | error _ => rw [hdec] at hck1; cases hck1
      | ok jn =>
        obtain ⟨J, len⟩ := jn
        rw [hdec] at hck1
        dsimp only at hck1
        rw [Bool.and_eq_true, decide_eq_true_eq] at hck1
        obtain ⟨rfl, hk⟩ := hck1
        unfold chkK at hk
        have go1 : ∀ {i' : Nat} {st' : List Value} {q2 : Nat}, run Sh n y k i' L st' σ = some r → qo y i' = q2 → W p l e R s m args below meth c H locs cells slots Q (F0 m q2 ls (st'.map (cv G))) := fun h1 h2 => ih _ _ _ _ h1 hrows H locs ls _ h2 hP hS hl
        have sto : ∀ {c' : Nat}, (∃ s', Sh c' = some s') → ∀ {σ' : Sto}, (∀ c2, c2 ≠ c' → σ' c2 = σ c2) → (y = kLaw → Rows σ' xx LL) := fun {c'} ⟨s', hs'⟩ {σ'} ho hy => by
          have h49 := (hSh c' s' hs').2
          obtain ⟨h1, h2⟩ := hrows hy
          exact ⟨by rw [ho 99 (by omega)]; exact h1, by rw [ho 98 (by omega)]; exact h2⟩
        cases J
        case aload_n n =>
          dsimp only at h hk
          obtain ⟨rfl, hnx⟩ := ftC_inv hk
          obtain ⟨x, hn, h⟩ := ldR_inv h
          have h9 := hl.2.2 n.val (.ref x) hn (fun z => by cases z)
          have g9 := go1 h hnx
          rcases hE.orNull x with z | ⟨z1, z⟩
          · have e1 : cv G (.ref x) = .null := z
            rw [e1] at h9
            simp only [List.map_cons, e1] at g9
            exact lv_aload_nN hx hb hdec rfl h9 g9
          · have e1 : cv G (.ref x) = .ref z1 := z
            rw [e1] at h9
            simp only [List.map_cons, e1] at g9
            exact lv_aload_n hx hb hdec rfl h9 g9
        case iload_n n =>
          dsimp only at h hk
          obtain ⟨rfl, hnx⟩ := ftC_inv hk
          obtain ⟨x, hn, h⟩ := ldI_inv h
          exact lv_iload_n hx hb hdec rfl (hl.2.2 n.val (.int x) hn (fun z => by cases z)) (go1 h hnx)
        case lload_n n =>
          dsimp only at h hk
          obtain ⟨rfl, hnx⟩ := ftC_inv hk
          obtain ⟨x, hn, h⟩ := ldJ_inv h
          exact lv_lload_n hx hb hdec rfl (hl.2.2 n.val (.long x) hn (fun z => by cases z)) (go1 h hnx)
        case iload n =>
          dsimp only at h hk
          obtain ⟨rfl, hnx⟩ := ftC_inv hk
          obtain ⟨x, hn, h⟩ := ldI_inv h
          exact lv_iload hx hb hdec (hl.2.2 n (.int x) hn (fun z => by cases z)) (go1 h hnx)
        case lload n =>
          dsimp only at h hk
          obtain ⟨rfl, hnx⟩ := ftC_inv hk
          obtain ⟨x, hn, h⟩ := ldJ_inv h
          exact lv_lload hx hb hdec (hl.2.2 n (.long x) hn (fun z => by cases z)) (go1 h hnx)
        case istore_n n =>
          dsimp only at h hk
          rw [Bool.and_eq_true, decide_eq_true_eq] at hk
          obtain ⟨hk, hlt⟩ := hk
          obtain ⟨rfl, hnx⟩ := ftC_inv hk
          obtain ⟨x, rs, rfl, h⟩ := p1_inv h
          exact lv_istore_n hx hb hdec rfl hl.has hlt rfl (fun ls' hl' => ih _ _ _ _ h hrows H locs ls' _ hnx hP hS (hL.of1 hF (x := .int x) hl'))
        case istore n =>
          dsimp only at h hk
          rw [Bool.and_eq_true, decide_eq_true_eq] at hk
          obtain ⟨hk, hlt⟩ := hk
          obtain ⟨rfl, hnx⟩ := ftC_inv hk
          obtain ⟨x, rs, rfl, h⟩ := p1_inv h
          exact lv_istore hx hb hdec hl.has hlt rfl (fun ls' hl' => ih _ _ _ _ h hrows H locs ls' _ hnx hP hS (hL.of1 hF (x := .int x) hl'))
        case lstore_n n =>
          dsimp only at h hk
          rw [Bool.and_eq_true, decide_eq_true_eq] at hk
          obtain ⟨hk, hlt⟩ := hk
          obtain ⟨rfl, hnx⟩ := ftC_inv hk
          obtain ⟨x, rs, rfl, h⟩ := q1_inv h
          exact lv_lstore_n hx hb hdec rfl hl.has hlt rfl (fun ls' hl' => ih _ _ _ _ h hrows H locs ls' _ hnx hP hS (hL.of2 hF (x := .long x) hl'))
        case lstore n =>
          dsimp only at h hk
          rw [Bool.and_eq_true, decide_eq_true_eq] at hk
          obtain ⟨hk, hlt⟩ := hk
          obtain ⟨rfl, hnx⟩ := ftC_inv hk
          obtain ⟨x, rs, rfl, h⟩ := q1_inv h
          exact lv_lstore hx hb hdec hl.has hlt rfl (fun ls' hl' => ih _ _ _ _ h hrows H locs ls' _ hnx hP hS (hL.of2 hF (x := .long x) hl'))
        case iinc n z =>
          dsimp only at h hk
          rw [Bool.and_eq_true, Bool.and_eq_true, decide_eq_true_eq, decide_eq_true_eq] at hk
          obtain ⟨⟨hk, hlt⟩, hv⟩ := hk
          obtain ⟨rfl, hnx⟩ := ftC_inv hk
          obtain ⟨x, hn, h⟩ := ldI_inv h
          obtain ⟨k9, hk9⟩ := List.mem_iff_getElem?.mp ((asL_mem (G := G) (q := (n, .int x)) L 0).mpr ⟨n, .int x, hn, fun z => (by cases z), by simp [cv]⟩)
          exact lv_iinc hx hb hdec hl.has hk9 (by rw [hv]) hlt rfl (fun ls' hl' => ih _ _ _ _ h hrows H locs ls' _ hnx hP hS (hL.of1 hF (x := .int (x + v)) hl'))
        case iconst z =>
          dsimp only at h hk
          rw [Bool.and_eq_true, decide_eq_true_eq] at hk
          obtain ⟨hk, hv⟩ := hk
          obtain ⟨rfl, hnx⟩ := ftC_inv hk
          exact lv_iconst hx hb hdec hv (go1 h hnx)
        case bipush z =>
          dsimp only at h hk
          rw [Bool.and_eq_true, decide_eq_true_eq] at hk
          obtain ⟨hk, hv⟩ := hk
          obtain ⟨rfl, hnx⟩ := ftC_inv hk
          exact lv_bipush hx hb hdec hv (go1 h hnx)
        case sipush z =>
          dsimp only at h hk
          rw [Bool.and_eq_true, decide_eq_true_eq] at hk
          obtain ⟨hk, hv⟩ := hk
          obtain ⟨rfl, hnx⟩ := ftC_inv hk
          exact lv_sipush hx hb hdec hv (go1 h hnx)
        case lconst z =>
          dsimp only at h hk
          rw [Bool.and_eq_true, decide_eq_true_eq] at hk
          obtain ⟨hk, hv⟩ := hk
          obtain ⟨rfl, hnx⟩ := ftC_inv hk
          exact lv_lconst hx hb hdec hv (go1 h hnx)
        case ldc idx =>
          dsimp only at h hk
          rw [Bool.and_eq_true] at hk
          obtain ⟨hk, hv⟩ := hk
          obtain ⟨rfl, hnx⟩ := ftC_inv hk
          by_cases ha : a = 1
          · rw [if_pos ha] at h hv
            simp only [Bool.and_eq_true, decide_eq_true_eq] at hv
            obtain ⟨⟨h1, h2⟩, h3⟩ := hv
            cases hs : nth strK (b - 100) with
            | none => rw [hs] at h3; cases h3
            | some z =>
              rw [hs] at h3
              have h4 := of_decide_eq_true h3
              have hlt : b - 100 < 12 := nth_lt _ _ _ hs
              have h5 := hE.2.1 _ _ hs
              have e1 : cv G (.ref b) = .ref (G.2.2.2.1 (b - 100)) := by
                show cr G b = _
                unfold cr
                rw [if_neg (by omega), if_pos (by omega)]
              have g9 := go1 h hnx
              simp only [List.map_cons, e1] at g9
              rw [h4] at h5
              rw [h1] at hown
              exact va_ldcS hx hb hown h5 hdec g9
          · rw [if_neg ha] at h hv
            exact lv_ldc hx hb hown (hts _ (wC_inv hv rfl)) hdec (go1 h hnx)
        case ldc_w idx =>
          dsimp only at h hk
          rw [Bool.and_eq_true] at hk
          obtain ⟨hk, hv⟩ := hk
          obtain ⟨rfl, hnx⟩ := ftC_inv hk
          exact lv_ldcw hx hb hown (hts _ (wC_inv hv rfl)) hdec (go1 h hnx)
        case ldc2_w idx =>
          dsimp only at h hk
          rw [Bool.and_eq_true] at hk
          obtain ⟨hk, hv⟩ := hk
          obtain ⟨rfl, hnx⟩ := ftC_inv hk
          exact lv_ldc2 hx hb hown (hts _ (wC_inv hv rfl)) hdec (go1 h hnx)
        case getfield idx =>
          dsimp only at h hk
          rw [Bool.and_eq_true] at hk
          obtain ⟨hk, hv⟩ := hk
          obtain ⟨rfl, hnx⟩ := ftC_inv hk
          replace h := c1_inv h; obtain ⟨c9, rs, rfl, h⟩ := h
          by_cases ha : a = 50
          · rw [if_pos ha] at h hv
            by_cases hc9 : 100 ≤ c9 ∧ c9 < 112
            · rw [if_pos hc9] at h
              have e1 : cv G (.ref c9) = .ref (G.2.2.2.1 (c9 - 100)) := by
                show cr G c9 = _
                unfold cr
                rw [if_neg (by omega), if_pos (by omega)]
              have e2 : cv G (.ref (c9 + 100)) = .ref (G.2.2.2.2.1 (c9 - 100)) := by
                show cr G (c9 + 100) = _
                unfold cr
                rw [if_neg (by omega), if_neg (by omega), if_pos (by omega), show c9 + 100 - 200 = c9 - 100 by omega]
              have g9 := go1 h hnx
              simp only [List.map_cons, e2] at g9
              simp only [List.map_cons, e1]
              exact vk_getf hx hb (hE.1.1 (c9 - 100) (by omega)).2.2.1 hS hown (hts _ (wC_inv hv rfl)) (fun _ z => z) hdec g9
            · rw [if_neg hc9] at h; exact (no_inv h).elim
          · rw [if_neg ha] at h hv
            by_cases ha1 : a = 51
            · rw [if_pos ha1] at h hv
              by_cases hc9 : 100 ≤ c9 ∧ c9 < 112
              · rw [if_pos hc9] at h
                have e1 : cv G (.ref c9) = .ref (G.2.2.2.1 (c9 - 100)) := by
                  show cr G c9 = _
                  unfold cr
                  rw [if_neg (by omega), if_pos (by omega)]
                have g9 := go1 h hnx
                simp only [List.map_cons, e1]
                exact vk_getf hx hb (hE.1.1 (c9 - 100) (by omega)).2.1 hS hown (hts _ (wC_inv hv rfl)) (fun _ z => z) hdec g9
              · rw [if_neg hc9] at h; exact (no_inv h).elim
            · rw [if_neg ha1] at h hv
              obtain ⟨ks, o9, hs9, hn9, h⟩ := fldG_inv h
              obtain ⟨C, T, N, hq9, hbN, hT1, hlk, -⟩ := fldC_inv hv
              obtain ⟨hin9, h49⟩ := hSh _ _ hs9
              obtain ⟨p9, hp9⟩ := List.mem_iff_getElem?.mp hin9
              have e1 : cv G (.ref c9) = .ref (G.1 c9) := cr_lo (by omega)
              have g9 : W p l e R s m args below meth c H locs cells slots Q (F0 m (q' + 3) ls (fieldV G (σ c9 b) o9 :: rs.map (cv G))) := by
                cases o9 with
                | none => exact go1 h hnx
                | some x9 => exact go1 h hnx
              simp only [List.map_cons, e1]
              have hfv := wF_get (G := G) (r := σ c9) ks 0 b o9 hn9
              rw [Nat.zero_add] at hfv
              exact va_get (ref := C) hx hb hts (hcls a C T N hq9).1 hown hK hP p9 (by rw [wW_at hp9, wE_obj hs9]) (by rw [← nth_get]; exact hq9) b hbN (hts _ hlk) (by rw [hT1]; exact fun _ z => z) hfv hdec g9
        case putfield idx =>
          dsimp only at h hk
          rw [Bool.and_eq_true] at hk
          obtain ⟨hk, hv⟩ := hk
          obtain ⟨rfl, hnx⟩ := ftC_inv hk
          replace h := c4_inv h; obtain ⟨c9, x9, rs, rfl, h⟩ := h
          obtain ⟨ks, o9, hs9, hn9, h⟩ := fldG_inv h
          obtain ⟨C, T, N, hq9, hbN, hT1, hlk, hwr⟩ := fldC_inv hv
          obtain ⟨hfin, hdsc⟩ := hwr rfl
          obtain ⟨hin9, h49⟩ := hSh _ _ hs9
          obtain ⟨p9, hp9⟩ := List.mem_iff_getElem?.mp hin9
          obtain ⟨hw9, ty9, hty9, hnm9⟩ := hcls a C T N hq9
          have e1 : cv G (.ref c9) = .ref (G.1 c9) := cr_lo (by omega)
          cases o9 with
          | some z => exact (no_inv h).elim
          | none =>
            dsimp only at h
            have key : ∃ ty : FieldType, parseFieldDescriptor (T b).2.2.1 = some ty ∧ narrow ty (.int x9) = .int x9 ∧ fits ty (.int x9) = true ∧ run Sh n y k (i + 1) L rs (su σ c9 b x9) = some r := by
              by_cases hd : d = 0
              · rw [if_pos hd] at h hdsc
                exact ⟨.int, by rw [hdsc]; rfl, rfl, rfl, h⟩
              · rw [if_neg hd] at h hdsc
                rcases gif_inv h with ⟨hz, h⟩ | ⟨-, h⟩
                · rcases zb_cases hz with rfl | rfl
                  · exact ⟨.boolean, by rw [hdsc]; rfl, rfl, rfl, h⟩
                  · exact ⟨.boolean, by rw [hdsc]; rfl, rfl, rfl, h⟩
                · exact (no_inv h).elim
            obtain ⟨ty, hpd, hna, hfi, h⟩ := key
            have e3 : cv G (.int x9) = .int x9 := rfl
            simp only [List.map_cons, e1, e3]
            refine va_put (ref := C) hx hb hts hw9 ty9 hty9 hnm9 hown hK hP (hD σ) hS p9 (by rw [wW_at hp9, wE_obj hs9]) (by rw [← nth_get]; exact hq9) b hbN (hts _ hlk) (by rw [hT1]; exact fun _ z => z) hfin hpd hna hfi (by rw [wF_len]; exact nth_lt _ _ _ hn9) hdec (fun H1 locs1 hP1 hD1 hS1 => ?_)
            rw [wW_set hnd hp9 (σ' := su σ c9 b x9) (by rw [wE_obj hs9, wF_set ks 0 b hn9, su_row, Nat.zero_add]) (fun c' hc' => su_ne hc')] at hP1
            exact ih _ _ _ _ h (sto ⟨_, hs9⟩ (fun c2 h2 => su_ne h2)) H1 locs1 ls _ hnx hP1 hS1 hl
        case getstatic idx =>
          dsimp only at h hk
          rw [Bool.and_eq_true] at hk
          obtain ⟨hk, hv⟩ := hk
          obtain ⟨rfl, hnx⟩ := ftC_inv hk
          by_cases ha : a = 1
          · rw [if_pos ha] at h hv
            rw [Bool.and_eq_true, decide_eq_true_eq] at hv
            obtain ⟨rfl, hv⟩ := hv
            exact va_gets hx hb hE.2.2.1 hS hown (hts _ (wC_inv hv rfl)) (fun _ z => z) hdec (go1 h hnx)
          · rw [if_neg ha] at h hv
            by_cases ha2 : a = 2
            · rw [if_pos ha2] at h hv
              have g9 := go1 h hnx
              exact va_gets hx hb hE.2.2.2.1 hS hown (hts _ (wC_inv hv rfl)) (fun _ z => z) hdec g9
            · rw [if_neg ha2] at h; exact (no_inv h).elim
        case iaload =>
          dsimp only at h hk
          rw [Bool.and_eq_true] at hk
          obtain ⟨hk, hv⟩ := hk
          obtain ⟨rfl, hnx⟩ := ftC_inv hk
          replace h := c2_inv h; obtain ⟨c9, x9, rs, rfl, h⟩ := h
          by_cases ha : a = 1
          · rw [if_pos ha] at h hv
            have hy := of_decide_eq_true hv
            by_cases hc9 : c9 = 99
            · rw [if_pos hc9] at h
              subst hc9
              obtain ⟨hX, hbl, hbA, hLL⟩ := hscr hy
              obtain ⟨r1, r2⟩ := hrows hy
              rcases gif_inv h with ⟨hz, h⟩ | ⟨-, h⟩
              · rw [r2, nI_clamp hLL] at hz
                have h : run Sh n y k (i + 1) L (.int (σ 99 x9.toNatClampNeg) :: rs) σ = some r := h
                rw [r1] at h
                have e1 : cv G (.ref 99) = .ref (G.1 99) := cr_lo (by omega)
                simp only [List.map_cons, e1]
                exact va_sld hx hb hX hbl hbA hS (inb_in hz) hdec (go1 h hnx)
              · exact (no_inv h).elim
            · rw [if_neg hc9] at h; exact (no_inv h).elim
          · rw [if_neg ha] at h
            obtain ⟨n9, hs9, h⟩ := rowG_inv h
            obtain ⟨hin9, h49⟩ := hSh _ _ hs9
            obtain ⟨p9, hp9⟩ := List.mem_iff_getElem?.mp hin9
            have e1 : cv G (.ref c9) = .ref (G.1 c9) := cr_lo (by omega)
            rcases gif_inv h with ⟨hz, h⟩ | ⟨-, h⟩
            · simp only [List.map_cons, e1]
              exact va_iald hx hb hK hP p9 p9 (by rw [wW_at hp9, wE_arr hs9]) (by rw [tysW_at hp9, tyc_arr hs9]; rfl) (inb_in hz) hdec (go1 h hnx)
            · exact (no_inv h).elim
        case baload =>
          dsimp only at h hk
          obtain ⟨rfl, hnx⟩ := ftC_inv hk
          replace h := c2_inv h; obtain ⟨c9, x9, rs, rfl, h⟩ := h
          by_cases ha : a = 2
          · rw [if_pos ha] at h
            by_cases hc9 : 200 ≤ c9 ∧ c9 < 212
            · rw [if_pos hc9] at h
              rcases gif_inv h with ⟨hz, h⟩ | ⟨-, h⟩
              · have e1 : cv G (.ref c9) = .ref (G.2.2.2.2.1 (c9 - 200)) := by
                  show cr G c9 = _
                  unfold cr
                  rw [if_neg (by omega), if_neg (by omega), if_pos (by omega)]
                have hT := (hE.1.1 (c9 - 200) (by omega)).2.2.2
                rw [lenL_getD _ (by omega), byteL_getD] at hT
                simp only [List.map_cons, e1]
                exact va_tb hx hb hT hS (inb_in hz) rfl hdec (go1 h hnx)
              · exact (no_inv h).elim
            · rw [if_neg hc9] at h; exact (no_inv h).elim
          · rw [if_neg ha] at h
            obtain ⟨n9, hs9, h⟩ := rowG_inv h
            obtain ⟨hin9, h49⟩ := hSh _ _ hs9
            obtain ⟨p9, hp9⟩ := List.mem_iff_getElem?.mp hin9
            have e1 : cv G (.ref c9) = .ref (G.1 c9) := cr_lo (by omega)
            rcases gif_inv h with ⟨hz, h⟩ | ⟨-, h⟩
            · simp only [List.map_cons, e1]
              exact va_zald hx hb hK hP p9 p9 (by rw [wW_at hp9, wE_arr hs9]) (by rw [tysW_at hp9, tyc_arr hs9]; rfl) (inb_in hz) hdec (go1 h hnx)
            · exact (no_inv h).elim
        case iastore =>
          dsimp only at h hk
          obtain ⟨rfl, hnx⟩ := ftC_inv hk
          replace h := c3_inv h; obtain ⟨c9, x9, z9, rs, rfl, h⟩ := h
          obtain ⟨n9, hs9, h⟩ := rowG_inv h
          obtain ⟨hin9, h49⟩ := hSh _ _ hs9
          obtain ⟨p9, hp9⟩ := List.mem_iff_getElem?.mp hin9
          have e1 : cv G (.ref c9) = .ref (G.1 c9) := cr_lo (by omega)
          rcases gif_inv h with ⟨hz, h⟩ | ⟨-, h⟩
          · simp only [List.map_cons, e1]
            refine va_iast hx hb hK hP (hD σ) hS p9 p9 (by rw [wW_at hp9, wE_arr hs9]) (by rw [tysW_at hp9, tyc_arr hs9]; rfl) (inb_in hz) hdec (fun H1 locs1 hP1 hD1 hS1 => ?_)
            rw [wW_set hnd hp9 (σ' := su σ c9 x9.toNatClampNeg z9) (by rw [wE_arr hs9, su_row]) (fun c' hc' => su_ne hc')] at hP1
            exact ih _ _ _ _ h (sto ⟨_, hs9⟩ (fun c2 h2 => su_ne h2)) H1 locs1 ls _ hnx hP1 hS1 hl
          · exact (no_inv h).elim
        case bastore =>
          dsimp only at h hk
          obtain ⟨rfl, hnx⟩ := ftC_inv hk
          replace h := c3_inv h; obtain ⟨c9, x9, z9, rs, rfl, h⟩ := h
          obtain ⟨n9, hs9, h⟩ := rowG_inv h
          obtain ⟨hin9, h49⟩ := hSh _ _ hs9
          obtain ⟨p9, hp9⟩ := List.mem_iff_getElem?.mp hin9
          have e1 : cv G (.ref c9) = .ref (G.1 c9) := cr_lo (by omega)
          rcases gif_inv h with ⟨⟨hz, hzb⟩, h⟩ | ⟨-, h⟩
          · simp only [List.map_cons, e1]
            refine va_zast hx hb hK hP (hD σ) hS p9 p9 (by rw [wW_at hp9, wE_arr hs9]) (by rw [tysW_at hp9, tyc_arr hs9]; rfl) (inb_in hz) hdec (fun H1 locs1 hP1 hD1 hS1 => ?_)
            have e2 : vp_nar .boolean z9 = z9 := by
              rcases zb_cases hzb with rfl | rfl <;> rfl
            rw [e2] at hP1
            rw [wW_set hnd hp9 (σ' := su σ c9 x9.toNatClampNeg z9) (by rw [wE_arr hs9, su_row]) (fun c' hc' => su_ne hc')] at hP1
            exact ih _ _ _ _ h (sto ⟨_, hs9⟩ (fun c2 h2 => su_ne h2)) H1 locs1 ls _ hnx hP1 hS1 hl
          · exact (no_inv h).elim
        case arraylength =>
          dsimp only at h hk
          rw [Bool.and_eq_true] at hk
          obtain ⟨hk, hv⟩ := hk
          obtain ⟨rfl, hnx⟩ := ftC_inv hk
          replace h := c1_inv h; obtain ⟨c9, rs, rfl, h⟩ := h
          by_cases ha : a = 1
          · rw [if_pos ha] at h hv
            have hy := of_decide_eq_true hv
            by_cases hc9 : c9 = 99
            · rw [if_pos hc9] at h
              subst hc9
              obtain ⟨hX, hbl, hbA, hLL⟩ := hscr hy
              obtain ⟨r1, r2⟩ := hrows hy
              rw [r2] at h
              have e1 : cv G (.ref 99) = .ref (G.1 99) := cr_lo (by omega)
              simp only [List.map_cons, e1]
              exact va_slen hx hb hX hbl hbA hS hdec (go1 h hnx)
            · rw [if_neg hc9] at h; exact (no_inv h).elim
          · rw [if_neg ha] at h
            by_cases ha2 : a = 2
            · rw [if_pos ha2] at h
              by_cases hc9 : 200 ≤ c9 ∧ c9 < 212
              · rw [if_pos hc9] at h
                have e1 : cv G (.ref c9) = .ref (G.2.2.2.2.1 (c9 - 200)) := by
                  show cr G c9 = _
                  unfold cr
                  rw [if_neg (by omega), if_neg (by omega), if_pos (by omega)]
                have hT := (hE.1.1 (c9 - 200) (by omega)).2.2.2
                rw [lenL_getD _ (by omega), byteL_getD] at hT
                simp only [List.map_cons, e1]
                exact va_tlen hx hb hT hS rfl hdec (go1 h hnx)
              · rw [if_neg hc9] at h; exact (no_inv h).elim
            · rw [if_neg ha2] at h
              obtain ⟨z9, n9, hs9, h⟩ := rowL_inv h
              obtain ⟨hin9, h49⟩ := hSh _ _ hs9
              obtain ⟨p9, hp9⟩ := List.mem_iff_getElem?.mp hin9
              have e1 : cv G (.ref c9) = .ref (G.1 c9) := cr_lo (by omega)
              simp only [List.map_cons, e1]
              exact va_alen (x := (n9, .inl (σ c9))) hx hb hK hP p9 p9 (by rw [wW_at hp9, wE_arr hs9]) (by rw [tysW_at hp9]) rfl hdec (go1 h hnx)
        case invokevirtual idx =>
          dsimp only at h hk
          by_cases hd : d = 0
          · rw [if_pos hd] at h hk
            rw [Bool.and_eq_true] at hk
            obtain ⟨hk, hcall⟩ := hk
            obtain ⟨rfl, hnx⟩ := ftC_inv hk
            have hrows' : ∀ r1 : Rs, (∀ c', Sh c' = none → r1.2.2 c' = σ c') → (y = kLaw → Rows r1.2.2 xx LL) := fun r1 hr1 hy => by
              have n1 : ∀ c', 49 ≤ c' → Sh c' = none := fun c' h9 => by
                cases hs : Sh c' with
                | none => rfl
                | some z => have := (hSh c' z hs).2; omega
              obtain ⟨h1, h2⟩ := hrows hy
              exact ⟨by rw [hr1 99 (n1 99 (by omega))]; exact h1, by rw [hr1 98 (n1 98 (by omega))]; exact h2⟩
            replace h := popG_inv h; obtain ⟨xs, rs, hlen, rfl, hsum, hwide, h⟩ := h
            obtain ⟨c9, s9, hx9, hrc, h⟩ := recvG_inv h
            have key : ∃ (k' : Nat) (r1 : Rs), (((d = 0 → ts ≠ [] → k' = k + 1 ∧ k < 6) ∧ ((d ≠ 0 ∨ ts = []) → k' = k))) ∧ run Sh n a k' 0 (ent a xs.reverse) [] σ = some r1 ∧ run Sh n y k (i + 1) L (pushR e' r1 rs) r1.2.2 = some r := by
              cases ts with
              | nil =>
                have h : ((run Sh n a k 0 (ent a xs.reverse) [] σ).bind fun r1 => run Sh n y k (i + 1) L (pushR e' r1 rs) r1.2.2) = some r := h
                obtain ⟨r1, h1, h2⟩ := Option.bind_eq_some_iff.mp h
                exact ⟨k, r1, ⟨fun _ z => absurd rfl z, fun _ => rfl⟩, h1, h2⟩
              | cons z ts =>
                rcases gif_inv h with ⟨hk6, h⟩ | ⟨-, h⟩
                · have h : ((run Sh n a (k + 1) 0 (ent a xs.reverse) [] σ).bind fun r1 => run Sh n y k (i + 1) L (pushR e' r1 rs) r1.2.2) = some r := h
                  obtain ⟨r1, h1, h2⟩ := Option.bind_eq_some_iff.mp h
                  exact ⟨k + 1, r1, ⟨fun _ _ => ⟨rfl, hk6⟩, fun z => by rcases z with z | z; exact absurd hd z; cases z⟩, h1, h2⟩
                · exact (no_inv h).elim
            obtain ⟨k', r1, hkk, hr1, h⟩ := key
            exact dc_invoke (y := y) C0' hRf hcall (fun _ _ => hkk) (fun t' ht' hlt hal => hIH n a k' t' ht' hlt hal _ _ _ hr1 hwide) hlen hsum (Or.inl ⟨hd, hdec⟩) (fun _ => ⟨c9, s9, hx9, hrc⟩) hP hS hl.1
              (fun H1 locs1 hP1 hS1 => ih _ _ _ _ h (hrows' r1 (run_rows n _ _ _ _ _ _ _ hr1)) H1 locs1 ls _ hnx hP1 hS1 hl)
          · rw [if_neg hd] at h; exact (no_inv h).elim
        case invokestatic idx =>
          dsimp only at h hk
          by_cases hd3 : d = 3
          · rw [if_pos hd3] at h hk
            rw [Bool.and_eq_true] at hk
            obtain ⟨hk, hv⟩ := hk
            obtain ⟨rfl, hnx⟩ := ftC_inv hk
            unfold carryG at h
            split at h
            · rename_i n9 dp d9 sp c9 rs
              obtain ⟨nc, hsc, h⟩ := rowG_inv h
              obtain ⟨nd, hsd, h⟩ := rowG_inv h
              by_cases hsum : (rs.map fun v => v.category).sum ≤ 8
              · rw [if_pos hsum] at h
                rcases gif_inv h with ⟨⟨g1, g2, g3, g4, g5⟩, h⟩ | ⟨-, h⟩
                · obtain ⟨hin9, h49⟩ := hSh _ _ hsc
                  obtain ⟨p9, hp9⟩ := List.mem_iff_getElem?.mp hin9
                  obtain ⟨hin8, h48⟩ := hSh _ _ hsd
                  obtain ⟨p8, hp8⟩ := List.mem_iff_getElem?.mp hin8
                  have e1 : cv G (.ref c9) = .ref (G.1 c9) := cr_lo (by omega)
                  have e2 : cv G (.ref d9) = .ref (G.1 d9) := cr_lo (by omega)
                  have nn : ∀ z : Int32, 0 ≤ z.toInt → ¬ z < 0 ∧ (z.toNatClampNeg : Int) = z.toInt := fun z hz => by
                    refine ⟨fun hz2 => ?_, ?_⟩
                    · have h3 := Int32.lt_iff_toInt_lt.mp hz2
                      have h0 : (0 : Int32).toInt = 0 := by decide
                      omega
                    · show ((z.toInt.toNat : Nat) : Int) = _
                      omega
                  have a1 := nn sp g1
                  have a2 := nn dp g2
                  have a3 := nn n9 g3
                  simp only [List.map_cons, e1, e2]
                  have hwd := hv
                  refine va_copyi hx hb (by rw [hml]; exact hl.1.symm) hown (hts _ (wC_inv hv rfl)) (hts _ hcarry.1) (hts _ hcarry.2.1) (hts _ hcarry.2.2.1) hK hP (hD σ) hS p9 p8 p9 p8 (by rw [wW_at hp9, wE_arr hsc]) (by rw [wW_at hp8, wE_arr hsd]) (by rw [tysW_at hp9, tyc_arr hsc]) (by rw [tysW_at hp8, tyc_arr hsd]) rfl a1.1 a2.1 a3.1 (by omega) (by omega) (fun _ _ => rfl) (by omega) ?_ hdec (fun H1 locs1 hP1 hD1 hS1 => ?_)
                  · rw [cv_sum hF]
                    have e9 : nativeFrameWords "java/lang/System" "arraycopy" 5 = 7 := by decide +kernel
                    omega
                  · rw [wW_set hnd hp8 (σ' := cpy σ c9 d9 sp dp n9) (by rw [wE_arr hsd]; unfold cpy; rw [if_pos rfl]) (fun c' hc' => if_neg hc')] at hP1
                    exact ih _ _ _ _ h (sto ⟨_, hsd⟩ (fun c2 h2 => if_neg h2)) H1 locs1 ls _ hnx hP1 hS1 hl
                · exact (no_inv h).elim
              · rw [if_neg hsum] at h; exact (no_inv h).elim
            · exact (no_inv h).elim
          · rw [if_neg hd3] at h hk
            have hml2 : c.maxLocals = ls.size := by rw [hml]; exact hl.1.symm
            by_cases hd4 : d = 4
            · rw [if_pos hd4] at h hk
              rw [Bool.and_eq_true] at hk
              obtain ⟨hk, hv⟩ := hk
              obtain ⟨rfl, hnx⟩ := ftC_inv hk
              replace h := p1_inv h; obtain ⟨x9, rs, rfl, h⟩ := h
              by_cases hsum : (rs.map fun v => v.category).sum ≤ 8
              · rw [if_pos hsum] at h
                exact va_mabs hx hb hml2 hown (hts _ (wC_inv hv rfl)) (hts _ hcarry.2.2.2.2.1.1) (hts _ hcarry.2.2.2.1) (hts _ hcarry.2.2.2.2.1.2) (by omega) (by rw [cv_sum hF]; omega) hcc hss hdec (go1 h hnx)
              · rw [if_neg hsum] at h; exact (no_inv h).elim
            rw [if_neg hd4] at h hk
            by_cases hd5 : d = 5
            · rw [if_pos hd5] at h hk
              rw [Bool.and_eq_true] at hk
              obtain ⟨hk, hv⟩ := hk
              obtain ⟨rfl, hnx⟩ := ftC_inv hk
              replace h := p2_inv h; obtain ⟨x9, y9, rs, rfl, h⟩ := h
              by_cases hsum : (rs.map fun v => v.category).sum ≤ 8
              · rw [if_pos hsum] at h
                exact va_mmax hx hb hml2 hown (hts _ (wC_inv hv rfl)) (hts _ hcarry.2.2.2.2.2.1.1) (hts _ hcarry.2.2.2.1) (hts _ hcarry.2.2.2.2.2.1.2) (by omega) (by rw [cv_sum hF]; omega) hcc hss hdec (go1 h hnx)
              · rw [if_neg hsum] at h; exact (no_inv h).elim
            rw [if_neg hd5] at h hk
            by_cases hd6 : d = 6
            · rw [if_pos hd6] at h hk
              rw [Bool.and_eq_true] at hk
              obtain ⟨hk, hv⟩ := hk
              obtain ⟨rfl, hnx⟩ := ftC_inv hk
              replace h := p2_inv h; obtain ⟨x9, y9, rs, rfl, h⟩ := h
              by_cases hsum : (rs.map fun v => v.category).sum ≤ 8
              · rw [if_pos hsum] at h
                exact va_mmin hx hb hml2 hown (hts _ (wC_inv hv rfl)) (hts _ hcarry.2.2.2.2.2.2.1) (hts _ hcarry.2.2.2.1) (hts _ hcarry.2.2.2.2.2.2.2) (by omega) (by rw [cv_sum hF]; omega) hcc hss hdec (go1 h hnx)
              · rw [if_neg hsum] at h; exact (no_inv h).elim
            rw [if_neg hd6] at h hk
            by_cases hd : d = 1 ∨ d = 2
            · rw [if_pos hd] at h hk
              rw [Bool.and_eq_true] at hk
              obtain ⟨hk, hcall⟩ := hk
              obtain ⟨rfl, hnx⟩ := ftC_inv hk
              have hrows' : ∀ r1 : Rs, (∀ c', Sh c' = none → r1.2.2 c' = σ c') → (y = kLaw → Rows r1.2.2 xx LL) := fun r1 hr1 hy => by
                have n1 : ∀ c', 49 ≤ c' → Sh c' = none := fun c' h9 => by
                  cases hs : Sh c' with
                  | none => rfl
                  | some z => have := (hSh c' z hs).2; omega
                obtain ⟨h1, h2⟩ := hrows hy
                exact ⟨by rw [hr1 99 (n1 99 (by omega))]; exact h1, by rw [hr1 98 (n1 98 (by omega))]; exact h2⟩
              replace h := popG_inv h; obtain ⟨xs, rs, hlen, rfl, hsum, hwide, h⟩ := h
              have h : ((run Sh n a k 0 (ent a xs.reverse) [] σ).bind fun r1 => run Sh n y k (i + 1) L (pushR e' r1 rs) r1.2.2) = some r := h
              obtain ⟨r1, hr1, h⟩ := Option.bind_eq_some_iff.mp h
              exact dc_invoke (y := y) (k' := k) C0' hRf hcall (fun _ _ => ⟨fun z => by omega, fun _ => rfl⟩) (fun t' ht' hlt hal => hIH n a k t' ht' hlt hal _ _ _ hr1 hwide) hlen hsum (Or.inr ⟨hd, hdec⟩) (fun z => by omega) hP hS hl.1
                (fun H1 locs1 hP1 hS1 => ih _ _ _ _ h (hrows' r1 (run_rows n _ _ _ _ _ _ _ hr1)) H1 locs1 ls _ hnx hP1 hS1 hl)
            · rw [if_neg hd] at h; exact (no_inv h).elim
        case iadd =>
          dsimp only at h hk
          obtain ⟨rfl, hnx⟩ := ftC_inv hk
          replace h := p2_inv h; obtain ⟨x9, y9, rs, rfl, h⟩ := h
          exact lv_iadd hx hb hdec (go1 h hnx)
        case isub =>
          dsimp only at h hk
          obtain ⟨rfl, hnx⟩ := ftC_inv hk
          replace h := p2_inv h; obtain ⟨x9, y9, rs, rfl, h⟩ := h
          exact lv_isub hx hb hdec (go1 h hnx)
        case imul =>
          dsimp only at h hk
          obtain ⟨rfl, hnx⟩ := ftC_inv hk
          replace h := p2_inv h; obtain ⟨x9, y9, rs, rfl, h⟩ := h
          exact lv_imul hx hb hdec (go1 h hnx)
        case iand =>
          dsimp only at h hk
          obtain ⟨rfl, hnx⟩ := ftC_inv hk
          replace h := p2_inv h; obtain ⟨x9, y9, rs, rfl, h⟩ := h
          exact lv_iand hx hb hdec (go1 h hnx)
        case ior =>
          dsimp only at h hk
          obtain ⟨rfl, hnx⟩ := ftC_inv hk
          replace h := p2_inv h; obtain ⟨x9, y9, rs, rfl, h⟩ := h
          exact lv_ior hx hb hdec (go1 h hnx)
        case ixor =>
          dsimp only at h hk
          obtain ⟨rfl, hnx⟩ := ftC_inv hk
          replace h := p2_inv h; obtain ⟨x9, y9, rs, rfl, h⟩ := h
          exact lv_ixor hx hb hdec (go1 h hnx)
        case ishl =>
          dsimp only at h hk
          obtain ⟨rfl, hnx⟩ := ftC_inv hk
          replace h := p2_inv h; obtain ⟨x9, y9, rs, rfl, h⟩ := h
          exact lv_ishl hx hb hdec (go1 h hnx)
        case ishr =>
          dsimp only at h hk
          obtain ⟨rfl, hnx⟩ := ftC_inv hk
          replace h := p2_inv h; obtain ⟨x9, y9, rs, rfl, h⟩ := h
          exact lv_ishr hx hb hdec (go1 h hnx)
        case iushr =>
          dsimp only at h hk
          obtain ⟨rfl, hnx⟩ := ftC_inv hk
          replace h := p2_inv h; obtain ⟨x9, y9, rs, rfl, h⟩ := h
          exact lv_iushr hx hb hdec rfl (go1 h hnx)
        case idiv =>
          dsimp only at h hk
          obtain ⟨rfl, hnx⟩ := ftC_inv hk
          replace h := p2_inv h; obtain ⟨x9, y9, rs, rfl, h⟩ := h
          rcases gif_inv h with ⟨-, h⟩ | ⟨hz, h⟩
          · cases h
          · exact lv_idiv hx hb hdec hz (go1 h hnx)
        case irem =>
          dsimp only at h hk
          obtain ⟨rfl, hnx⟩ := ftC_inv hk
          replace h := p2_inv h; obtain ⟨x9, y9, rs, rfl, h⟩ := h
          rcases gif_inv h with ⟨-, h⟩ | ⟨hz, h⟩
          · cases h
          · exact lv_irem hx hb hdec hz (go1 h hnx)
        case ineg =>
          dsimp only at h hk
          obtain ⟨rfl, hnx⟩ := ftC_inv hk
          replace h := p1_inv h; obtain ⟨x9, rs, rfl, h⟩ := h
          exact lv_ineg hx hb hdec (go1 h hnx)
        case ladd =>
          dsimp only at h hk
          obtain ⟨rfl, hnx⟩ := ftC_inv hk
          replace h := q2_inv h; obtain ⟨x9, y9, rs, rfl, h⟩ := h
          exact lv_ladd hx hb hdec (go1 h hnx)
        case lsub =>
          dsimp only at h hk
          obtain ⟨rfl, hnx⟩ := ftC_inv hk
          replace h := q2_inv h; obtain ⟨x9, y9, rs, rfl, h⟩ := h
          exact lv_lsub hx hb hdec (go1 h hnx)
        case lmul =>
          dsimp only at h hk
          obtain ⟨rfl, hnx⟩ := ftC_inv hk
          replace h := q2_inv h; obtain ⟨x9, y9, rs, rfl, h⟩ := h
          exact lv_lmul hx hb hdec (go1 h hnx)
        case lor =>
          dsimp only at h hk
          obtain ⟨rfl, hnx⟩ := ftC_inv hk
          replace h := q2_inv h; obtain ⟨x9, y9, rs, rfl, h⟩ := h
          exact lv_lor hx hb hdec (go1 h hnx)
        case lcmp =>
          dsimp only at h hk
          obtain ⟨rfl, hnx⟩ := ftC_inv hk
          replace h := q2_inv h; obtain ⟨x9, y9, rs, rfl, h⟩ := h
          exact W.lcmp hx hb hdec (go1 h hnx)
        case ldiv =>
          dsimp only at h hk
          obtain ⟨rfl, hnx⟩ := ftC_inv hk
          replace h := q2_inv h; obtain ⟨x9, y9, rs, rfl, h⟩ := h
          rcases gif_inv h with ⟨-, h⟩ | ⟨hz, h⟩
          · cases h
          · exact lv_ldiv hx hb hdec hz (go1 h hnx)
        case lrem =>
          dsimp only at h hk
          obtain ⟨rfl, hnx⟩ := ftC_inv hk
          replace h := q2_inv h; obtain ⟨x9, y9, rs, rfl, h⟩ := h
          rcases gif_inv h with ⟨-, h⟩ | ⟨hz, h⟩
          · cases h
          · exact lv_lrem hx hb hdec hz (go1 h hnx)
        case lshl =>
          dsimp only at h hk
          obtain ⟨rfl, hnx⟩ := ftC_inv hk
          replace h := q3_inv h; obtain ⟨x9, y9, rs, rfl, h⟩ := h
          exact lv_lshl hx hb hdec rfl (go1 h hnx)
        case i2l =>
          dsimp only at h hk
          obtain ⟨rfl, hnx⟩ := ftC_inv hk
          replace h := p1_inv h; obtain ⟨x9, rs, rfl, h⟩ := h
          exact lv_i2l hx hb hdec rfl (go1 h hnx)
        case i2b =>
          dsimp only at h hk
          obtain ⟨rfl, hnx⟩ := ftC_inv hk
          replace h := p1_inv h; obtain ⟨x9, rs, rfl, h⟩ := h
          exact lv_i2b hx hb hdec rfl (go1 h hnx)
        case i2s =>
          dsimp only at h hk
          obtain ⟨rfl, hnx⟩ := ftC_inv hk
          replace h := p1_inv h; obtain ⟨x9, rs, rfl, h⟩ := h
          exact lv_i2s hx hb hdec rfl (go1 h hnx)
        case i2c =>
          dsimp only at h hk
          obtain ⟨rfl, hnx⟩ := ftC_inv hk
          replace h := p1_inv h; obtain ⟨x9, rs, rfl, h⟩ := h
          exact lv_i2c hx hb hdec rfl (go1 h hnx)
        case l2i =>
          dsimp only at h hk
          obtain ⟨rfl, hnx⟩ := ftC_inv hk
          replace h := q1_inv h; obtain ⟨x9, rs, rfl, h⟩ := h
          exact lv_l2i hx hb hdec rfl (go1 h hnx)
        case dup =>
          dsimp only at h hk
          obtain ⟨rfl, hnx⟩ := ftC_inv hk
          replace h := d1_inv h; obtain ⟨x9, rs, rfl, hc, h⟩ := h
          exact lv_dup hx hb hdec (by rw [cv_cat hF]; exact hc) (go1 h hnx)
        case dup2 =>
          dsimp only at h hk
          obtain ⟨rfl, hnx⟩ := ftC_inv hk
          replace h := d1_inv h; obtain ⟨x9, rs, rfl, hc, h⟩ := h
          replace h := d1_inv h; obtain ⟨x8, rs, rfl, hc2, h⟩ := h
          exact lv_dup2_11 hx hb hdec (by rw [cv_cat hF]; exact hc) (by rw [cv_cat hF]; exact hc2) (go1 h hnx)
        case pop =>
          dsimp only at h hk
          obtain ⟨rfl, hnx⟩ := ftC_inv hk
          replace h := d1_inv h; obtain ⟨x9, rs, rfl, hc, h⟩ := h
          exact lv_pop hx hb hdec (by rw [cv_cat hF]; exact hc) (go1 h hnx)
        case goto off =>
          dsimp only at h hk
          rw [Bool.and_eq_true, decide_eq_true_eq] at hk
          obtain ⟨rfl, hk⟩ := hk
          exact lv_goto hx hb hdec (mAt_qo hk).symm (go1 h rfl)
        case ifCond o off =>
          dsimp only at h hk
          rw [Bool.and_eq_true] at hk
          obtain ⟨hk, htg⟩ := hk
          obtain ⟨rfl, hnx⟩ := ftC_inv hk
          have htg := (mAt_qo htg).symm
          replace h := p1_inv h; obtain ⟨x9, rs, rfl, h⟩ := h
          cases o
          · dsimp only at h
            rcases gif_inv h with ⟨hz, h⟩ | ⟨hz, h⟩
            · exact lv_if_eq hx hb hdec htg (fun _ => go1 h rfl) (fun z => absurd hz z)
            · exact lv_if_eq hx hb hdec htg (fun z => absurd z hz) (fun _ => go1 h hnx)
          · dsimp only at h
            rcases gif_inv h with ⟨hz, h⟩ | ⟨hz, h⟩
            · exact lv_if_ne hx hb hdec htg (fun z => absurd hz z) (fun _ => go1 h hnx)
            · exact lv_if_ne hx hb hdec htg (fun _ => go1 h rfl) (fun z => absurd z hz)
          · dsimp only at h
            rcases gif_inv h with ⟨hz, h⟩ | ⟨hz, h⟩
            · exact lv_if_lt hx hb hdec htg (fun _ => go1 h rfl) (fun z => absurd hz z)
            · exact lv_if_lt hx hb hdec htg (fun z => absurd z hz) (fun _ => go1 h hnx)
          · dsimp only at h
            rcases gif_inv h with ⟨hz, h⟩ | ⟨hz, h⟩
            · exact lv_if_ge hx hb hdec htg (fun z => absurd z (lt_not_ge hz)) (fun _ => go1 h hnx)
            · exact lv_if_ge hx hb hdec htg (fun _ => go1 h rfl) (fun z => absurd (not_lt_ge hz) z)
          · dsimp only at h
            rcases gif_inv h with ⟨hz, h⟩ | ⟨hz, h⟩
            · exact lv_if_gt hx hb hdec htg (fun _ => go1 h rfl) (fun z => absurd hz z)
            · exact lv_if_gt hx hb hdec htg (fun z => absurd z hz) (fun _ => go1 h hnx)
          · dsimp only at h
            rcases gif_inv h with ⟨hz, h⟩ | ⟨hz, h⟩
            · exact lv_if_le hx hb hdec htg (fun z => absurd z (lt_not_ge hz)) (fun _ => go1 h hnx)
            · exact lv_if_le hx hb hdec htg (fun _ => go1 h rfl) (fun z => absurd (not_lt_ge hz) z)
        case if_icmp o off =>
          dsimp only at h hk
          rw [Bool.and_eq_true] at hk
          obtain ⟨hk, htg⟩ := hk
          obtain ⟨rfl, hnx⟩ := ftC_inv hk
          have htg := (mAt_qo htg).symm
          replace h := p2_inv h; obtain ⟨x9, y9, rs, rfl, h⟩ := h
          cases o
          · dsimp only at h
            rcases gif_inv h with ⟨hz, h⟩ | ⟨hz, h⟩
            · exact lv_icmp_eq hx hb hdec htg (fun _ => go1 h rfl) (fun z => absurd hz z)
            · exact lv_icmp_eq hx hb hdec htg (fun z => absurd z hz) (fun _ => go1 h hnx)
          · dsimp only at h
            rcases gif_inv h with ⟨hz, h⟩ | ⟨hz, h⟩
            · exact lv_icmp_ne hx hb hdec htg (fun z => absurd hz z) (fun _ => go1 h hnx)
            · exact lv_icmp_ne hx hb hdec htg (fun _ => go1 h rfl) (fun z => absurd z hz)
          · dsimp only at h
            rcases gif_inv h with ⟨hz, h⟩ | ⟨hz, h⟩
            · exact lv_icmp_lt hx hb hdec htg (fun _ => go1 h rfl) (fun z => absurd hz z)
            · exact lv_icmp_lt hx hb hdec htg (fun z => absurd z hz) (fun _ => go1 h hnx)
          · dsimp only at h
            rcases gif_inv h with ⟨hz, h⟩ | ⟨hz, h⟩
            · exact lv_icmp_ge hx hb hdec htg (fun z => absurd z (lt_not_ge hz)) (fun _ => go1 h hnx)
            · exact lv_icmp_ge hx hb hdec htg (fun _ => go1 h rfl) (fun z => absurd (not_lt_ge hz) z)
          · dsimp only at h
            rcases gif_inv h with ⟨hz, h⟩ | ⟨hz, h⟩
            · exact lv_icmp_gt hx hb hdec htg (fun _ => go1 h rfl) (fun z => absurd hz z)
            · exact lv_icmp_gt hx hb hdec htg (fun z => absurd z hz) (fun _ => go1 h hnx)
          · dsimp only at h
            rcases gif_inv h with ⟨hz, h⟩ | ⟨hz, h⟩
            · exact lv_icmp_le hx hb hdec htg (fun z => absurd z (lt_not_ge hz)) (fun _ => go1 h hnx)
            · exact lv_icmp_le hx hb hdec htg (fun _ => go1 h rfl) (fun z => absurd (not_lt_ge hz) z)
        case tableswitch dflt lo hi offs =>
          dsimp only at h hk
          rw [Bool.and_eq_true, Bool.and_eq_true, decide_eq_true_eq] at hk
          obtain ⟨⟨htd, htc⟩, hhi⟩ := hk
          replace h := p1_inv h; obtain ⟨x9, rs, rfl, h⟩ := h
          rcases tsC_swc ts offs.toList 0 htc h with ⟨n9, off9, t9, g1, g2, g3, g4⟩ | ⟨g1, g2⟩
          · have hn9 : n9 < offs.size := by
              have := (List.getElem?_eq_some_iff.mp g1).1
              simpa using this
            rw [Nat.zero_add] at g2
            refine lv_tableIn (off := off9) (tgt := qo y t9) hx hb hdec (by omega) (by omega) ?_ g3.symm (go1 g4 rfl)
            rw [show (x9.toInt - lo).toNat = n9 by omega, ← Array.getElem?_toList]
            exact g1
          · refine lv_tableOut (tgt := qo y a) hx hb hdec ?_ (mAt_qo htd).symm (go1 g2 rfl)
            by_cases h9 : x9.toInt < lo
            · exact Or.inl h9
            · refine Or.inr ?_
              by_cases h8 : hi < x9.toInt
              · exact h8
              · exfalso
                have h7 := g1 (x9.toInt - lo).toNat (by simp; omega)
                rw [Nat.zero_add] at h7
                exact h7 (by omega)
        case lookupswitch dflt ps =>
          dsimp only at h hk
          rw [Bool.and_eq_true, Bool.and_eq_true] at hk
          obtain ⟨⟨htd, htc⟩, hinc⟩ := hk
          replace h := p1_inv h; obtain ⟨x9, rs, rfl, h⟩ := h
          obtain ⟨t9, g1, g2⟩ := lsC_swc (mAt_qo htd) ts ps.toList htc h
          exact lv_lookup (tgt := qo y t9) hx hb hdec hinc rfl g1.symm (go1 g2 rfl)
        case ireturn =>
          dsimp only at h hk
          rw [Bool.and_eq_true, decide_eq_true_eq] at hk
          obtain ⟨rfl, hk⟩ := hk
          split at h
          · rename_i x9
            have key : nok a x9 = true ∧ (x9, 0, σ) = r := by
              by_cases ha : a = 0
              · rw [if_pos ha] at h
                have h : some ((x9, 0, σ) : Rs) = some r := h
                exact ⟨by rw [ha]; rfl, Option.some.inj h⟩
              · rw [if_neg ha] at h
                rcases gif_inv h with ⟨hz, h⟩ | ⟨-, h⟩
                · have h : some ((x9, 0, σ) : Rs) = some r := h
                  exact ⟨hz, Option.some.inj h⟩
                · exact (no_inv h).elim
            obtain ⟨hn9, rfl⟩ := key
            exact hret H locs ls q' _ hP hS (Or.inl ⟨a, hdec, hk, hn9, rfl⟩)
          · exact (no_inv h).elim
        case lreturn =>
          dsimp only at h hk
          rw [Bool.and_eq_true, decide_eq_true_eq, decide_eq_true_eq] at hk
          obtain ⟨rfl, hk⟩ := hk
          split at h
          · have h : some ((0, _, σ) : Rs) = some r := h
            obtain rfl := Option.some.inj h
            exact hret H locs ls q' _ hP hS (Or.inr (Or.inl ⟨hdec, hk, rfl⟩))
          · exact (no_inv h).elim
        case return_ =>
          dsimp only at h hk
          rw [Bool.and_eq_true, decide_eq_true_eq, decide_eq_true_eq] at hk
          obtain ⟨rfl, hk⟩ := hk
          split at h
          · have h : some ((0, 0, σ) : Rs) = some r := h
            obtain rfl := Option.some.inj h
            exact hret H locs ls q' _ hP hS (Or.inr (Or.inr ⟨hdec, hk, rfl⟩))
          · exact (no_inv h).elim
        all_goals exact (no_inv h).elim
end WALK
end
section
/-! CONTRACTS of all methods but the law: what the pure machine answers -/
theorem nar_ok {ty : Option FieldType} {a : Nat} {v : Int32} (h1 : narK ty a = true) (h2 : nok a v = true) : ∃ ty', ty = some ty' ∧ narrow ty' (.int v) = .int v ∧ eOf ty = 1 := by
  unfold narK at h1
  split at h1
  · exact ⟨.int, rfl, rfl, rfl⟩
  · refine ⟨.boolean, rfl, ?_, rfl⟩
    rcases zb_cases h2 with rfl | rfl <;> rfl
  · refine ⟨.byte, rfl, ?_, rfl⟩
    have h3 : v.toInt8.toInt32 = v := eq_of_beq h2
    show Value.int v.toInt8.toInt32 = _
    rw [h3]
  · refine ⟨.char, rfl, ?_, rfl⟩
    have h3 : v.toUInt32.toUInt16.toUInt32.toInt32 = v := eq_of_beq h2
    show Value.int v.toUInt32.toUInt16.toUInt32.toInt32 = _
    rw [h3]
  · cases h1
/-- what is checked by evaluation, all in one -/
def Checked : Prop := clsP ∧ (∀ y t, mi? y = some t → y ≠ kLaw → mokP t) ∧ (∀ y i, chk y i = true) ∧ (∀ y, qo y 0 = 0) ∧ (∀ y t, mi? y = some t → 1 ≤ t.2.2.2.2.2.2.1) ∧ natP
set_option maxHeartbeats 4000000 in
theorem metAll {l : Launch} {G : Geo} {Sh : Nat → Option Cs} {cs : List Nat} (hnd : cs.Nodup) (hSh : ∀ c' s', Sh c' = some s' → c' ∈ cs ∧ c' < 49) (CH : Checked) :
    ∀ (h n y k : Nat) (t : MI), mi? y = some t → hgt t k < h → ∀ (as : List Value) (σ : Sto) (r : Rs), run Sh n y k 0 (ent y as) [] σ = some r → (wide as).length ≤ mx y → y ≠ kLaw → MetP l G Sh cs y k as σ r := by
  obtain ⟨hcls, hmok, hck, hq0, hrk, hcarry⟩ := CH
  intro h
  induction h with
  | zero => intro n y k t _ h; omega
  | succ h ih =>
    intro n y k t ht hh as σ r hr hw hy t' ht' sz
    cases ht.symm.trans ht'
    obtain ⟨hcode, hstat, hinst, hini, hn1, hn2, hpar, hpl, hmx⟩ := hmok y t ht hy
    refine Met.ofW (cc := t.2.1) (maxL := t.2.2.1) (ret := t.2.2.2.1) hpl (wsM_head t) ?_
    intro p e s m args below meth c s₁ B hml hv
    obtain ⟨rfl, hsz, hP, hK, hD0, hE⟩ := hv
    have hts := atoms_spec (ws := wsM t) B.pre
    have hown : s.vm.findClass t.1.cls = some m.cls := findClass_of_methodNamed B.named
    subst hsz
    have hD := hD0.self (sz := s.heap.size)
    have hF := hE.cat
    have hmxy : mx y = t.2.2.1 := by unfold mx; rw [ht]; rfl
    have C0 : Ctx p s m (as.map (cv G)).toArray c (headSpec (wsM t) (rmM (hgt t k))).room t G Sh cs (va_A (wW G Sh cs σ) s.heap.size) 0 0 :=
      ⟨B.exec, B.bytes, hml, hown, fun w hw => hts w (List.mem_cons_of_mem _ hw), hK, fun σ' => va_D_any hD, fun q hq => Or.inr hq, hE, hnd, hSh, Nat.le_refl _, Nat.le_refl _, hcls, hmok, hck⟩
    have hret : RetH p l e (headSpec (wsM t) (rmM (hgt t k))).room s m (as.map (cv G)).toArray below meth c 0 0 (MQ below (QW G Sh cs σ s.heap.size (eOf t.2.2.2.1) r) (as.map (cv G)).toArray s 0 0 (va_A (wW G Sh cs σ) s.heap.size)) t G Sh cs (va_A (wW G Sh cs σ) s.heap.size) r := by
      intro H locs ls q st hP1 hS1 hcase
      rcases hcase with ⟨a, hd, hn, hk, rfl⟩ | ⟨hd, hn, rfl⟩ | ⟨hd, hn, rfl⟩
      · obtain ⟨ty, e1, e2, e3⟩ := nar_ok hn hk
        refine W.zret (ty := ty) B.exec B.bytes (by rw [B.returns, e1]) e2 (fun t1 ht1 hW1 => ⟨by rw [e3]; rfl, by rw [ht1]; exact hP1, hS1.F ht1⟩) hS1.2.2 hd B.notSynchronized
      · refine W.lret B.exec B.bytes (by rw [B.returns, hn]) (fun t1 ht1 hW1 => ⟨by rw [hn]; rfl, by rw [ht1]; exact hP1, hS1.F ht1⟩) hS1.2.2 hd B.notSynchronized
      · refine W.vret B.exec B.bytes (by rw [B.returns, hn]) (fun t1 ht1 hW1 => ⟨by rw [hn]; rfl, by rw [ht1]; exact hP1, hS1.F ht1⟩) hS1.2.2 hd B.notSynchronized
    have h1 : 1 ≤ hgt t k := Nat.le_trans (hrk y t ht) (Nat.le_add_right _ _)
    have hl := hL.entry (y := y) hF hmxy (by rw [← hmxy]; exact hw)
    rw [lg_entry_eq]
    exact sim (xx := fun _ => 0) (LL := 0) ht C0 ⟨Nat.le_refl _, Nat.le_refl _⟩ h1 (fun n' y' k' t2 ht2 hlt hy2 as' σ' r' hr' hw' => ih n' y' k' t2 ht2 (by omega) as' σ' r' hr' hw' hy2) hcarry (fun z => absurd z hy) hret n 0 (ent y as) [] σ hr (fun z => absurd z hy) s.heap [] _ 0 (hq0 y) hP va_S.rf hl
end
section
/-! R: the run, without its steps' number -/
theorem fold_mono {K K2 : KT} {K' K2' : Nat → List Value → List Value → Sto → Option Rs} (hK : ∀ y k i L st σ r, K y k i L st σ = some r → K2 y k i L st σ = some r) (hK' : ∀ i L st σ r, K' i L st σ = some r → K2' i L st σ = some r)
    {i : Nat} {L : List Value} {z : Option Lf} {r : Rs} : ∀ gs : List (Gd × Option Lf), fold K K' i L z gs = some r → fold K2 K2' i L z gs = some r := by
  have key : ∀ o : Option Lf, lfK K K' i L o = some r → lfK K2 K2' i L o = some r := by
    intro o h
    match o, h with
    | none, h => cases h
    | some (.inl (i', L', st', σ')), h => exact hK' _ _ _ _ _ h
    | some (.inr (.inl (y', k', as, σ', kk))), h =>
      have h1 : ((K y' k' 0 (ent y' as) [] σ').bind fun r => K' (i + 1) L (kk r) r.2.2) = some r := h
      obtain ⟨r1, h2, h3⟩ := Option.bind_eq_some_iff.mp h1
      exact Option.bind_eq_some_iff.mpr ⟨r1, hK _ _ _ _ _ _ _ h2, hK' _ _ _ _ _ h3⟩
    | some (.inr (.inr r')), h => exact h
  intro gs
  induction gs with
  | nil => intro h; exact key z h
  | cons g gs ih =>
    intro h
    by_cases hp : g.1.1
    · have h1 : ∀ A B, fold A B i L z (g :: gs) = lfK A B i L g.2 := fun A B => @if_pos _ g.1.2 hp _ _ _
      rw [h1] at h ⊢
      exact key g.2 h
    · have h1 : ∀ A B, fold A B i L z (g :: gs) = fold A B i L z gs := fun A B => @if_neg _ g.1.2 hp _ _ _
      rw [h1] at h ⊢
      exact ih h
theorem run_succ {Sh : Nat → Option Cs} : ∀ (n y k i : Nat) (L st : List Value) (σ : Sto) (r : Rs), run Sh n y k i L st σ = some r → run Sh (n + 1) y k i L st σ = some r := by
  intro n
  induction n with
  | zero => intro y k i L st σ r h; cases h
  | succ n ih => intro y k i L st σ r h; exact fold_mono ih (ih y k) _ h
theorem run_le {Sh : Nat → Option Cs} {n n' : Nat} (hn : n ≤ n') {y k i : Nat} {L st : List Value} {σ : Sto} {r : Rs} (h : run Sh n y k i L st σ = some r) : run Sh n' y k i L st σ = some r := by
  induction hn with
  | refl => exact h
  | step _ ih => exact run_succ _ _ _ _ _ _ _ _ ih
/-- what a run comes to, if it comes to an end -/
noncomputable def R (y k i : Nat) (L st : List Value) (σ : Sto) : Option Rs :=
  @dite _ (∃ (n : Nat) (r : Rs), run ShF n y k i L st σ = some r) (Classical.propDecidable _) (fun h => some h.choose_spec.choose) (fun _ => none)
theorem R_of {n y k i : Nat} {L st : List Value} {σ : Sto} {r : Rs} (h : run ShF n y k i L st σ = some r) : R y k i L st σ = some r := by
  have hex : ∃ (n : Nat) (r : Rs), run ShF n y k i L st σ = some r := ⟨n, r, h⟩
  unfold R
  rw [dif_pos hex]
  have h1 := hex.choose_spec.choose_spec
  have h2 := run_le (Nat.le_max_left n hex.choose) h
  have h3 := run_le (Nat.le_max_right n hex.choose) h1
  rw [h2] at h3
  exact h3.symm
theorem R_ex {y k i : Nat} {L st : List Value} {σ : Sto} {r : Rs} (h : R y k i L st σ = some r) : ∃ n, run ShF n y k i L st σ = some r := by
  by_cases hex : ∃ (n : Nat) (r : Rs), run ShF n y k i L st σ = some r
  · obtain ⟨n, r', h'⟩ := hex
    have h1 := R_of h'
    rw [h] at h1
    exact ⟨n, by rw [h']; exact h1.symm⟩
  · unfold R at h
    rw [dif_neg hex] at h
    cases h
theorem fold_ex {i y k : Nat} {L : List Value} {z : Option Lf} {r : Rs} : ∀ gs : List (Gd × Option Lf), fold R (R y k) i L z gs = some r → ∃ n, fold (run ShF n) (run ShF n y k) i L z gs = some r := by
  have key : ∀ o : Option Lf, lfK R (R y k) i L o = some r → ∃ n, lfK (run ShF n) (run ShF n y k) i L o = some r := by
    intro o h
    match o, h with
    | none, h => cases h
    | some (.inl (i', L', st', σ')), h => exact R_ex h
    | some (.inr (.inl (y', k', as, σ', kk))), h =>
      have h1 : ((R y' k' 0 (ent y' as) [] σ').bind fun r => R y k (i + 1) L (kk r) r.2.2) = some r := h
      obtain ⟨r1, h2, h3⟩ := Option.bind_eq_some_iff.mp h1
      obtain ⟨n1, h2⟩ := R_ex h2
      obtain ⟨n2, h3⟩ := R_ex h3
      exact ⟨max n1 n2, Option.bind_eq_some_iff.mpr ⟨r1, run_le (Nat.le_max_left _ _) h2, run_le (Nat.le_max_right _ _) h3⟩⟩
    | some (.inr (.inr r')), h => exact ⟨0, h⟩
  intro gs
  induction gs with
  | nil => intro h; exact key z h
  | cons g gs ih =>
    intro h
    by_cases hp : g.1.1
    · have h1 : ∀ A B, fold A B i L z (g :: gs) = lfK A B i L g.2 := fun A B => @if_pos _ g.1.2 hp _ _ _
      rw [h1] at h
      obtain ⟨n, hn⟩ := key g.2 h
      exact ⟨n, by rw [h1]; exact hn⟩
    · have h1 : ∀ A B, fold A B i L z (g :: gs) = fold A B i L z gs := fun A B => @if_neg _ g.1.2 hp _ _ _
      rw [h1] at h
      obtain ⟨n, hn⟩ := ih h
      exact ⟨n, by rw [h1]; exact hn⟩
/-- a run is its first step, and the rest -/
theorem R_step (y k i : Nat) (L st : List Value) (σ : Sto) : fold1 R (R y k) i L (act ShF y k i L st σ) = R y k i L st σ := by
  cases h : fold1 R (R y k) i L (act ShF y k i L st σ) with
  | some r =>
    obtain ⟨n, hn⟩ := fold_ex _ h
    exact (R_of (n := n + 1) hn).symm
  | none =>
    cases h2 : R y k i L st σ with
    | none => rfl
    | some r =>
      obtain ⟨n, hn⟩ := R_ex h2
      cases n with
      | zero => cases hn
      | succ n =>
        have h3 := fold_mono (K := run ShF n) (K2 := R) (K' := run ShF n y k) (K2' := R y k) (fun _ _ _ _ _ _ _ z => R_of z) (fun _ _ _ _ _ z => R_of z) _ hn
        have h4 : fold1 R (R y k) i L (act ShF y k i L st σ) = some r := h3
        rw [h] at h4
        cases h4
theorem unr_R (stops : List Nat) (y k : Nat) : ∀ (n i : Nat) (L st : List Value) (σ : Sto), R y k i L st σ = unr ShF R stops y k n i L st σ := by
  intro n
  induction n with
  | zero => intro i L st σ; rfl
  | succ n ih =>
    intro i L st σ
    have h1 : ∀ i L st σ, stp (R y k) (unr ShF R stops y k n) stops i L st σ = R y k i L st σ := by
      intro i L st σ
      unfold stp
      split
      · rfl
      · exact (ih _ _ _ _).symm
    have h2 : stp (R y k) (unr ShF R stops y k n) stops = R y k := by
      funext i L st σ
      exact h1 i L st σ
    show _ = fold1 R (stp (R y k) (unr ShF R stops y k n) stops) i L (act ShF y k i L st σ)
    rw [h2, R_step]
/-- a call -/
noncomputable def C (y k : Nat) (as : List Value) (σ : Sto) : Option Rs := R y k 0 (ent y as) [] σ
end
section
/-! EQUATIONS of the methods 0 .. 53 -/
-- J6_bitCount_0f7a4
theorem eJ6_bitCount (k : Nat) (p1 : Int32) (σ : Sto) : C nJ6_bitCount k [.int p1] σ =
  some (((((((((p1 - (((Int32.toUInt32 p1 >>> (Int32.toUInt32 1 &&& Int32.toUInt32 31)).toInt32) &&& 1431655765)) &&& 858993459) + (((Int32.toUInt32 (p1 - (((Int32.toUInt32 p1 >>> (Int32.toUInt32 1 &&& Int32.toUInt32 31)).toInt32) &&& 1431655765)) >>> (Int32.toUInt32 2 &&& Int32.toUInt32 31)).toInt32) &&& 858993459)) + ((Int32.toUInt32 (((p1 - (((Int32.toUInt32 p1 >>> (Int32.toUInt32 1 &&& Int32.toUInt32 31)).toInt32) &&& 1431655765)) &&& 858993459) + (((Int32.toUInt32 (p1 - (((Int32.toUInt32 p1 >>> (Int32.toUInt32 1 &&& Int32.toUInt32 31)).toInt32) &&& 1431655765)) >>> (Int32.toUInt32 2 &&& Int32.toUInt32 31)).toInt32) &&& 858993459)) >>> (Int32.toUInt32 4 &&& Int32.toUInt32 31)).toInt32)) &&& 252645135) + ((Int32.toUInt32 (((((p1 - (((Int32.toUInt32 p1 >>> (Int32.toUInt32 1 &&& Int32.toUInt32 31)).toInt32) &&& 1431655765)) &&& 858993459) + (((Int32.toUInt32 (p1 - (((Int32.toUInt32 p1 >>> (Int32.toUInt32 1 &&& Int32.toUInt32 31)).toInt32) &&& 1431655765)) >>> (Int32.toUInt32 2 &&& Int32.toUInt32 31)).toInt32) &&& 858993459)) + ((Int32.toUInt32 (((p1 - (((Int32.toUInt32 p1 >>> (Int32.toUInt32 1 &&& Int32.toUInt32 31)).toInt32) &&& 1431655765)) &&& 858993459) + (((Int32.toUInt32 (p1 - (((Int32.toUInt32 p1 >>> (Int32.toUInt32 1 &&& Int32.toUInt32 31)).toInt32) &&& 1431655765)) >>> (Int32.toUInt32 2 &&& Int32.toUInt32 31)).toInt32) &&& 858993459)) >>> (Int32.toUInt32 4 &&& Int32.toUInt32 31)).toInt32)) &&& 252645135) >>> (Int32.toUInt32 8 &&& Int32.toUInt32 31)).toInt32)) + ((Int32.toUInt32 ((((((p1 - (((Int32.toUInt32 p1 >>> (Int32.toUInt32 1 &&& Int32.toUInt32 31)).toInt32) &&& 1431655765)) &&& 858993459) + (((Int32.toUInt32 (p1 - (((Int32.toUInt32 p1 >>> (Int32.toUInt32 1 &&& Int32.toUInt32 31)).toInt32) &&& 1431655765)) >>> (Int32.toUInt32 2 &&& Int32.toUInt32 31)).toInt32) &&& 858993459)) + ((Int32.toUInt32 (((p1 - (((Int32.toUInt32 p1 >>> (Int32.toUInt32 1 &&& Int32.toUInt32 31)).toInt32) &&& 1431655765)) &&& 858993459) + (((Int32.toUInt32 (p1 - (((Int32.toUInt32 p1 >>> (Int32.toUInt32 1 &&& Int32.toUInt32 31)).toInt32) &&& 1431655765)) >>> (Int32.toUInt32 2 &&& Int32.toUInt32 31)).toInt32) &&& 858993459)) >>> (Int32.toUInt32 4 &&& Int32.toUInt32 31)).toInt32)) &&& 252645135) + ((Int32.toUInt32 (((((p1 - (((Int32.toUInt32 p1 >>> (Int32.toUInt32 1 &&& Int32.toUInt32 31)).toInt32) &&& 1431655765)) &&& 858993459) + (((Int32.toUInt32 (p1 - (((Int32.toUInt32 p1 >>> (Int32.toUInt32 1 &&& Int32.toUInt32 31)).toInt32) &&& 1431655765)) >>> (Int32.toUInt32 2 &&& Int32.toUInt32 31)).toInt32) &&& 858993459)) + ((Int32.toUInt32 (((p1 - (((Int32.toUInt32 p1 >>> (Int32.toUInt32 1 &&& Int32.toUInt32 31)).toInt32) &&& 1431655765)) &&& 858993459) + (((Int32.toUInt32 (p1 - (((Int32.toUInt32 p1 >>> (Int32.toUInt32 1 &&& Int32.toUInt32 31)).toInt32) &&& 1431655765)) >>> (Int32.toUInt32 2 &&& Int32.toUInt32 31)).toInt32) &&& 858993459)) >>> (Int32.toUInt32 4 &&& Int32.toUInt32 31)).toInt32)) &&& 252645135) >>> (Int32.toUInt32 8 &&& Int32.toUInt32 31)).toInt32)) >>> (Int32.toUInt32 16 &&& Int32.toUInt32 31)).toInt32)) &&& 63), 0, σ) := (unr_R [] nJ6_bitCount k 400 0 _ _ _).trans rfl
-- J0_length_8abf5
theorem eJ0_length (k : Nat)  (w : Nat) (hw : w = 100 ∨ w = 101 ∨ w = 102 ∨ w = 103 ∨ w = 104 ∨ w = 105 ∨ w = 106 ∨ w = 107 ∨ w = 108 ∨ w = 109 ∨ w = 110 ∨ w = 111) (σ : Sto) : C nJ0_length k [.ref w] σ =
  (C nJ0_coder k [.ref w] σ).bind fun r1 =>
    some (((Int32.ofNat (byteOf ((w + 100) - 200)).length) >>> (r1.1 &&& 31)), 0, r1.2.2) := by rcases hw with rfl | rfl | rfl | rfl | rfl | rfl | rfl | rfl | rfl | rfl | rfl | rfl <;> exact (unr_R [] nJ0_length k 400 0 _ _ _).trans rfl
-- J0_coder_7d493
theorem eJ0_coder (k : Nat)  (w : Nat) (hw : w = 100 ∨ w = 101 ∨ w = 102 ∨ w = 103 ∨ w = 104 ∨ w = 105 ∨ w = 106 ∨ w = 107 ∨ w = 108 ∨ w = 109 ∨ w = 110 ∨ w = 111) (σ : Sto) : C nJ0_coder k [.ref w] σ =
  if nok 2 0 = true then
    some (0, 0, σ)
  else
    none := by rcases hw with rfl | rfl | rfl | rfl | rfl | rfl | rfl | rfl | rfl | rfl | rfl | rfl <;> exact (unr_R [] nJ0_coder k 400 0 _ _ _).trans rfl
-- J0_isLatin1_aae02
theorem eJ0_isLatin1 (k : Nat)  (w : Nat) (hw : w = 100 ∨ w = 101 ∨ w = 102 ∨ w = 103 ∨ w = 104 ∨ w = 105 ∨ w = 106 ∨ w = 107 ∨ w = 108 ∨ w = 109 ∨ w = 110 ∨ w = 111) (σ : Sto) : C nJ0_isLatin1 k [.ref w] σ =
  some (1, 0, σ) := by rcases hw with rfl | rfl | rfl | rfl | rfl | rfl | rfl | rfl | rfl | rfl | rfl | rfl <;> exact (unr_R [] nJ0_isLatin1 k 400 0 _ _ _).trans rfl
-- J0_charAt_5068e
theorem eJ0_charAt (k : Nat)  (w : Nat) (hw : w = 100 ∨ w = 101 ∨ w = 102 ∨ w = 103 ∨ w = 104 ∨ w = 105 ∨ w = 106 ∨ w = 107 ∨ w = 108 ∨ w = 109 ∨ w = 110 ∨ w = 111) (p1 : Int32) (σ : Sto) : C nJ0_charAt k [.ref w, .int p1] σ =
  (C nJ0_isLatin1 k [.ref w] σ).bind fun r1 =>
    if r1.1 = 0 then
      none
    else
      (C nJ1_charAt k [.ref (w + 100), .int p1] r1.2.2).bind fun r2 =>
        if nok 3 r2.1 = true then
          some (r2.1, 0, r2.2.2)
        else
          none := by rcases hw with rfl | rfl | rfl | rfl | rfl | rfl | rfl | rfl | rfl | rfl | rfl | rfl <;> exact (unr_R [] nJ0_charAt k 400 0 _ _ _).trans rfl
-- J0_checkIndex_df160
theorem eJ0_checkIndex (k : Nat) (p1 : Int32) (p2 : Int32) (σ : Sto) : C nJ0_checkIndex k [.int p1, .int p2] σ =
  (C nJ3_checkIndex k [.int p1, .int p2, .ref 300] σ).bind fun r1 =>
    some (0, 0, r1.2.2) := (unr_R [] nJ0_checkIndex k 400 0 _ _ _).trans rfl
-- J1_charAt_3b067
theorem eJ1_charAt (k : Nat)  (v : Nat) (hv : v = 200 ∨ v = 201 ∨ v = 202 ∨ v = 203 ∨ v = 204 ∨ v = 205 ∨ v = 206 ∨ v = 207 ∨ v = 208 ∨ v = 209 ∨ v = 210 ∨ v = 211) (p2 : Int32) (σ : Sto) : C nJ1_charAt k [.ref v, .int p2] σ =
  (C nJ0_checkIndex k [.int p2, .int (Int32.ofNat (byteOf (v - 200)).length)] σ).bind fun r1 =>
    if inb p2 (byteOf (v - 200)).length = true then
      if nok 3 ((Int32.toUInt32 (((byteOf (v - 200)).getD p2.toNatClampNeg 0) &&& 255) % 65536).toInt32) = true then
        some (((Int32.toUInt32 (((byteOf (v - 200)).getD p2.toNatClampNeg 0) &&& 255) % 65536).toInt32), 0, r1.2.2)
      else
        none
    else
      none := by rcases hv with rfl | rfl | rfl | rfl | rfl | rfl | rfl | rfl | rfl | rfl | rfl | rfl <;> exact (unr_R [] nJ1_charAt k 400 0 _ _ _).trans rfl
-- J3_checkIndex_8e157
theorem eJ3_checkIndex (k : Nat) (p1 : Int32) (p2 : Int32) (σ : Sto) : C nJ3_checkIndex k [.int p1, .int p2, .ref 300] σ =
  if p1 < 0 then
    none
  else
    if p1 < p2 then
      some (p1, 0, σ)
    else
      none := (unr_R [] nJ3_checkIndex k 400 0 _ _ _).trans rfl
-- X0_faultOf
theorem eD_faultOf (k : Nat) (p1 : Int32) (σ : Sto) : C nD_faultOf k [.ref 7, .int p1] σ =
  (C nD_take k [.ref 7] (su (su (su (su σ 7 2 (minI p1 160)) 7 3 0) 7 7 (-1)) 7 8 (((su (su (su σ 7 2 (minI p1 160)) 7 3 0) 7 7 (-1)) 2 4) * 160))).bind fun r1 =>
    R nD_faultOf k 22 [.ref 7, .int p1, .int 0, .null] [] r1.2.2 := (unr_R [22] nD_faultOf k 400 0 _ _ _).trans rfl
theorem eD_faultOf_22 (k : Nat) (v1 : Int32) (v2 : Int32) (u3 : Value) (σ : Sto) : R nD_faultOf k 22 [.ref 7, .int v1, .int v2, u3] [] σ =
  if v2 < 3 then
    (C nD_expect k [.ref 7, .int (10 + v2)] σ).bind fun r1 =>
      if inb (((σ 2 4) * 3) + v2) 18 = true then
        (C nD_either k [.ref 7, .int 0] (su r1.2.2 4 (((σ 2 4) * 3) + v2).toNatClampNeg (r1.2.2 7 8))).bind fun r2 =>
          if inb (((σ 2 4) * 3) + v2) 18 = true then
            (C nD_expect k [.ref 7, .int 4] (su r2.2.2 5 (((σ 2 4) * 3) + v2).toNatClampNeg (r2.2.2 7 8))).bind fun r3 =>
              R nD_faultOf k 22 [.ref 7, .int v1, .int (v2 + 1), .int (((σ 2 4) * 3) + v2)] [] r3.2.2
          else
            none
      else
        none
  else
    (C nD_expect k [.ref 7, .int 5] σ).bind fun r1 =>
      some ((r1.2.2 7 7), 0, r1.2.2) := (unr_R [22] nD_faultOf k 400 22 _ _ _).trans rfl
-- X0_fail
theorem eD_fail (k : Nat) (σ : Sto) : C nD_fail k [.ref 7] σ =
  if (σ 7 7) = (-1) then
    some (0, 0, (su (su σ 7 7 (σ 7 4)) 7 5 6))
  else
    some (0, 0, (su σ 7 5 6)) := (unr_R [] nD_fail k 400 0 _ _ _).trans rfl
-- X0_expect
theorem eD_expect (k : Nat) (p1 : Int32) (σ : Sto) : C nD_expect k [.ref 7, .int p1] σ =
  if (σ 7 5) = p1 then
    (C nD_take k [.ref 7] σ).bind fun r1 =>
      some (0, 0, r1.2.2)
  else
    (C nD_fail k [.ref 7] σ).bind fun r1 =>
      some (0, 0, r1.2.2) := (unr_R [] nD_expect k 400 0 _ _ _).trans rfl
-- X0_write
theorem eD_write (k : Nat) (p1 : Int32) (σ : Sto) : C nD_write k [.ref 7, .int p1] σ =
  if (σ 7 8) < 960 then
    if inb (σ 7 8) 960 = true then
      some (0, 0, (su (su σ 3 (σ 7 8).toNatClampNeg p1) 7 8 (((su σ 3 (σ 7 8).toNatClampNeg p1) 7 8) + 1)))
    else
      none
  else
    some (0, 0, σ) := (unr_R [] nD_write k 400 0 _ _ _).trans rfl
-- X0_either
theorem eD_either (k : Nat) (p1 : Int32) (σ : Sto) : C nD_either k [.ref 7, .int p1] σ =
  (C nD_both k [.ref 7, .int p1] σ).bind fun r1 =>
    R nD_either k 5 [.ref 7, .int p1, .int 0] [] r1.2.2 := (unr_R [5] nD_either k 400 0 _ _ _).trans rfl
theorem eD_either_5 (k : Nat) (v1 : Int32) (v2 : Int32) (σ : Sto) : R nD_either k 5 [.ref 7, .int v1, .int v2] [] σ =
  if v2 < 160 then
    if (σ 7 5) = (-9) then
      (C nD_take k [.ref 7] σ).bind fun r1 =>
        (C nD_both k [.ref 7, .int v1] r1.2.2).bind fun r2 =>
          (C nD_write k [.ref 7, .int (-9)] r2.2.2).bind fun r3 =>
            R nD_either k 5 [.ref 7, .int v1, .int (v2 + 1)] [] r3.2.2
    else
      some (0, 0, σ)
  else
    some (0, 0, σ) := (unr_R [5] nD_either k 400 5 _ _ _).trans rfl
-- X0_both
theorem eD_both (k : Nat) (p1 : Int32) (σ : Sto) : C nD_both k [.ref 7, .int p1] σ =
  (C nD_negation k [.ref 7, .int p1] σ).bind fun r1 =>
    R nD_both k 5 [.ref 7, .int p1, .int 0] [] r1.2.2 := (unr_R [5] nD_both k 400 0 _ _ _).trans rfl
theorem eD_both_5 (k : Nat) (v1 : Int32) (v2 : Int32) (σ : Sto) : R nD_both k 5 [.ref 7, .int v1, .int v2] [] σ =
  if v2 < 160 then
    if (σ 7 5) = (-10) then
      (C nD_take k [.ref 7] σ).bind fun r1 =>
        (C nD_negation k [.ref 7, .int v1] r1.2.2).bind fun r2 =>
          (C nD_write k [.ref 7, .int (-10)] r2.2.2).bind fun r3 =>
            R nD_both k 5 [.ref 7, .int v1, .int (v2 + 1)] [] r3.2.2
    else
      some (0, 0, σ)
  else
    some (0, 0, σ) := (unr_R [5] nD_both k 400 5 _ _ _).trans rfl
-- X0_negation
theorem eD_negation (k : Nat) (p1 : Int32) (σ : Sto) : C nD_negation k [.ref 7, .int p1] σ =
  if (σ 7 5) = (-8) then
    if p1 < 5 then
      (C nD_take k [.ref 7] σ).bind fun r1 =>
        if k < 6 then
          (C nD_negation (k + 1) [.ref 7, .int (p1 + 1)] r1.2.2).bind fun r2 =>
            (C nD_write k [.ref 7, .int (-8)] r2.2.2).bind fun r3 =>
              some (0, 0, r3.2.2)
        else
          none
    else
      (C nD_fail k [.ref 7] σ).bind fun r1 =>
        some (0, 0, r1.2.2)
  else
    (C nD_comparison k [.ref 7, .int p1] σ).bind fun r1 =>
      some (0, 0, r1.2.2) := (unr_R [] nD_negation k 400 0 _ _ _).trans rfl
-- X0_comparison
theorem eD_comparison (k : Nat) (p1 : Int32) (σ : Sto) : C nD_comparison k [.ref 7, .int p1] σ =
  (C nD_sum k [.ref 7, .int p1] σ).bind fun r1 =>
    if (r1.2.2 7 5) = (-11) then
      (C nD_take k [.ref 7] r1.2.2).bind fun r2 =>
        (C nD_sum k [.ref 7, .int p1] r2.2.2).bind fun r3 =>
          (C nD_write k [.ref 7, .int (r1.2.2 7 5)] r3.2.2).bind fun r4 =>
            some (0, 0, r4.2.2)
    else
      if (r1.2.2 7 5) = (-12) then
        (C nD_take k [.ref 7] r1.2.2).bind fun r2 =>
          (C nD_sum k [.ref 7, .int p1] r2.2.2).bind fun r3 =>
            (C nD_write k [.ref 7, .int (r1.2.2 7 5)] r3.2.2).bind fun r4 =>
              some (0, 0, r4.2.2)
      else
        some (0, 0, r1.2.2) := (unr_R [] nD_comparison k 400 0 _ _ _).trans rfl
-- X0_sum
theorem eD_sum (k : Nat) (p1 : Int32) (σ : Sto) : C nD_sum k [.ref 7, .int p1] σ =
  (C nD_term k [.ref 7, .int p1] σ).bind fun r1 =>
    R nD_sum k 5 [.ref 7, .int p1, .int 0, .null] [] r1.2.2 := (unr_R [5] nD_sum k 400 0 _ _ _).trans rfl
theorem eD_sum_5 (k : Nat) (v1 : Int32) (v2 : Int32) (u3 : Value) (σ : Sto) : R nD_sum k 5 [.ref 7, .int v1, .int v2, u3] [] σ =
  if v2 < 160 then
    if (σ 7 5) = (-13) then
      (C nD_take k [.ref 7] σ).bind fun r1 =>
        (C nD_term k [.ref 7, .int v1] r1.2.2).bind fun r2 =>
          (C nD_write k [.ref 7, .int (σ 7 5)] r2.2.2).bind fun r3 =>
            R nD_sum k 5 [.ref 7, .int v1, .int (v2 + 1), .int (σ 7 5)] [] r3.2.2
    else
      if (σ 7 5) = (-14) then
        (C nD_take k [.ref 7] σ).bind fun r1 =>
          (C nD_term k [.ref 7, .int v1] r1.2.2).bind fun r2 =>
            (C nD_write k [.ref 7, .int (σ 7 5)] r2.2.2).bind fun r3 =>
              R nD_sum k 5 [.ref 7, .int v1, .int (v2 + 1), .int (σ 7 5)] [] r3.2.2
      else
        some (0, 0, σ)
  else
    some (0, 0, σ) := (unr_R [5] nD_sum k 400 5 _ _ _).trans rfl
-- X0_term
theorem eD_term (k : Nat) (p1 : Int32) (σ : Sto) : C nD_term k [.ref 7, .int p1] σ =
  (C nD_one k [.ref 7, .int p1] σ).bind fun r1 =>
    R nD_term k 5 [.ref 7, .int p1, .int 0] [] r1.2.2 := (unr_R [5] nD_term k 400 0 _ _ _).trans rfl
theorem eD_term_5 (k : Nat) (v1 : Int32) (v2 : Int32) (σ : Sto) : R nD_term k 5 [.ref 7, .int v1, .int v2] [] σ =
  if v2 < 160 then
    if (σ 7 5) = (-15) then
      (C nD_take k [.ref 7] σ).bind fun r1 =>
        (C nD_one k [.ref 7, .int v1] r1.2.2).bind fun r2 =>
          (C nD_write k [.ref 7, .int (-15)] r2.2.2).bind fun r3 =>
            R nD_term k 5 [.ref 7, .int v1, .int (v2 + 1)] [] r3.2.2
    else
      some (0, 0, σ)
  else
    some (0, 0, σ) := (unr_R [5] nD_term k 400 5 _ _ _).trans rfl
-- X0_one
theorem eD_one (k : Nat) (p1 : Int32) (σ : Sto) : C nD_one k [.ref 7, .int p1] σ =
  if (σ 7 5) = (-14) then
    R nD_one k 8 [.ref 7, .int p1, .null] [] σ
  else
    if (σ 7 5) = 2 then
      R nD_one k 8 [.ref 7, .int p1, .null] [] σ
    else
      if (σ 7 5) = 1 then
        (C nD_write k [.ref 7, .int (σ 7 6)] σ).bind fun r1 =>
          (C nD_take k [.ref 7] r1.2.2).bind fun r2 =>
            some (0, 0, r2.2.2)
      else
        if (-1) < (σ 7 5) then
          (C nD_fail k [.ref 7] σ).bind fun r1 =>
            some (0, 0, r1.2.2)
        else
          if (σ 7 5) < (-6) then
            (C nD_fail k [.ref 7] σ).bind fun r1 =>
              some (0, 0, r1.2.2)
          else
            (C nD_write k [.ref 7, .int (σ 7 5)] σ).bind fun r1 =>
              (C nD_take k [.ref 7] r1.2.2).bind fun r2 =>
                some (0, 0, r2.2.2) := (unr_R [8] nD_one k 400 0 _ _ _).trans rfl
set_option maxRecDepth 1000000 in
theorem eD_one_8 (k : Nat) (v1 : Int32) (σ : Sto) : R nD_one k 8 [.ref 7, .int v1, .null] [] σ =
  if (σ 7 5) = 1 then
    (C nD_write k [.ref 7, .int (σ 7 6)] σ).bind fun r1 =>
      (C nD_take k [.ref 7] r1.2.2).bind fun r2 =>
        some (0, 0, r2.2.2)
  else
    if (-1) < (σ 7 5) then
      if v1 < 5 then
        if (σ 7 5) = (-14) then
          (C nD_take k [.ref 7] σ).bind fun r1 =>
            if k < 6 then
              (C nD_one (k + 1) [.ref 7, .int (v1 + 1)] r1.2.2).bind fun r2 =>
                (C nD_write k [.ref 7, .int (-7)] r2.2.2).bind fun r3 =>
                  some (0, 0, r3.2.2)
            else
              none
        else
          (C nD_take k [.ref 7] σ).bind fun r1 =>
            if k < 6 then
              (C nD_either (k + 1) [.ref 7, .int (v1 + 1)] r1.2.2).bind fun r2 =>
                (C nD_expect k [.ref 7, .int 3] r2.2.2).bind fun r3 =>
                  some (0, 0, r3.2.2)
            else
              none
      else
        (C nD_fail k [.ref 7] σ).bind fun r1 =>
          some (0, 0, r1.2.2)
    else
      if (σ 7 5) < (-6) then
        if v1 < 5 then
          if (σ 7 5) = (-14) then
            (C nD_take k [.ref 7] σ).bind fun r1 =>
              if k < 6 then
                (C nD_one (k + 1) [.ref 7, .int (v1 + 1)] r1.2.2).bind fun r2 =>
                  (C nD_write k [.ref 7, .int (-7)] r2.2.2).bind fun r3 =>
                    some (0, 0, r3.2.2)
              else
                none
          else
            (C nD_take k [.ref 7] σ).bind fun r1 =>
              if k < 6 then
                (C nD_either (k + 1) [.ref 7, .int (v1 + 1)] r1.2.2).bind fun r2 =>
                  (C nD_expect k [.ref 7, .int 3] r2.2.2).bind fun r3 =>
                    some (0, 0, r3.2.2)
              else
                none
        else
          (C nD_fail k [.ref 7] σ).bind fun r1 =>
            some (0, 0, r1.2.2)
      else
        (C nD_write k [.ref 7, .int (σ 7 5)] σ).bind fun r1 =>
          (C nD_take k [.ref 7] r1.2.2).bind fun r2 =>
            some (0, 0, r2.2.2) := (unr_R [8] nD_one k 400 8 _ _ _).trans rfl
-- X0_take
theorem eD_take (k : Nat) (σ : Sto) : C nD_take k [.ref 7] σ =
  if (σ 7 7) = (-1) then
    R nD_take k 8 [.ref 7, .int (σ 7 3)] [] σ
  else
    some (0, 0, σ) := (unr_R [8, 31] nD_take k 400 0 _ _ _).trans rfl
theorem eD_take_8 (k : Nat) (v1 : Int32) (σ : Sto) : R nD_take k 8 [.ref 7, .int v1] [] σ =
  if v1 < (σ 7 2) then
    if inb v1 160 = true then
      if (σ 1 v1.toNatClampNeg) = 32 then
        R nD_take k 8 [.ref 7, .int (v1 + 1)] [] (su σ 7 3 (v1 + 1))
      else
        if inb v1 160 = true then
          if (σ 1 v1.toNatClampNeg) = 10 then
            R nD_take k 8 [.ref 7, .int (v1 + 1)] [] (su σ 7 3 (v1 + 1))
          else
            R nD_take k 31 [.ref 7, .int v1] [] σ
        else
          none
    else
      none
  else
    R nD_take k 31 [.ref 7, .int v1] [] σ := (unr_R [8, 31] nD_take k 400 8 _ _ _).trans rfl
theorem eD_take_31 (k : Nat) (v1 : Int32) (σ : Sto) : R nD_take k 31 [.ref 7, .int v1] [] σ =
  if ((su σ 7 4 (σ 7 3)) 7 3) < ((su σ 7 4 (σ 7 3)) 7 2) then
    if inb ((su σ 7 4 (σ 7 3)) 7 3) 160 = true then
      (C nD_isLetter k [.int ((su σ 7 4 (σ 7 3)) 1 ((su σ 7 4 (σ 7 3)) 7 3).toNatClampNeg)] (su σ 7 4 (σ 7 3))).bind fun r1 =>
        if r1.1 = 0 then
          if inb (r1.2.2 7 3) 160 = true then
            (C nD_isDigit k [.int (r1.2.2 1 (r1.2.2 7 3).toNatClampNeg)] r1.2.2).bind fun r2 =>
              if r2.1 = 0 then
                if inb (r2.2.2 7 3) 160 = true then
                  (C nD_signOf k [.int (r2.2.2 1 (r2.2.2 7 3).toNatClampNeg)] r2.2.2).bind fun r3 =>
                    some (0, 0, (su (su r3.2.2 7 5 r3.1) 7 3 (((su r3.2.2 7 5 r3.1) 7 3) + 1)))
                else
                  none
              else
                (C nD_takeNumber k [.ref 7] r2.2.2).bind fun r3 =>
                  some (0, 0, r3.2.2)
          else
            none
        else
          (C nD_takeWord k [.ref 7] r1.2.2).bind fun r2 =>
            some (0, 0, r2.2.2)
    else
      none
  else
    some (0, 0, (su (su σ 7 4 (σ 7 3)) 7 5 5)) := (unr_R [8, 31] nD_take k 400 31 _ _ _).trans rfl
-- X0_takeWord
theorem eD_takeWord (k : Nat) (σ : Sto) : C nD_takeWord k [.ref 7] σ =
  R nD_takeWord k 3 [.ref 7, .int (σ 7 4)] [] σ := (unr_R [3, 20] nD_takeWord k 400 0 _ _ _).trans rfl
theorem eD_takeWord_3 (k : Nat) (v1 : Int32) (σ : Sto) : R nD_takeWord k 3 [.ref 7, .int v1] [] σ =
  if v1 < (σ 7 2) then
    if inb v1 160 = true then
      (C nD_isLetter k [.int (σ 1 v1.toNatClampNeg)] σ).bind fun r1 =>
        if r1.1 = 0 then
          R nD_takeWord k 20 [.ref 7, .int v1] [] r1.2.2
        else
          R nD_takeWord k 3 [.ref 7, .int (v1 + 1)] [] (su r1.2.2 7 3 (v1 + 1))
    else
      none
  else
    R nD_takeWord k 20 [.ref 7, .int v1] [] σ := (unr_R [3, 20] nD_takeWord k 400 3 _ _ _).trans rfl
set_option maxRecDepth 1000000 in
theorem eD_takeWord_20 (k : Nat) (v1 : Int32) (σ : Sto) : R nD_takeWord k 20 [.ref 7, .int v1] [] σ =
  (C nD_isWord k [.ref 7, .ref 100] σ).bind fun r1 =>
    if r1.1 = 0 then
      (C nD_isWord k [.ref 7, .ref 101] r1.2.2).bind fun r2 =>
        if r2.1 = 0 then
          (C nD_isWord k [.ref 7, .ref 102] r2.2.2).bind fun r3 =>
            if r3.1 = 0 then
              (C nD_isWord k [.ref 7, .ref 103] r3.2.2).bind fun r4 =>
                if r4.1 = 0 then
                  (C nD_isWord k [.ref 7, .ref 104] r4.2.2).bind fun r5 =>
                    if r5.1 = 0 then
                      (C nD_isWord k [.ref 7, .ref 105] r5.2.2).bind fun r6 =>
                        if r6.1 = 0 then
                          (C nD_isWord k [.ref 7, .ref 106] r6.2.2).bind fun r7 =>
                            if r7.1 = 0 then
                              (C nD_isWord k [.ref 7, .ref 107] r7.2.2).bind fun r8 =>
                                if r8.1 = 0 then
                                  (C nD_isWord k [.ref 7, .ref 108] r8.2.2).bind fun r9 =>
                                    if r9.1 = 0 then
                                      (C nD_isWord k [.ref 7, .ref 109] r9.2.2).bind fun r10 =>
                                        if r10.1 = 0 then
                                          (C nD_isWord k [.ref 7, .ref 110] r10.2.2).bind fun r11 =>
                                            if r11.1 = 0 then
                                              (C nD_isWord k [.ref 7, .ref 111] r11.2.2).bind fun r12 =>
                                                if r12.1 = 0 then
                                                  some (0, 0, (su r12.2.2 7 5 6))
                                                else
                                                  some (0, 0, (su r12.2.2 7 5 (-6)))
                                            else
                                              some (0, 0, (su r11.2.2 7 5 (-5)))
                                        else
                                          some (0, 0, (su r10.2.2 7 5 (-4)))
                                    else
                                      some (0, 0, (su r9.2.2 7 5 (-3)))
                                else
                                  some (0, 0, (su r8.2.2 7 5 (-2)))
                            else
                              some (0, 0, (su r7.2.2 7 5 (-1)))
                        else
                          some (0, 0, (su r6.2.2 7 5 (-8)))
                    else
                      some (0, 0, (su r5.2.2 7 5 (-10)))
                else
                  some (0, 0, (su r4.2.2 7 5 (-9)))
            else
              some (0, 0, (su r3.2.2 7 5 12))
        else
          some (0, 0, (su r2.2.2 7 5 11))
    else
      some (0, 0, (su r1.2.2 7 5 10)) := (unr_R [3, 20] nD_takeWord k 400 20 _ _ _).trans rfl
-- X0_isWord
theorem eD_isWord (k : Nat)  (w : Nat) (hw : w = 100 ∨ w = 101 ∨ w = 102 ∨ w = 103 ∨ w = 104 ∨ w = 105 ∨ w = 106 ∨ w = 107 ∨ w = 108 ∨ w = 109 ∨ w = 110 ∨ w = 111) (σ : Sto) : C nD_isWord k [.ref 7, .ref w] σ =
  (C nJ0_length k [.ref w] σ).bind fun r1 =>
    if ((σ 7 3) - (σ 7 4)) = r1.1 then
      R nD_isWord k 12 [.ref 7, .ref w, .int 0] [] r1.2.2
    else
      some (0, 0, r1.2.2) := by rcases hw with rfl | rfl | rfl | rfl | rfl | rfl | rfl | rfl | rfl | rfl | rfl | rfl <;> exact (unr_R [12] nD_isWord k 400 0 _ _ _).trans rfl
theorem eD_isWord_12 (k : Nat)  (w : Nat) (hw : w = 100 ∨ w = 101 ∨ w = 102 ∨ w = 103 ∨ w = 104 ∨ w = 105 ∨ w = 106 ∨ w = 107 ∨ w = 108 ∨ w = 109 ∨ w = 110 ∨ w = 111) (v2 : Int32) (σ : Sto) : R nD_isWord k 12 [.ref 7, .ref w, .int v2] [] σ =
  (C nJ0_length k [.ref w] σ).bind fun r1 =>
    if v2 < r1.1 then
      if inb ((r1.2.2 7 4) + v2) 160 = true then
        (C nJ0_charAt k [.ref w, .int v2] r1.2.2).bind fun r2 =>
          if (r1.2.2 1 ((r1.2.2 7 4) + v2).toNatClampNeg) = r2.1 then
            R nD_isWord k 12 [.ref 7, .ref w, .int (v2 + 1)] [] r2.2.2
          else
            some (0, 0, r2.2.2)
      else
        none
    else
      some (1, 0, r1.2.2) := by rcases hw with rfl | rfl | rfl | rfl | rfl | rfl | rfl | rfl | rfl | rfl | rfl | rfl <;> exact (unr_R [12] nD_isWord k 400 12 _ _ _).trans rfl
-- X0_takeNumber
theorem eD_takeNumber (k : Nat) (σ : Sto) : C nD_takeNumber k [.ref 7] σ =
  R nD_takeNumber k 6 [.ref 7, .int ((su σ 7 6 0) 7 4)] [] (su σ 7 6 0) := (unr_R [6] nD_takeNumber k 400 0 _ _ _).trans rfl
theorem eD_takeNumber_6 (k : Nat) (v1 : Int32) (σ : Sto) : R nD_takeNumber k 6 [.ref 7, .int v1] [] σ =
  if v1 < (σ 7 2) then
    if inb v1 160 = true then
      (C nD_isDigit k [.int (σ 1 v1.toNatClampNeg)] σ).bind fun r1 =>
        if r1.1 = 0 then
          if 4 < ((r1.2.2 7 3) - (r1.2.2 7 4)) then
            some (0, 0, (su r1.2.2 7 5 6))
          else
            some (0, 0, (su r1.2.2 7 5 1))
        else
          if inb v1 160 = true then
            R nD_takeNumber k 6 [.ref 7, .int (v1 + 1)] [] (su (su r1.2.2 7 3 (v1 + 1)) 7 6 (((((su r1.2.2 7 3 (v1 + 1)) 7 6) * 10) + ((su r1.2.2 7 3 (v1 + 1)) 1 v1.toNatClampNeg)) - 48))
          else
            none
    else
      none
  else
    if 4 < ((σ 7 3) - (σ 7 4)) then
      some (0, 0, (su σ 7 5 6))
    else
      some (0, 0, (su σ 7 5 1)) := (unr_R [6] nD_takeNumber k 400 6 _ _ _).trans rfl
-- X0_isLetter
theorem eD_isLetter (k : Nat) (p1 : Int32) (σ : Sto) : C nD_isLetter k [.int p1] σ =
  if p1 < 97 then
    some (0, 0, σ)
  else
    if 122 < p1 then
      some (0, 0, σ)
    else
      some (1, 0, σ) := (unr_R [] nD_isLetter k 400 0 _ _ _).trans rfl
-- X0_isDigit
theorem eD_isDigit (k : Nat) (p1 : Int32) (σ : Sto) : C nD_isDigit k [.int p1] σ =
  if p1 < 48 then
    some (0, 0, σ)
  else
    if 57 < p1 then
      some (0, 0, σ)
    else
      some (1, 0, σ) := (unr_R [] nD_isDigit k 400 0 _ _ _).trans rfl
-- X0_signOf
set_option maxRecDepth 1000000 in
theorem eD_signOf (k : Nat) (p1 : Int32) (σ : Sto) : C nD_signOf k [.int p1] σ =
  if p1 = 40 then
    some (2, 0, σ)
  else
    if p1 = 41 then
      some (3, 0, σ)
    else
      if p1 = 42 then
        some ((-15), 0, σ)
      else
        if p1 = 43 then
          some ((-13), 0, σ)
        else
          if p1 = 44 then
            some (6, 0, σ)
          else
            if p1 = 45 then
              some ((-14), 0, σ)
            else
              if p1 = 46 then
                some (6, 0, σ)
              else
                if p1 = 47 then
                  some (6, 0, σ)
                else
                  if p1 = 48 then
                    some (6, 0, σ)
                  else
                    if p1 = 49 then
                      some (6, 0, σ)
                    else
                      if p1 = 50 then
                        some (6, 0, σ)
                      else
                        if p1 = 51 then
                          some (6, 0, σ)
                        else
                          if p1 = 52 then
                            some (6, 0, σ)
                          else
                            if p1 = 53 then
                              some (6, 0, σ)
                            else
                              if p1 = 54 then
                                some (6, 0, σ)
                              else
                                if p1 = 55 then
                                  some (6, 0, σ)
                                else
                                  if p1 = 56 then
                                    some (6, 0, σ)
                                  else
                                    if p1 = 57 then
                                      some (6, 0, σ)
                                    else
                                      if p1 = 58 then
                                        some (6, 0, σ)
                                      else
                                        if p1 = 59 then
                                          some (4, 0, σ)
                                        else
                                          if p1 = 60 then
                                            some ((-11), 0, σ)
                                          else
                                            if p1 = 61 then
                                              some ((-12), 0, σ)
                                            else
                                              some (6, 0, σ) := (unr_R [] nD_signOf k 400 0 _ _ _).trans rfl
-- X1_has
theorem eH_has (k : Nat) (p1 : Int32) (σ : Sto) : C nH_has k [.ref 8, .int p1] σ =
  if p1 < 0 then
    some (0, 0, σ)
  else
    if p1 < 4 then
      some (1, 0, σ)
    else
      some (0, 0, σ) := (unr_R [] nH_has k 400 0 _ _ _).trans rfl
-- X1_holds
theorem eH_holds (k : Nat) (p1 : Int32) (p2 : Int64) (p3 : Int32) (σ : Sto) : C nH_holds k [.ref 8, .int p1, .long p2, .int p3] σ =
  if (lg_cmp p2 0) < 0 then
    some (0, 0, σ)
  else
    if inb p1 4 = true then
      if 0 < (lg_cmp (p2 + (Int32.toInt64 p3)) (Int32.toInt64 (σ 11 p1.toNatClampNeg))) then
        some (0, 0, σ)
      else
        some (1, 0, σ)
    else
      none := (unr_R [] nH_holds k 400 0 _ _ _).trans rfl
-- X1_renew
theorem eH_renew (k : Nat) (p1 : Int32) (p2 : Int32) (p3 : Int32) (σ : Sto) : C nH_renew k [.ref 8, .int p1, .int p2, .int p3] σ =
  if inb p1 4 = true then
    if inb p1 4 = true then
      R nH_renew k 12 [.ref 8, .int p1, .int p2, .int p3, .int 0] [] (su (su σ 10 p1.toNatClampNeg p2) 11 p1.toNatClampNeg p3)
    else
      none
  else
    none := (unr_R [12] nH_renew k 400 0 _ _ _).trans rfl
theorem eH_renew_12 (k : Nat) (v1 : Int32) (v2 : Int32) (v3 : Int32) (v4 : Int32) (σ : Sto) : R nH_renew k 12 [.ref 8, .int v1, .int v2, .int v3, .int v4] [] σ =
  if v4 < v3 then
    if inb ((v1 * 40) + v4) 160 = true then
      R nH_renew k 12 [.ref 8, .int v1, .int v2, .int v3, .int (v4 + 1)] [] (su σ 9 ((v1 * 40) + v4).toNatClampNeg 0)
    else
      none
  else
    some (0, 0, σ) := (unr_R [12] nH_renew k 400 12 _ _ _).trans rfl
-- X1_read
theorem eH_read (k : Nat) (p1 : Int32) (p2 : Int32) (σ : Sto) : C nH_read k [.ref 8, .int p1, .int p2] σ =
  if inb ((p1 * 40) + p2) 160 = true then
    some ((σ 9 ((p1 * 40) + p2).toNatClampNeg), 0, σ)
  else
    none := (unr_R [] nH_read k 400 0 _ _ _).trans rfl
-- X1_write
theorem eH_write (k : Nat) (p1 : Int32) (p2 : Int32) (p3 : Int32) (σ : Sto) : C nH_write k [.ref 8, .int p1, .int p2, .int p3] σ =
  if inb p1 4 = true then
    if (σ 10 p1.toNatClampNeg) = 0 then
      if inb ((p1 * 40) + p2) 160 = true then
        some (0, 0, (su σ 9 ((p1 * 40) + p2).toNatClampNeg ((Int32.toInt8 p3).toInt32)))
      else
        none
    else
      if inb p1 4 = true then
        if (σ 10 p1.toNatClampNeg) = 1 then
          if inb ((p1 * 40) + p2) 160 = true then
            some (0, 0, (su σ 9 ((p1 * 40) + p2).toNatClampNeg ((Int32.toInt16 p3).toInt32)))
          else
            none
        else
          if inb ((p1 * 40) + p2) 160 = true then
            some (0, 0, (su σ 9 ((p1 * 40) + p2).toNatClampNeg p3))
          else
            none
      else
        none
  else
    none := (unr_R [] nH_write k 400 0 _ _ _).trans rfl
-- X1_carry
theorem eH_carry (k : Nat) (p1 : Int32) (p2 : Int32) (p3 : Int32) (p4 : Int32) (p5 : Int32) (σ : Sto) : C nH_carry k [.ref 8, .int p1, .int p2, .int p3, .int p4, .int p5] σ =
  if 0 ≤ (((p1 * 40) + p2)).toInt ∧ 0 ≤ (((p3 * 40) + p4)).toInt ∧ 0 ≤ (p5).toInt ∧ (((p1 * 40) + p2)).toInt + (p5).toInt ≤ ((160 : Nat) : Int) ∧ (((p3 * 40) + p4)).toInt + (p5).toInt ≤ ((160 : Nat) : Int) then
    some (0, 0, (cpy σ 9 9 ((p1 * 40) + p2) ((p3 * 40) + p4) p5))
  else
    none := (unr_R [] nH_carry k 400 0 _ _ _).trans rfl
-- X2_becomes
theorem eS_becomes (k : Nat) (c d : Nat) (hc : (c = 18 ∧ d = 12) ∨ (c = 24 ∧ d = 12) ∨ (c = 12 ∧ d = 24)) (σ : Sto) : C nS_becomes k [.ref c, .ref d] σ =
  R nS_becomes k 2 [.ref c, .ref d, .int 0] [] σ := by rcases hc with ⟨rfl, rfl⟩ | ⟨rfl, rfl⟩ | ⟨rfl, rfl⟩ <;> exact (unr_R [2] nS_becomes k 400 0 _ _ _).trans rfl
set_option maxRecDepth 1000000 in
theorem eS_becomes_2 (k : Nat) (c d : Nat) (hc : (c = 18 ∧ d = 12) ∨ (c = 24 ∧ d = 12) ∨ (c = 12 ∧ d = 24)) (v2 : Int32) (σ : Sto) : R nS_becomes k 2 [.ref c, .ref d, .int v2] [] σ =
  if v2 < (σ d 6) then
    if inb v2 6 = true then
      if inb v2 6 = true then
        if inb v2 6 = true then
          if inb v2 6 = true then
            if inb v2 6 = true then
              if inb v2 6 = true then
                if inb v2 6 = true then
                  if inb v2 6 = true ∧ zb ((su (su (su σ (c + 1) v2.toNatClampNeg (σ (d + 1) v2.toNatClampNeg)) (c + 2) v2.toNatClampNeg ((su σ (c + 1) v2.toNatClampNeg (σ (d + 1) v2.toNatClampNeg)) (d + 2) v2.toNatClampNeg)) (c + 3) v2.toNatClampNeg ((su (su σ (c + 1) v2.toNatClampNeg (σ (d + 1) v2.toNatClampNeg)) (c + 2) v2.toNatClampNeg ((su σ (c + 1) v2.toNatClampNeg (σ (d + 1) v2.toNatClampNeg)) (d + 2) v2.toNatClampNeg)) (d + 3) v2.toNatClampNeg)) (d + 4) v2.toNatClampNeg) = true then
                    if inb v2 6 = true then
                      if inb v2 6 = true then
                        R nS_becomes k 2 [.ref c, .ref d, .int (v2 + 1)] [] (su (su (su (su (su σ (c + 1) v2.toNatClampNeg (σ (d + 1) v2.toNatClampNeg)) (c + 2) v2.toNatClampNeg ((su σ (c + 1) v2.toNatClampNeg (σ (d + 1) v2.toNatClampNeg)) (d + 2) v2.toNatClampNeg)) (c + 3) v2.toNatClampNeg ((su (su σ (c + 1) v2.toNatClampNeg (σ (d + 1) v2.toNatClampNeg)) (c + 2) v2.toNatClampNeg ((su σ (c + 1) v2.toNatClampNeg (σ (d + 1) v2.toNatClampNeg)) (d + 2) v2.toNatClampNeg)) (d + 3) v2.toNatClampNeg)) (c + 4) v2.toNatClampNeg ((su (su (su σ (c + 1) v2.toNatClampNeg (σ (d + 1) v2.toNatClampNeg)) (c + 2) v2.toNatClampNeg ((su σ (c + 1) v2.toNatClampNeg (σ (d + 1) v2.toNatClampNeg)) (d + 2) v2.toNatClampNeg)) (c + 3) v2.toNatClampNeg ((su (su σ (c + 1) v2.toNatClampNeg (σ (d + 1) v2.toNatClampNeg)) (c + 2) v2.toNatClampNeg ((su σ (c + 1) v2.toNatClampNeg (σ (d + 1) v2.toNatClampNeg)) (d + 2) v2.toNatClampNeg)) (d + 3) v2.toNatClampNeg)) (d + 4) v2.toNatClampNeg)) (c + 5) v2.toNatClampNeg ((su (su (su (su σ (c + 1) v2.toNatClampNeg (σ (d + 1) v2.toNatClampNeg)) (c + 2) v2.toNatClampNeg ((su σ (c + 1) v2.toNatClampNeg (σ (d + 1) v2.toNatClampNeg)) (d + 2) v2.toNatClampNeg)) (c + 3) v2.toNatClampNeg ((su (su σ (c + 1) v2.toNatClampNeg (σ (d + 1) v2.toNatClampNeg)) (c + 2) v2.toNatClampNeg ((su σ (c + 1) v2.toNatClampNeg (σ (d + 1) v2.toNatClampNeg)) (d + 2) v2.toNatClampNeg)) (d + 3) v2.toNatClampNeg)) (c + 4) v2.toNatClampNeg ((su (su (su σ (c + 1) v2.toNatClampNeg (σ (d + 1) v2.toNatClampNeg)) (c + 2) v2.toNatClampNeg ((su σ (c + 1) v2.toNatClampNeg (σ (d + 1) v2.toNatClampNeg)) (d + 2) v2.toNatClampNeg)) (c + 3) v2.toNatClampNeg ((su (su σ (c + 1) v2.toNatClampNeg (σ (d + 1) v2.toNatClampNeg)) (c + 2) v2.toNatClampNeg ((su σ (c + 1) v2.toNatClampNeg (σ (d + 1) v2.toNatClampNeg)) (d + 2) v2.toNatClampNeg)) (d + 3) v2.toNatClampNeg)) (d + 4) v2.toNatClampNeg)) (d + 5) v2.toNatClampNeg))
                      else
                        none
                    else
                      none
                  else
                    none
                else
                  none
              else
                none
            else
              none
          else
            none
        else
          none
      else
        none
    else
      none
  else
    some (0, 0, (su (su (su (su (su (su σ c 6 (σ d 6)) c 7 ((su σ c 6 (σ d 6)) d 7)) c 8 ((su (su σ c 6 (σ d 6)) c 7 ((su σ c 6 (σ d 6)) d 7)) d 8)) c 9 ((su (su (su σ c 6 (σ d 6)) c 7 ((su σ c 6 (σ d 6)) d 7)) c 8 ((su (su σ c 6 (σ d 6)) c 7 ((su σ c 6 (σ d 6)) d 7)) d 8)) d 9)) c 10 ((su (su (su (su σ c 6 (σ d 6)) c 7 ((su σ c 6 (σ d 6)) d 7)) c 8 ((su (su σ c 6 (σ d 6)) c 7 ((su σ c 6 (σ d 6)) d 7)) d 8)) c 9 ((su (su (su σ c 6 (σ d 6)) c 7 ((su σ c 6 (σ d 6)) d 7)) c 8 ((su (su σ c 6 (σ d 6)) c 7 ((su σ c 6 (σ d 6)) d 7)) d 8)) d 9)) d 10)) c 11 ((su (su (su (su (su σ c 6 (σ d 6)) c 7 ((su σ c 6 (σ d 6)) d 7)) c 8 ((su (su σ c 6 (σ d 6)) c 7 ((su σ c 6 (σ d 6)) d 7)) d 8)) c 9 ((su (su (su σ c 6 (σ d 6)) c 7 ((su σ c 6 (σ d 6)) d 7)) c 8 ((su (su σ c 6 (σ d 6)) c 7 ((su σ c 6 (σ d 6)) d 7)) d 8)) d 9)) c 10 ((su (su (su (su σ c 6 (σ d 6)) c 7 ((su σ c 6 (σ d 6)) d 7)) c 8 ((su (su σ c 6 (σ d 6)) c 7 ((su σ c 6 (σ d 6)) d 7)) d 8)) c 9 ((su (su (su σ c 6 (σ d 6)) c 7 ((su σ c 6 (σ d 6)) d 7)) c 8 ((su (su σ c 6 (σ d 6)) c 7 ((su σ c 6 (σ d 6)) d 7)) d 8)) d 9)) d 10)) d 11))) := by rcases hc with ⟨rfl, rfl⟩ | ⟨rfl, rfl⟩ | ⟨rfl, rfl⟩ <;> exact (unr_R [2] nS_becomes k 400 2 _ _ _).trans rfl
-- X2_has
theorem eS_has (k : Nat)  (c : Nat) (hc : c = 12 ∨ c = 18 ∨ c = 24) (p1 : Int64) (σ : Sto) : C nS_has k [.ref c, .long p1] σ =
  if (lg_cmp p1 0) < 0 then
    some (0, 0, σ)
  else
    if (lg_cmp p1 (Int32.toInt64 (σ c 6))) < 0 then
      some (1, 0, σ)
    else
      some (0, 0, σ) := by rcases hc with rfl | rfl | rfl <;> exact (unr_R [] nS_has k 400 0 _ _ _).trans rfl
-- X2_welcome
theorem eS_welcome (k : Nat)  (c : Nat) (hc : c = 12 ∨ c = 18 ∨ c = 24) (p1 : Int32) (p2 : Int32) (σ : Sto) : C nS_welcome k [.ref c, .int p1, .int p2] σ =
  (C nF_within k [.int p1, .int 0, .int 59] σ).bind fun r1 =>
    if r1.1 = 0 then
      some ((-2), 0, r1.2.2)
    else
      (C nF_within k [.int p2, .int 0, .int 63] r1.2.2).bind fun r2 =>
        if r2.1 = 0 then
          some ((-2), 0, r2.2.2)
        else
          if (r2.2.2 c 6) < 6 then
            if inb (r2.2.2 c 6) 6 = true then
              if inb (r2.2.2 c 6) 6 = true then
                if inb (r2.2.2 c 6) 6 = true then
                  if inb (r2.2.2 c 6) 6 = true ∧ zb 0 = true then
                    if inb (r2.2.2 c 6) 6 = true then
                      some ((r2.2.2 c 6), 0, (su (su (su (su (su (su r2.2.2 (c + 1) (r2.2.2 c 6).toNatClampNeg (p1 / 10)) (c + 2) (r2.2.2 c 6).toNatClampNeg (p1 - p1 / 10 * 10)) (c + 3) (r2.2.2 c 6).toNatClampNeg p2) (c + 4) (r2.2.2 c 6).toNatClampNeg 0) (c + 5) (r2.2.2 c 6).toNatClampNeg 0) c 6 (((su (su (su (su (su r2.2.2 (c + 1) (r2.2.2 c 6).toNatClampNeg (p1 / 10)) (c + 2) (r2.2.2 c 6).toNatClampNeg (p1 - p1 / 10 * 10)) (c + 3) (r2.2.2 c 6).toNatClampNeg p2) (c + 4) (r2.2.2 c 6).toNatClampNeg 0) (c + 5) (r2.2.2 c 6).toNatClampNeg 0) c 6) + 1)))
                    else
                      none
                  else
                    none
                else
                  none
              else
                none
            else
              none
          else
            some ((-4), 0, r2.2.2) := by rcases hc with rfl | rfl | rfl <;> exact (unr_R [] nS_welcome k 400 0 _ _ _).trans rfl
-- X2_isSeen
theorem eS_isSeen (k : Nat)  (c : Nat) (hc : c = 12 ∨ c = 18 ∨ c = 24) (p1 : Int32) (σ : Sto) : C nS_isSeen k [.ref c, .int p1] σ =
  if inb p1 6 = true then
    if (σ (c + 3) p1.toNatClampNeg) = (-1) then
      some (0, 0, σ)
    else
      if inb p1 6 = true then
        if (σ (c + 4) p1.toNatClampNeg) = 0 then
          some (1, 0, σ)
        else
          some (0, 0, σ)
      else
        none
  else
    none := by rcases hc with rfl | rfl | rfl <;> exact (unr_R [] nS_isSeen k 400 0 _ _ _).trans rfl
-- X2_isOver
theorem eS_isOver (k : Nat)  (c : Nat) (hc : c = 12 ∨ c = 18 ∨ c = 24) (p1 : Int32) (σ : Sto) : C nS_isOver k [.ref c, .int p1] σ =
  if inb p1 6 = true then
    if (σ (c + 3) p1.toNatClampNeg) = (-1) then
      if (σ c 9) = p1 then
        some (0, 0, σ)
      else
        some (1, 0, σ)
    else
      some (0, 0, σ)
  else
    none := by rcases hc with rfl | rfl | rfl <;> exact (unr_R [] nS_isOver k 400 0 _ _ _).trans rfl
-- X2_isAlone
theorem eS_isAlone (k : Nat)  (c : Nat) (hc : c = 12 ∨ c = 18 ∨ c = 24) (p1 : Int32) (σ : Sto) : C nS_isAlone k [.ref c, .int p1] σ =
  (C nS_isSeen k [.ref c, .int p1] σ).bind fun r1 =>
    if r1.1 = 0 then
      some (0, 0, r1.2.2)
    else
      (C nS_gapAbout k [.ref c, .int p1] r1.2.2).bind fun r2 =>
        R nS_isAlone k 12 [.ref c, .int p1, .int r2.1, .int 0] [] r2.2.2 := by rcases hc with rfl | rfl | rfl <;> exact (unr_R [12] nS_isAlone k 400 0 _ _ _).trans rfl
theorem eS_isAlone_12 (k : Nat)  (c : Nat) (hc : c = 12 ∨ c = 18 ∨ c = 24) (v1 : Int32) (v2 : Int32) (v3 : Int32) (σ : Sto) : R nS_isAlone k 12 [.ref c, .int v1, .int v2, .int v3] [] σ =
  if v3 < (σ c 6) then
    if v3 = v1 then
      R nS_isAlone k 12 [.ref c, .int v1, .int v2, .int (v3 + 1)] [] σ
    else
      (C nS_isSeen k [.ref c, .int v3] σ).bind fun r1 =>
        if r1.1 = 0 then
          R nS_isAlone k 12 [.ref c, .int v1, .int v2, .int (v3 + 1)] [] r1.2.2
        else
          if inb v3 6 = true then
            if inb v1 6 = true then
              if (absI ((r1.2.2 (c + 3) v3.toNatClampNeg) - (r1.2.2 (c + 3) v1.toNatClampNeg))) < v2 then
                some (0, 0, r1.2.2)
              else
                R nS_isAlone k 12 [.ref c, .int v1, .int v2, .int (v3 + 1)] [] r1.2.2
            else
              none
          else
            none
  else
    some (1, 0, σ) := by rcases hc with rfl | rfl | rfl <;> exact (unr_R [12] nS_isAlone k 400 12 _ _ _).trans rfl
-- X2_farFrom
theorem eS_farFrom (k : Nat)  (c : Nat) (hc : c = 12 ∨ c = 18 ∨ c = 24) (p1 : Int32) (σ : Sto) : C nS_farFrom k [.ref c, .int p1] σ =
  R nS_farFrom k 4 [.ref c, .int p1, .int (-1), .int 0, .null] [] σ := by rcases hc with rfl | rfl | rfl <;> exact (unr_R [4] nS_farFrom k 400 0 _ _ _).trans rfl
theorem eS_farFrom_4 (k : Nat)  (c : Nat) (hc : c = 12 ∨ c = 18 ∨ c = 24) (v1 : Int32) (v2 : Int32) (v3 : Int32) (u4 : Value) (σ : Sto) : R nS_farFrom k 4 [.ref c, .int v1, .int v2, .int v3, u4] [] σ =
  if v3 < (σ c 6) then
    if v3 = v1 then
      R nS_farFrom k 4 [.ref c, .int v1, .int v2, .int (v3 + 1), u4] [] σ
    else
      (C nS_isSeen k [.ref c, .int v3] σ).bind fun r1 =>
        if r1.1 = 0 then
          R nS_farFrom k 4 [.ref c, .int v1, .int v2, .int (v3 + 1), u4] [] r1.2.2
        else
          if inb v1 6 = true then
            if (r1.2.2 (c + 3) v1.toNatClampNeg) = (-1) then
              R nS_farFrom k 4 [.ref c, .int v1, .int v2, .int (v3 + 1), u4] [] r1.2.2
            else
              if inb v3 6 = true then
                if inb v1 6 = true then
                  if v2 = (-1) then
                    R nS_farFrom k 4 [.ref c, .int v1, .int (absI ((r1.2.2 (c + 3) v3.toNatClampNeg) - (r1.2.2 (c + 3) v1.toNatClampNeg))), .int (v3 + 1), .int (absI ((r1.2.2 (c + 3) v3.toNatClampNeg) - (r1.2.2 (c + 3) v1.toNatClampNeg)))] [] r1.2.2
                  else
                    R nS_farFrom k 4 [.ref c, .int v1, .int (minI v2 (absI ((r1.2.2 (c + 3) v3.toNatClampNeg) - (r1.2.2 (c + 3) v1.toNatClampNeg)))), .int (v3 + 1), .int (absI ((r1.2.2 (c + 3) v3.toNatClampNeg) - (r1.2.2 (c + 3) v1.toNatClampNeg)))] [] r1.2.2
                else
                  none
              else
                none
          else
            none
  else
    some (v2, 0, σ) := by rcases hc with rfl | rfl | rfl <;> exact (unr_R [4] nS_farFrom k 400 4 _ _ _).trans rfl
-- X2_areNeighbours
set_option maxRecDepth 1000000 in
theorem eS_areNeighbours (k : Nat)  (c : Nat) (hc : c = 12 ∨ c = 18 ∨ c = 24) (p1 : Int32) (p2 : Int32) (σ : Sto) : C nS_areNeighbours k [.ref c, .int p1, .int p2] σ =
  if inb p1 6 = true then
    if inb p2 6 = true then
      if (σ (c + 3) p1.toNatClampNeg) < (σ (c + 3) p2.toNatClampNeg) then
        (C nS_isSeen k [.ref c, .int p1] σ).bind fun r1 =>
          if r1.1 = 0 then
            some (0, 0, r1.2.2)
          else
            (C nS_isSeen k [.ref c, .int p2] r1.2.2).bind fun r2 =>
              if r2.1 = 0 then
                some (0, 0, r2.2.2)
              else
                R nS_areNeighbours k 39 [.ref c, .int p1, .int p2, .int 1, .int 0] [] r2.2.2
      else
        if inb p1 6 = true then
          if inb p2 6 = true then
            if (σ (c + 3) p1.toNatClampNeg) = (σ (c + 3) p2.toNatClampNeg) then
              if p1 < p2 then
                (C nS_isSeen k [.ref c, .int p1] σ).bind fun r1 =>
                  if r1.1 = 0 then
                    some (0, 0, r1.2.2)
                  else
                    (C nS_isSeen k [.ref c, .int p2] r1.2.2).bind fun r2 =>
                      if r2.1 = 0 then
                        some (0, 0, r2.2.2)
                      else
                        R nS_areNeighbours k 39 [.ref c, .int p1, .int p2, .int 1, .int 0] [] r2.2.2
              else
                some (0, 0, σ)
            else
              some (0, 0, σ)
          else
            none
        else
          none
    else
      none
  else
    none := by rcases hc with rfl | rfl | rfl <;> exact (unr_R [39] nS_areNeighbours k 400 0 _ _ _).trans rfl
theorem eS_areNeighbours_39 (k : Nat)  (c : Nat) (hc : c = 12 ∨ c = 18 ∨ c = 24) (v1 : Int32) (v2 : Int32) (v3 : Int32) (v4 : Int32) (σ : Sto) : R nS_areNeighbours k 39 [.ref c, .int v1, .int v2, .int v3, .int v4] [] σ =
  if v4 < (σ c 6) then
    (C nS_isSeen k [.ref c, .int v4] σ).bind fun r1 =>
      if r1.1 = 0 then
        R nS_areNeighbours k 39 [.ref c, .int v1, .int v2, .int v3, .int (v4 + 1)] [] r1.2.2
      else
        if inb v4 6 = true then
          if inb v1 6 = true then
            if (r1.2.2 (c + 3) v1.toNatClampNeg) < (r1.2.2 (c + 3) v4.toNatClampNeg) then
              if inb v4 6 = true then
                if inb v2 6 = true then
                  if (r1.2.2 (c + 3) v4.toNatClampNeg) < (r1.2.2 (c + 3) v2.toNatClampNeg) then
                    some (0, 0, r1.2.2)
                  else
                    R nS_areNeighbours k 39 [.ref c, .int v1, .int v2, .int v3, .int (v4 + 1)] [] r1.2.2
                else
                  none
              else
                none
            else
              R nS_areNeighbours k 39 [.ref c, .int v1, .int v2, .int v3, .int (v4 + 1)] [] r1.2.2
          else
            none
        else
          none
  else
    some (1, 0, σ) := by rcases hc with rfl | rfl | rfl <;> exact (unr_R [39] nS_areNeighbours k 400 39 _ _ _).trans rfl
-- X2_gapAbout
theorem eS_gapAbout (k : Nat)  (c : Nat) (hc : c = 12 ∨ c = 18 ∨ c = 24) (p1 : Int32) (σ : Sto) : C nS_gapAbout k [.ref c, .int p1] σ =
  if inb p1 6 = true then
    if (σ (c + 1) p1.toNatClampNeg) = 1 then
      (C nT_says k [.ref 2, .int 0, .ref c, .int p1] σ).bind fun r1 =>
        some ((r1.1 / 2), 0, r1.2.2)
    else
      if (σ (c + 1) p1.toNatClampNeg) = 2 then
        (C nT_says k [.ref 2, .int 0, .ref c, .int p1] σ).bind fun r1 =>
          if inb p1 6 = true then
            some ((r1.1 + (r1.2.2 (c + 2) p1.toNatClampNeg)), 0, r1.2.2)
          else
            none
      else
        if (σ (c + 1) p1.toNatClampNeg) = 3 then
          (C nT_says k [.ref 2, .int 0, .ref c, .int p1] σ).bind fun r1 =>
            some ((r1.1 / 2), 0, r1.2.2)
        else
          if (σ (c + 1) p1.toNatClampNeg) = 4 then
            (C nT_says k [.ref 2, .int 0, .ref c, .int p1] σ).bind fun r1 =>
              if inb p1 6 = true then
                some ((r1.1 + (r1.2.2 (c + 2) p1.toNatClampNeg)), 0, r1.2.2)
              else
                none
          else
            if (σ (c + 1) p1.toNatClampNeg) = 5 then
              some (0, 0, σ)
            else
              (C nT_says k [.ref 2, .int 0, .ref c, .int p1] σ).bind fun r1 =>
                some (r1.1, 0, r1.2.2)
  else
    none := by rcases hc with rfl | rfl | rfl <;> exact (unr_R [] nS_gapAbout k 400 0 _ _ _).trans rfl
-- X2_likedHow
set_option maxRecDepth 1000000 in
theorem eS_likedHow (k : Nat)  (c : Nat) (hc : c = 12 ∨ c = 18 ∨ c = 24) (p1 : Int32) (σ : Sto) : C nS_likedHow k [.ref c, .int p1] σ =
  if inb p1 6 = true then
    if (σ (c + 1) p1.toNatClampNeg) = 1 then
      (C nT_says k [.ref 2, .int 1, .ref c, .int p1] σ).bind fun r1 =>
        if inb p1 6 = true then
          some ((r1.1 - (r1.2.2 (c + 2) p1.toNatClampNeg)), 0, r1.2.2)
        else
          none
    else
      if (σ (c + 1) p1.toNatClampNeg) = 2 then
        (C nT_says k [.ref 2, .int 1, .ref c, .int p1] σ).bind fun r1 =>
          some (r1.1, 0, r1.2.2)
      else
        if (σ (c + 1) p1.toNatClampNeg) = 3 then
          if ((σ c 7) - (σ c 7) / 4 * 4) = 0 then
            some (99, 0, σ)
          else
            (C nT_says k [.ref 2, .int 1, .ref c, .int p1] σ).bind fun r1 =>
              if inb p1 6 = true then
                some ((r1.1 - (r1.2.2 (c + 2) p1.toNatClampNeg)), 0, r1.2.2)
              else
                none
        else
          if (σ (c + 1) p1.toNatClampNeg) = 4 then
            (C nT_says k [.ref 2, .int 1, .ref c, .int p1] σ).bind fun r1 =>
              some ((-r1.1), 0, r1.2.2)
          else
            if (σ (c + 1) p1.toNatClampNeg) = 5 then
              if inb p1 6 = true then
                some ((10 * (σ (c + 2) p1.toNatClampNeg)), 0, σ)
              else
                none
            else
              (C nT_says k [.ref 2, .int 1, .ref c, .int p1] σ).bind fun r1 =>
                some (r1.1, 0, r1.2.2)
  else
    none := by rcases hc with rfl | rfl | rfl <;> exact (unr_R [] nS_likedHow k 400 0 _ _ _).trans rfl
-- X2_walksFar
set_option maxRecDepth 1000000 in
theorem eS_walksFar (k : Nat)  (c : Nat) (hc : c = 12 ∨ c = 18 ∨ c = 24) (p1 : Int32) (σ : Sto) : C nS_walksFar k [.ref c, .int p1] σ =
  if inb p1 6 = true then
    if (σ (c + 1) p1.toNatClampNeg) = 2 then
      (C nT_says k [.ref 2, .int 2, .ref c, .int p1] σ).bind fun r1 =>
        (C nS_isAlone k [.ref c, .int p1] r1.2.2).bind fun r2 =>
          if r2.1 = 0 then
            some ((r1.1 + 0), 0, r2.2.2)
          else
            some ((r1.1 + 1), 0, r2.2.2)
    else
      if (σ (c + 1) p1.toNatClampNeg) = 3 then
        (C nS_isAlone k [.ref c, .int p1] σ).bind fun r1 =>
          if r1.1 = 0 then
            (C nT_says k [.ref 2, .int 2, .ref c, .int p1] r1.2.2).bind fun r2 =>
              some (((-1) - r2.1), 0, r2.2.2)
          else
            some (0, 0, r1.2.2)
      else
        if (σ (c + 1) p1.toNatClampNeg) = 4 then
          if ((σ c 7) - (σ c 7) / 2 * 2) = 0 then
            if inb p1 6 = true then
              some ((σ (c + 2) p1.toNatClampNeg), 0, σ)
            else
              none
          else
            if inb p1 6 = true then
              some ((-(σ (c + 2) p1.toNatClampNeg)), 0, σ)
            else
              none
        else
          (C nT_says k [.ref 2, .int 2, .ref c, .int p1] σ).bind fun r1 =>
            some (r1.1, 0, r1.2.2)
  else
    none := by rcases hc with rfl | rfl | rfl <;> exact (unr_R [] nS_walksFar k 400 0 _ _ _).trans rfl
-- X2_choice
theorem eS_choice (k : Nat)  (c : Nat) (hc : c = 12 ∨ c = 18 ∨ c = 24) (σ : Sto) : C nS_choice k [.ref c] σ =
  R nS_choice k 6 [.ref c, .int (-1), .int 0, .int 0, .null] [] σ := by rcases hc with rfl | rfl | rfl <;> exact (unr_R [6] nS_choice k 400 0 _ _ _).trans rfl
theorem eS_choice_6 (k : Nat)  (c : Nat) (hc : c = 12 ∨ c = 18 ∨ c = 24) (v1 : Int32) (v2 : Int32) (v3 : Int32) (u4 : Value) (σ : Sto) : R nS_choice k 6 [.ref c, .int v1, .int v2, .int v3, u4] [] σ =
  if v3 < (σ c 6) then
    (C nS_isAlone k [.ref c, .int v3] σ).bind fun r1 =>
      if r1.1 = 0 then
        R nS_choice k 6 [.ref c, .int v1, .int v2, .int (v3 + 1), u4] [] r1.2.2
      else
        (C nS_likedHow k [.ref c, .int v3] r1.2.2).bind fun r2 =>
          if v1 = (-1) then
            R nS_choice k 6 [.ref c, .int v3, .int r2.1, .int (v3 + 1), .int r2.1] [] r2.2.2
          else
            if v2 < r2.1 then
              R nS_choice k 6 [.ref c, .int v3, .int r2.1, .int (v3 + 1), .int r2.1] [] r2.2.2
            else
              R nS_choice k 6 [.ref c, .int v1, .int v2, .int (v3 + 1), .int r2.1] [] r2.2.2
  else
    some (v1, 0, σ) := by rcases hc with rfl | rfl | rfl <;> exact (unr_R [6] nS_choice k 400 6 _ _ _).trans rfl
-- X2_goOn
theorem eS_goOn (k : Nat)  (c : Nat) (hc : c = 12 ∨ c = 18 ∨ c = 24) (p1 : Int32) (p2 : Int32) (σ : Sto) : C nS_goOn k [.ref c, .int p1, .int p2] σ =
  if inb p1 6 = true then
    if inb p1 6 = true then
      some (0, 0, (su σ (c + 3) p1.toNatClampNeg (maxI 0 (minI 63 ((σ (c + 3) p1.toNatClampNeg) + p2)))))
    else
      none
  else
    none := by rcases hc with rfl | rfl | rfl <;> exact (unr_R [] nS_goOn k 400 0 _ _ _).trans rfl
-- X2_passHour
theorem eS_passHour (k : Nat)  (c : Nat) (hc : c = 12 ∨ c = 18 ∨ c = 24) (σ : Sto) : C nS_passHour k [.ref c] σ =
  if 0 < (σ c 8) then
    if ((su σ c 8 ((σ c 8) - 1)) c 8) = 0 then
      R nS_passHour k 26 [.ref c, .int (-1), .int 0] [] (su (su σ c 8 ((σ c 8) - 1)) c 9 (-1))
    else
      R nS_passHour k 26 [.ref c, .int (-1), .int 0] [] (su σ c 8 ((σ c 8) - 1))
  else
    (C nS_choice k [.ref c] σ).bind fun r1 =>
      (C nS_fetch k [.ref c, .int r1.1] r1.2.2).bind fun r2 =>
        R nS_passHour k 26 [.ref c, .int r1.1, .int 0] [] r2.2.2 := by rcases hc with rfl | rfl | rfl <;> exact (unr_R [26] nS_passHour k 400 0 _ _ _).trans rfl
theorem eS_passHour_26 (k : Nat)  (c : Nat) (hc : c = 12 ∨ c = 18 ∨ c = 24) (v1 : Int32) (v2 : Int32) (σ : Sto) : R nS_passHour k 26 [.ref c, .int v1, .int v2] [] σ =
  if v2 < (σ c 6) then
    if inb v2 6 = true then
      if (σ (c + 3) v2.toNatClampNeg) = (-1) then
        R nS_passHour k 26 [.ref c, .int v1, .int (v2 + 1)] [] σ
      else
        (C nS_walksFar k [.ref c, .int v2] σ).bind fun r1 =>
          (C nS_goOn k [.ref c, .int v2, .int r1.1] r1.2.2).bind fun r2 =>
            if inb v2 6 = true then
              if inb v2 6 = true then
                R nS_passHour k 26 [.ref c, .int v1, .int (v2 + 1)] [] (su r2.2.2 (c + 5) v2.toNatClampNeg (minI 99 ((r2.2.2 (c + 5) v2.toNatClampNeg) + 1)))
              else
                none
            else
              none
    else
      none
  else
    some (v1, 0, (su σ c 7 ((σ c 7) + 1))) := by rcases hc with rfl | rfl | rfl <;> exact (unr_R [26] nS_passHour k 400 26 _ _ _).trans rfl
-- X2_fetch
theorem eS_fetch (k : Nat)  (c : Nat) (hc : c = 12 ∨ c = 18 ∨ c = 24) (p1 : Int32) (σ : Sto) : C nS_fetch k [.ref c, .int p1] σ =
  if p1 = (-1) then
    some (0, 0, σ)
  else
    if inb p1 6 = true then
      if inb p1 6 = true then
        some (0, 0, (su (su (su (su σ c 8 (1 + ((absI ((2 * (σ (c + 3) p1.toNatClampNeg)) - 63)) / 20))) (c + 3) p1.toNatClampNeg (-1)) c 9 p1) c 10 (minI 9999 (((su (su (su σ c 8 (1 + ((absI ((2 * (σ (c + 3) p1.toNatClampNeg)) - 63)) / 20))) (c + 3) p1.toNatClampNeg (-1)) c 9 p1) c 10) + 1))))
      else
        none
    else
      none := by rcases hc with rfl | rfl | rfl <;> exact (unr_R [] nS_fetch k 400 0 _ _ _).trans rfl
-- X2_aloneBits
theorem eS_aloneBits (k : Nat)  (c : Nat) (hc : c = 12 ∨ c = 18 ∨ c = 24) (σ : Sto) : C nS_aloneBits k [.ref c] σ =
  R nS_aloneBits k 4 [.ref c, .int 0, .int 0] [] σ := by rcases hc with rfl | rfl | rfl <;> exact (unr_R [4] nS_aloneBits k 400 0 _ _ _).trans rfl
theorem eS_aloneBits_4 (k : Nat)  (c : Nat) (hc : c = 12 ∨ c = 18 ∨ c = 24) (v1 : Int32) (v2 : Int32) (σ : Sto) : R nS_aloneBits k 4 [.ref c, .int v1, .int v2] [] σ =
  if v2 < (σ c 6) then
    (C nS_isAlone k [.ref c, .int v2] σ).bind fun r1 =>
      if r1.1 = 0 then
        R nS_aloneBits k 4 [.ref c, .int v1, .int (v2 + 1)] [] r1.2.2
      else
        R nS_aloneBits k 4 [.ref c, .int (v1 ||| (1 <<< (v2 &&& 31))), .int (v2 + 1)] [] r1.2.2
  else
    some (v1, 0, σ) := by rcases hc with rfl | rfl | rfl <;> exact (unr_R [4] nS_aloneBits k 400 4 _ _ _).trans rfl
-- X2_seenBits
theorem eS_seenBits (k : Nat)  (c : Nat) (hc : c = 12 ∨ c = 18 ∨ c = 24) (σ : Sto) : C nS_seenBits k [.ref c] σ =
  R nS_seenBits k 4 [.ref c, .int 0, .int 0] [] σ := by rcases hc with rfl | rfl | rfl <;> exact (unr_R [4] nS_seenBits k 400 0 _ _ _).trans rfl
theorem eS_seenBits_4 (k : Nat)  (c : Nat) (hc : c = 12 ∨ c = 18 ∨ c = 24) (v1 : Int32) (v2 : Int32) (σ : Sto) : R nS_seenBits k 4 [.ref c, .int v1, .int v2] [] σ =
  if v2 < (σ c 6) then
    (C nS_isSeen k [.ref c, .int v2] σ).bind fun r1 =>
      if r1.1 = 0 then
        R nS_seenBits k 4 [.ref c, .int v1, .int (v2 + 1)] [] r1.2.2
      else
        R nS_seenBits k 4 [.ref c, .int (v1 ||| (1 <<< (v2 &&& 31))), .int (v2 + 1)] [] r1.2.2
  else
    some (v1, 0, σ) := by rcases hc with rfl | rfl | rfl <;> exact (unr_R [4] nS_seenBits k 400 4 _ _ _).trans rfl
-- X2_overBits
theorem eS_overBits (k : Nat)  (c : Nat) (hc : c = 12 ∨ c = 18 ∨ c = 24) (σ : Sto) : C nS_overBits k [.ref c] σ =
  R nS_overBits k 4 [.ref c, .int 0, .int 0] [] σ := by rcases hc with rfl | rfl | rfl <;> exact (unr_R [4] nS_overBits k 400 0 _ _ _).trans rfl
theorem eS_overBits_4 (k : Nat)  (c : Nat) (hc : c = 12 ∨ c = 18 ∨ c = 24) (v1 : Int32) (v2 : Int32) (σ : Sto) : R nS_overBits k 4 [.ref c, .int v1, .int v2] [] σ =
  if v2 < (σ c 6) then
    (C nS_isOver k [.ref c, .int v2] σ).bind fun r1 =>
      if r1.1 = 0 then
        R nS_overBits k 4 [.ref c, .int v1, .int (v2 + 1)] [] r1.2.2
      else
        R nS_overBits k 4 [.ref c, .int (v1 ||| (1 <<< (v2 &&& 31))), .int (v2 + 1)] [] r1.2.2
  else
    some (v1, 0, σ) := by rcases hc with rfl | rfl | rfl <;> exact (unr_R [4] nS_overBits k 400 4 _ _ _).trans rfl
-- X2_valueOf
set_option maxRecDepth 1000000 in
theorem eS_valueOf (k : Nat)  (c : Nat) (hc : c = 12 ∨ c = 18 ∨ c = 24) (p1 : Int32) (p2 : Int32) (σ : Sto) : C nS_valueOf k [.ref c, .int p1, .int p2] σ =
  if p1 = (-6) then
    if inb p2 6 = true then
      some ((σ (c + 2) p2.toNatClampNeg), 0, σ)
    else
      none
  else
    if p1 = (-5) then
      some ((σ c 10), 0, σ)
    else
      if p1 = (-4) then
        R nS_valueOf k 35 [.ref c, .int p1, .int p2, .int 0, .int 0] [] σ
      else
        if p1 = (-3) then
          some ((σ c 7), 0, σ)
        else
          if p1 = (-2) then
            if inb p2 6 = true then
              some ((σ (c + 5) p2.toNatClampNeg), 0, σ)
            else
              none
          else
            if p1 = (-1) then
              if inb p2 6 = true then
                if (σ (c + 3) p2.toNatClampNeg) = (-1) then
                  some (0, 0, σ)
                else
                  if inb p2 6 = true then
                    some ((σ (c + 3) p2.toNatClampNeg), 0, σ)
                  else
                    none
              else
                none
            else
              R nS_valueOf k 35 [.ref c, .int p1, .int p2, .int 0, .int 0] [] σ := by rcases hc with rfl | rfl | rfl <;> exact (unr_R [35] nS_valueOf k 400 0 _ _ _).trans rfl
theorem eS_valueOf_35 (k : Nat)  (c : Nat) (hc : c = 12 ∨ c = 18 ∨ c = 24) (v1 : Int32) (v2 : Int32) (v3 : Int32) (v4 : Int32) (σ : Sto) : R nS_valueOf k 35 [.ref c, .int v1, .int v2, .int v3, .int v4] [] σ =
  if v4 < (σ c 6) then
    if inb v4 6 = true then
      if (σ (c + 3) v4.toNatClampNeg) = (-1) then
        R nS_valueOf k 35 [.ref c, .int v1, .int v2, .int v3, .int (v4 + 1)] [] σ
      else
        if inb v4 6 = true then
          if (σ (c + 4) v4.toNatClampNeg) = 0 then
            R nS_valueOf k 35 [.ref c, .int v1, .int v2, .int (v3 + 1), .int (v4 + 1)] [] σ
          else
            R nS_valueOf k 35 [.ref c, .int v1, .int v2, .int v3, .int (v4 + 1)] [] σ
        else
          none
    else
      none
  else
    some (v3, 0, σ) := by rcases hc with rfl | rfl | rfl <;> exact (unr_R [35] nS_valueOf k 400 35 _ _ _).trans rfl
-- X3_addFirstLaw
theorem eT_addFirstLaw (k : Nat) (σ : Sto) : C nT_addFirstLaw k [.ref 2] σ =
  R nT_addFirstLaw k 17 [.ref 2, .int 0] [] (su (su (su σ 3 (0 : Int32).toNatClampNeg 5) 3 (1 : Int32).toNatClampNeg (-2)) 3 (2 : Int32).toNatClampNeg 0) := (unr_R [17] nT_addFirstLaw k 400 0 _ _ _).trans rfl
theorem eT_addFirstLaw_17 (k : Nat) (v1 : Int32) (σ : Sto) : R nT_addFirstLaw k 17 [.ref 2, .int v1] [] σ =
  if v1 < 3 then
    if inb v1 18 = true then
      if inb v1 18 = true then
        R nT_addFirstLaw k 17 [.ref 2, .int (v1 + 1)] [] (su (su σ 4 v1.toNatClampNeg v1) 5 v1.toNatClampNeg (v1 + 1))
      else
        none
    else
      none
  else
    some (0, 0, (su σ 2 4 1)) := (unr_R [17] nT_addFirstLaw k 400 17 _ _ _).trans rfl
-- X3_says
theorem eT_says (k : Nat)  (c : Nat) (hc : c = 12 ∨ c = 18 ∨ c = 24) (p1 : Int32) (p3 : Int32) (σ : Sto) : C nT_says k [.ref 2, .int p1, .ref c, .int p3] σ =
  if inb (((σ c 11) * 3) + p1) 18 = true then
    R nT_says k 14 [.ref 2, .int p1, .ref c, .int p3, .int (((σ c 11) * 3) + p1), .int (-1), .int (σ 4 (((σ c 11) * 3) + p1).toNatClampNeg), .null] [] σ
  else
    none := by rcases hc with rfl | rfl | rfl <;> exact (unr_R [14, 20, 28, 47, 77, 99] nT_says k 400 0 _ _ _).trans rfl
theorem eT_says_14 (k : Nat)  (c : Nat) (hc : c = 12 ∨ c = 18 ∨ c = 24) (v1 : Int32) (v3 : Int32) (v4 : Int32) (v5 : Int32) (v6 : Int32) (u7 : Value) (σ : Sto) : R nT_says k 14 [.ref 2, .int v1, .ref c, .int v3, .int v4, .int v5, .int v6, u7] [] σ =
  if inb v4 18 = true then
    if v6 < (σ 5 v4.toNatClampNeg) then
      R nT_says k 20 [.ref 2, .int v1, .ref c, .int v3, .int v4, .int v5, .int v6, u7] [] σ
    else
      R nT_says k 99 [.ref 2, .int v1, .ref c, .int v3, .int v4, .int v5, .int v6, u7] [] σ
  else
    none := by rcases hc with rfl | rfl | rfl <;> exact (unr_R [14, 20, 28, 47, 77, 99] nT_says k 400 14 _ _ _).trans rfl
theorem eT_says_20 (k : Nat)  (c : Nat) (hc : c = 12 ∨ c = 18 ∨ c = 24) (v1 : Int32) (v3 : Int32) (v4 : Int32) (v5 : Int32) (v6 : Int32) (u7 : Value) (σ : Sto) : R nT_says k 20 [.ref 2, .int v1, .ref c, .int v3, .int v4, .int v5, .int v6, u7] [] σ =
  if inb v6 960 = true then
    if (σ 3 v6.toNatClampNeg) < (-6) then
      R nT_says k 47 [.ref 2, .int v1, .ref c, .int v3, .int v4, .int v5, .int v6, .int (σ 3 v6.toNatClampNeg)] [] σ
    else
      R nT_says k 28 [.ref 2, .int v1, .ref c, .int v3, .int v4, .int v5, .int v6, .int (σ 3 v6.toNatClampNeg)] [] σ
  else
    none := by rcases hc with rfl | rfl | rfl <;> exact (unr_R [14, 20, 28, 47, 77, 99] nT_says k 400 20 _ _ _).trans rfl
theorem eT_says_28 (k : Nat)  (c : Nat) (hc : c = 12 ∨ c = 18 ∨ c = 24) (v1 : Int32) (v3 : Int32) (v4 : Int32) (v5 : Int32) (v6 : Int32) (v7 : Int32) (σ : Sto) : R nT_says k 28 [.ref 2, .int v1, .ref c, .int v3, .int v4, .int v5, .int v6, .int v7] [] σ =
  if (v5 + 1) < 160 then
    if v7 < 0 then
      (C nS_valueOf k [.ref c, .int v7, .int v3] σ).bind fun r1 =>
        if inb (v5 + 1) 160 = true then
          R nT_says k 14 [.ref 2, .int v1, .ref c, .int v3, .int v4, .int (v5 + 1), .int (v6 + 1), .int v7] [] (su r1.2.2 6 (v5 + 1).toNatClampNeg r1.1)
        else
          none
    else
      if inb (v5 + 1) 160 = true then
        R nT_says k 14 [.ref 2, .int v1, .ref c, .int v3, .int v4, .int (v5 + 1), .int (v6 + 1), .int v7] [] (su σ 6 (v5 + 1).toNatClampNeg v7)
      else
        none
  else
    some (0, 0, σ) := by rcases hc with rfl | rfl | rfl <;> exact (unr_R [14, 20, 28, 47, 77, 99] nT_says k 400 28 _ _ _).trans rfl
theorem eT_says_47 (k : Nat)  (c : Nat) (hc : c = 12 ∨ c = 18 ∨ c = 24) (v1 : Int32) (v3 : Int32) (v4 : Int32) (v5 : Int32) (v6 : Int32) (v7 : Int32) (σ : Sto) : R nT_says k 47 [.ref 2, .int v1, .ref c, .int v3, .int v4, .int v5, .int v6, .int v7] [] σ =
  if v7 < (-8) then
    R nT_says k 77 [.ref 2, .int v1, .ref c, .int v3, .int v4, .int (v5 + (-1)), .int v6, .int v7] [] σ
  else
    if v5 < 0 then
      some (0, 0, σ)
    else
      if v7 = (-7) then
        if inb v5 160 = true then
          if inb v5 160 = true then
            R nT_says k 14 [.ref 2, .int v1, .ref c, .int v3, .int v4, .int v5, .int (v6 + 1), .int v7] [] (su σ 6 v5.toNatClampNeg (-(σ 6 v5.toNatClampNeg)))
          else
            none
        else
          none
      else
        if inb v5 160 = true then
          if (σ 6 v5.toNatClampNeg) = 0 then
            if inb v5 160 = true then
              R nT_says k 14 [.ref 2, .int v1, .ref c, .int v3, .int v4, .int v5, .int (v6 + 1), .int v7] [] (su σ 6 v5.toNatClampNeg 1)
            else
              none
          else
            if inb v5 160 = true then
              R nT_says k 14 [.ref 2, .int v1, .ref c, .int v3, .int v4, .int v5, .int (v6 + 1), .int v7] [] (su σ 6 v5.toNatClampNeg 0)
            else
              none
        else
          none := by rcases hc with rfl | rfl | rfl <;> exact (unr_R [14, 20, 28, 47, 77, 99] nT_says k 400 47 _ _ _).trans rfl
theorem eT_says_77 (k : Nat)  (c : Nat) (hc : c = 12 ∨ c = 18 ∨ c = 24) (v1 : Int32) (v3 : Int32) (v4 : Int32) (v5 : Int32) (v6 : Int32) (v7 : Int32) (σ : Sto) : R nT_says k 77 [.ref 2, .int v1, .ref c, .int v3, .int v4, .int v5, .int v6, .int v7] [] σ =
  if v5 < 0 then
    some (0, 0, σ)
  else
    if inb v5 160 = true then
      if inb (v5 + 1) 160 = true then
        (C nT_joined k [.int v7, .int (σ 6 v5.toNatClampNeg), .int (σ 6 (v5 + 1).toNatClampNeg)] σ).bind fun r1 =>
          if inb v5 160 = true then
            R nT_says k 14 [.ref 2, .int v1, .ref c, .int v3, .int v4, .int v5, .int (v6 + 1), .int v7] [] (su r1.2.2 6 v5.toNatClampNeg r1.1)
          else
            none
      else
        none
    else
      none := by rcases hc with rfl | rfl | rfl <;> exact (unr_R [14, 20, 28, 47, 77, 99] nT_says k 400 77 _ _ _).trans rfl
theorem eT_says_99 (k : Nat)  (c : Nat) (hc : c = 12 ∨ c = 18 ∨ c = 24) (v1 : Int32) (v3 : Int32) (v4 : Int32) (v5 : Int32) (v6 : Int32) (u7 : Value) (σ : Sto) : R nT_says k 99 [.ref 2, .int v1, .ref c, .int v3, .int v4, .int v5, .int v6, u7] [] σ =
  if v5 < 0 then
    if v1 = 0 then
      some ((maxI 0 (minI 99 0)), 0, σ)
    else
      some ((maxI (-99) (minI 99 0)), 0, σ)
  else
    if inb v5 160 = true then
      if v1 = 0 then
        some ((maxI 0 (minI 99 (σ 6 v5.toNatClampNeg))), 0, σ)
      else
        some ((maxI (-99) (minI 99 (σ 6 v5.toNatClampNeg))), 0, σ)
    else
      none := by rcases hc with rfl | rfl | rfl <;> exact (unr_R [14, 20, 28, 47, 77, 99] nT_says k 400 99 _ _ _).trans rfl
-- X3_joined
set_option maxRecDepth 1000000 in
theorem eT_joined (k : Nat) (p1 : Int32) (p2 : Int32) (p3 : Int32) (σ : Sto) : C nT_joined k [.int p1, .int p2, .int p3] σ =
  if p1 = (-15) then
    some ((p2 * p3), 0, σ)
  else
    if p1 = (-14) then
      some ((p2 - p3), 0, σ)
    else
      if p1 = (-13) then
        some ((p2 + p3), 0, σ)
      else
        if p1 = (-12) then
          if p2 = p3 then
            some (1, 0, σ)
          else
            some (0, 0, σ)
        else
          if p1 = (-11) then
            if p2 < p3 then
              some (1, 0, σ)
            else
              some (0, 0, σ)
          else
            if p1 = (-10) then
              if p2 = 0 then
                some (0, 0, σ)
              else
                if p3 = 0 then
                  some (0, 0, σ)
                else
                  some (1, 0, σ)
            else
              if p1 = (-9) then
                if p2 = 0 then
                  if p3 = 0 then
                    some (0, 0, σ)
                  else
                    some (1, 0, σ)
                else
                  some (1, 0, σ)
              else
                some (0, 0, σ) := (unr_R [] nT_joined k 400 0 _ _ _).trans rfl
end
section
/-! EQUATIONS of the methods 54 .. 103 -/
-- X4_count
theorem eF_count (k : Nat) (p1 : Int32) (σ : Sto) : C nF_count k [.ref 0, .int p1] σ =
  if p1 = 0 then
    some ((σ 12 6), 0, σ)
  else
    if p1 = 1 then
      some ((σ 12 7), 0, σ)
    else
      if p1 = 2 then
        some ((σ 12 10), 0, σ)
      else
        if p1 = 3 then
          some ((σ 2 4), 0, σ)
        else
          if p1 = 4 then
            some ((σ 12 11), 0, σ)
          else
            if p1 = 5 then
              some ((σ 0 7), 0, σ)
            else
              some ((-2), 0, σ) := (unr_R [] nF_count k 400 0 _ _ _).trans rfl
-- X4_bay
theorem eF_bay (k : Nat) (p1 : Int32) (p2 : Int32) (σ : Sto) : C nF_bay k [.ref 0, .int p1, .int p2] σ =
  if p1 = 0 then
    (C nF_within k [.int p2, .int 0, .int 9999] σ).bind fun r1 =>
      if r1.1 = 0 then
        if p1 = 1 then
          (C nF_within k [.int p2, .int 0, .int 99] r1.2.2).bind fun r2 =>
            if r2.1 = 0 then
              some ((-2), 0, r2.2.2)
            else
              some ((r2.2.2 12 8), 0, (su r2.2.2 12 8 p2))
        else
          some ((-2), 0, r1.2.2)
      else
        some ((r1.2.2 12 7), 0, (su r1.2.2 12 7 p2))
  else
    if p1 = 1 then
      (C nF_within k [.int p2, .int 0, .int 99] σ).bind fun r1 =>
        if r1.1 = 0 then
          some ((-2), 0, r1.2.2)
        else
          some ((r1.2.2 12 8), 0, (su r1.2.2 12 8 p2))
    else
      some ((-2), 0, σ) := (unr_R [] nF_bay k 400 0 _ _ _).trans rfl
-- X4_ferry
theorem eF_ferry (k : Nat) (p1 : Int32) (σ : Sto) : C nF_ferry k [.ref 0, .int p1] σ =
  if p1 = 0 then
    some ((σ 12 8), 0, σ)
  else
    if p1 = 1 then
      some ((σ 12 9), 0, σ)
    else
      if p1 = 2 then
        (C nS_choice k [.ref 12] σ).bind fun r1 =>
          some (r1.1, 0, r1.2.2)
      else
        if p1 = 3 then
          (C nS_aloneBits k [.ref 12] σ).bind fun r1 =>
            some (r1.1, 0, r1.2.2)
        else
          if p1 = 4 then
            (C nS_seenBits k [.ref 12] σ).bind fun r1 =>
              some (r1.1, 0, r1.2.2)
          else
            if p1 = 5 then
              (C nS_overBits k [.ref 12] σ).bind fun r1 =>
                some (r1.1, 0, r1.2.2)
            else
              some ((-7), 0, σ) := (unr_R [] nF_ferry k 400 0 _ _ _).trans rfl
-- X4_feed
set_option maxRecDepth 1000000 in
theorem eF_feed (k : Nat) (p1 : Int32) (p2 : Int32) (p3 : Int32) (p4 : Int32) (p5 : Int32) (p6 : Int32) (σ : Sto) : C nF_feed k [.ref 0, .int p1, .int p2, .int p3, .int p4, .int p5, .int p6] σ =
  (C nF_within k [.int p1, .int 1, .int 5] σ).bind fun r1 =>
    if r1.1 = 0 then
      some ((-2), 0, r1.2.2)
    else
      (C nF_isByte k [.int p2] r1.2.2).bind fun r2 =>
        if r2.1 = 0 then
          some ((-2), 0, r2.2.2)
        else
          (C nF_isByte k [.int p3] r2.2.2).bind fun r3 =>
            if r3.1 = 0 then
              some ((-2), 0, r3.2.2)
            else
              (C nF_isByte k [.int p4] r3.2.2).bind fun r4 =>
                if r4.1 = 0 then
                  some ((-2), 0, r4.2.2)
                else
                  (C nF_isByte k [.int p5] r4.2.2).bind fun r5 =>
                    if r5.1 = 0 then
                      some ((-2), 0, r5.2.2)
                    else
                      (C nF_isByte k [.int p6] r5.2.2).bind fun r6 =>
                        if r6.1 = 0 then
                          some ((-2), 0, r6.2.2)
                        else
                          if (160 - (r6.2.2 0 7)) < p1 then
                            some ((-4), 0, r6.2.2)
                          else
                            (C nF_tapeOne k [.ref 0, .int p2] r6.2.2).bind fun r7 =>
                              if 1 < p1 then
                                (C nF_tapeOne k [.ref 0, .int p3] r7.2.2).bind fun r8 =>
                                  R nF_feed k 39 [.ref 0, .int p1, .int p2, .int p3, .int p4, .int p5, .int p6] [] r8.2.2
                              else
                                R nF_feed k 39 [.ref 0, .int p1, .int p2, .int p3, .int p4, .int p5, .int p6] [] r7.2.2 := (unr_R [39] nF_feed k 400 0 _ _ _).trans rfl
theorem eF_feed_39 (k : Nat) (v1 : Int32) (v2 : Int32) (v3 : Int32) (v4 : Int32) (v5 : Int32) (v6 : Int32) (σ : Sto) : R nF_feed k 39 [.ref 0, .int v1, .int v2, .int v3, .int v4, .int v5, .int v6] [] σ =
  if 2 < v1 then
    (C nF_tapeOne k [.ref 0, .int v4] σ).bind fun r1 =>
      if 3 < v1 then
        (C nF_tapeOne k [.ref 0, .int v5] r1.2.2).bind fun r2 =>
          if 4 < v1 then
            (C nF_tapeOne k [.ref 0, .int v6] r2.2.2).bind fun r3 =>
              some ((r3.2.2 0 7), 0, r3.2.2)
          else
            some ((r2.2.2 0 7), 0, r2.2.2)
      else
        if 4 < v1 then
          (C nF_tapeOne k [.ref 0, .int v6] r1.2.2).bind fun r2 =>
            some ((r2.2.2 0 7), 0, r2.2.2)
        else
          some ((r1.2.2 0 7), 0, r1.2.2)
  else
    if 3 < v1 then
      (C nF_tapeOne k [.ref 0, .int v5] σ).bind fun r1 =>
        if 4 < v1 then
          (C nF_tapeOne k [.ref 0, .int v6] r1.2.2).bind fun r2 =>
            some ((r2.2.2 0 7), 0, r2.2.2)
        else
          some ((r1.2.2 0 7), 0, r1.2.2)
    else
      if 4 < v1 then
        (C nF_tapeOne k [.ref 0, .int v6] σ).bind fun r1 =>
          some ((r1.2.2 0 7), 0, r1.2.2)
      else
        some ((σ 0 7), 0, σ) := (unr_R [39] nF_feed k 400 39 _ _ _).trans rfl
-- X4_text
theorem eF_text (k : Nat) (σ : Sto) : C nF_text k [.ref 0] σ =
  if (σ 2 4) < 6 then
    (C nD_faultOf k [.ref 7, .int (σ 0 7)] σ).bind fun r1 =>
      if r1.1 = (-1) then
        some ((((su (su r1.2.2 0 7 0) 2 4 (((su r1.2.2 0 7 0) 2 4) + 1)) 2 4) - 1), 0, (su (su r1.2.2 0 7 0) 2 4 (((su r1.2.2 0 7 0) 2 4) + 1)))
      else
        some (((-100) - r1.1), 0, (su r1.2.2 0 7 0))
  else
    some ((-4), 0, σ) := (unr_R [] nF_text k 400 0 _ _ _).trans rfl
-- X4_force
theorem eF_force (k : Nat) (p1 : Int32) (σ : Sto) : C nF_force k [.ref 0, .int p1] σ =
  (C nF_within k [.int p1, .int 0, .int ((σ 2 4) - 1)] σ).bind fun r1 =>
    if r1.1 = 0 then
      some ((-2), 0, r1.2.2)
    else
      some ((r1.2.2 12 11), 0, (su r1.2.2 12 11 p1)) := (unr_R [] nF_force k 400 0 _ _ _).trans rfl
-- X4_asks
theorem eF_asks (k : Nat) (p1 : Int32) (p2 : Int32) (σ : Sto) : C nF_asks k [.ref 0, .int p1, .int p2] σ =
  (C nF_within k [.int p1, .int 0, .int 2] σ).bind fun r1 =>
    if r1.1 = 0 then
      some ((-1000), 0, r1.2.2)
    else
      (C nS_has k [.ref 12, .long (Int32.toInt64 p2)] r1.2.2).bind fun r2 =>
        if r2.1 = 0 then
          some ((-1000), 0, r2.2.2)
        else
          (C nT_says k [.ref 2, .int p1, .ref 12, .int p2] r2.2.2).bind fun r3 =>
            some (r3.1, 0, r3.2.2) := (unr_R [] nF_asks k 400 0 _ _ _).trans rfl
-- X4_traveller
theorem eF_traveller (k : Nat) (p1 : Int32) (p2 : Int32) (σ : Sto) : C nF_traveller k [.ref 0, .int p1, .int p2] σ =
  (C nS_welcome k [.ref 12, .int p1, .int p2] σ).bind fun r1 =>
    some (r1.1, 0, r1.2.2) := (unr_R [] nF_traveller k 400 0 _ _ _).trans rfl
-- X4_put
theorem eF_put (k : Nat) (p1 : Int32) (p2 : Int32) (p3 : Int32) (σ : Sto) : C nF_put k [.ref 0, .int p1, .int p2, .int p3] σ =
  (C nS_has k [.ref 12, .long (Int32.toInt64 p1)] σ).bind fun r1 =>
    if r1.1 = 0 then
      some ((-5), 0, r1.2.2)
    else
      if p2 = 0 then
        if (r1.2.2 12 9) = p1 then
          R nF_put k 35 [.ref 0, .int p1, .int p2, .int p3, .int (-7)] [] r1.2.2
        else
          (C nF_within k [.int p3, .int (-1), .int 63] r1.2.2).bind fun r2 =>
            if r2.1 = 0 then
              R nF_put k 35 [.ref 0, .int p1, .int p2, .int p3, .int (-7)] [] r2.2.2
            else
              if inb p1 6 = true then
                if inb p1 6 = true then
                  some ((r2.2.2 15 p1.toNatClampNeg), 0, (su r2.2.2 15 p1.toNatClampNeg p3))
                else
                  none
              else
                none
      else
        R nF_put k 35 [.ref 0, .int p1, .int p2, .int p3, .int (-7)] [] r1.2.2 := (unr_R [35, 62] nF_put k 400 0 _ _ _).trans rfl
theorem eF_put_35 (k : Nat) (v1 : Int32) (v2 : Int32) (v3 : Int32) (v4 : Int32) (σ : Sto) : R nF_put k 35 [.ref 0, .int v1, .int v2, .int v3, .int v4] [] σ =
  if v2 = 1 then
    (C nF_within k [.int v3, .int 0, .int 1] σ).bind fun r1 =>
      if r1.1 = 0 then
        R nF_put k 62 [.ref 0, .int v1, .int v2, .int v3, .int v4] [] r1.2.2
      else
        if inb v1 6 = true then
          (C nF_bit k [.int (r1.2.2 16 v1.toNatClampNeg)] r1.2.2).bind fun r2 =>
            if v3 = 1 then
              if inb v1 6 = true ∧ zb 1 = true then
                some (r2.1, 0, (su r2.2.2 16 v1.toNatClampNeg 1))
              else
                none
            else
              if inb v1 6 = true ∧ zb 0 = true then
                some (r2.1, 0, (su r2.2.2 16 v1.toNatClampNeg 0))
              else
                none
        else
          none
  else
    R nF_put k 62 [.ref 0, .int v1, .int v2, .int v3, .int v4] [] σ := (unr_R [35, 62] nF_put k 400 35 _ _ _).trans rfl
theorem eF_put_62 (k : Nat) (v1 : Int32) (v2 : Int32) (v3 : Int32) (v4 : Int32) (σ : Sto) : R nF_put k 62 [.ref 0, .int v1, .int v2, .int v3, .int v4] [] σ =
  if v2 = 2 then
    (C nF_within k [.int v3, .int 0, .int 99] σ).bind fun r1 =>
      if r1.1 = 0 then
        some (v4, 0, r1.2.2)
      else
        if inb v1 6 = true then
          if inb v1 6 = true then
            some ((r1.2.2 17 v1.toNatClampNeg), 0, (su r1.2.2 17 v1.toNatClampNeg v3))
          else
            none
        else
          none
  else
    some (v4, 0, σ) := (unr_R [35, 62] nF_put k 400 62 _ _ _).trans rfl
-- X4_told
set_option maxRecDepth 1000000 in
theorem eF_told (k : Nat) (p1 : Int32) (p2 : Int32) (σ : Sto) : C nF_told k [.ref 0, .int p1, .int p2] σ =
  (C nS_has k [.ref 12, .long (Int32.toInt64 p1)] σ).bind fun r1 =>
    if r1.1 = 0 then
      some ((-5), 0, r1.2.2)
    else
      if p2 = 0 then
        if inb p1 6 = true then
          some ((r1.2.2 15 p1.toNatClampNeg), 0, r1.2.2)
        else
          none
      else
        if p2 = 1 then
          if inb p1 6 = true then
            (C nF_bit k [.int (r1.2.2 16 p1.toNatClampNeg)] r1.2.2).bind fun r2 =>
              some (r2.1, 0, r2.2.2)
          else
            none
        else
          if p2 = 2 then
            if inb p1 6 = true then
              some ((r1.2.2 17 p1.toNatClampNeg), 0, r1.2.2)
            else
              none
          else
            if p2 = 3 then
              if inb p1 6 = true then
                some ((r1.2.2 13 p1.toNatClampNeg), 0, r1.2.2)
              else
                none
            else
              if p2 = 4 then
                if inb p1 6 = true then
                  some ((r1.2.2 14 p1.toNatClampNeg), 0, r1.2.2)
                else
                  none
              else
                if p2 = 5 then
                  (C nS_gapAbout k [.ref 12, .int p1] r1.2.2).bind fun r2 =>
                    some (r2.1, 0, r2.2.2)
                else
                  if p2 = 6 then
                    (C nS_likedHow k [.ref 12, .int p1] r1.2.2).bind fun r2 =>
                      some ((r2.1 + 1000), 0, r2.2.2)
                  else
                    if p2 = 7 then
                      (C nS_walksFar k [.ref 12, .int p1] r1.2.2).bind fun r2 =>
                        some ((r2.1 + 1000), 0, r2.2.2)
                    else
                      if p2 = 8 then
                        (C nS_isAlone k [.ref 12, .int p1] r1.2.2).bind fun r2 =>
                          (C nF_bit k [.int r2.1] r2.2.2).bind fun r3 =>
                            some (r3.1, 0, r3.2.2)
                      else
                        if p2 = 9 then
                          (C nS_farFrom k [.ref 12, .int p1] r1.2.2).bind fun r2 =>
                            some (r2.1, 0, r2.2.2)
                        else
                          some ((-7), 0, r1.2.2) := (unr_R [] nF_told k 400 0 _ _ _).trans rfl
-- X4_hour
theorem eF_hour (k : Nat) (σ : Sto) : C nF_hour k [.ref 0] σ =
  if (σ 12 7) < 9999 then
    (C nS_passHour k [.ref 12] σ).bind fun r1 =>
      some (r1.1, 0, r1.2.2)
  else
    some ((-3), 0, σ) := (unr_R [] nF_hour k 400 0 _ _ _).trans rfl
-- X4_walk
theorem eF_walk (k : Nat) (p1 : Int32) (p2 : Int32) (σ : Sto) : C nF_walk k [.ref 0, .int p1, .int p2] σ =
  (C nS_has k [.ref 12, .long (Int32.toInt64 p1)] σ).bind fun r1 =>
    if r1.1 = 0 then
      some ((-5), 0, r1.2.2)
    else
      (C nF_within k [.int p2, .int (-63), .int 63] r1.2.2).bind fun r2 =>
        if r2.1 = 0 then
          some ((-7), 0, r2.2.2)
        else
          if inb p1 6 = true then
            if (r2.2.2 15 p1.toNatClampNeg) = (-1) then
              some ((-3), 0, r2.2.2)
            else
              (C nS_goOn k [.ref 12, .int p1, .int p2] r2.2.2).bind fun r3 =>
                if inb p1 6 = true then
                  some ((r3.2.2 15 p1.toNatClampNeg), 0, r3.2.2)
                else
                  none
          else
            none := (unr_R [] nF_walk k 400 0 _ _ _).trans rfl
-- X4_run
theorem eF_run (k : Nat) (p1 : Int32) (p2 : Int32) (σ : Sto) : C nF_run k [.ref 0, .int p1, .int p2] σ =
  (C nF_within k [.int p2, .int 0, .int 2] σ).bind fun r1 =>
    (C nS_has k [.ref 12, .long ((Int32.toInt64 p2) - 10)] r1.2.2).bind fun r2 =>
      (C nS_has k [.ref 12, .long ((Int32.toInt64 p2) - 20)] r2.2.2).bind fun r3 =>
        (C nF_within k [.int p1, .int 0, .int 60] r3.2.2).bind fun r4 =>
          if r4.1 = 0 then
            some ((-2), 0, r4.2.2)
          else
            if r1.1 = 0 then
              if r2.1 = 0 then
                if r3.1 = 0 then
                  some ((-2), 0, r4.2.2)
                else
                  (C nS_becomes k [.ref 18, .ref 12] r4.2.2).bind fun r5 =>
                    R nF_run k 45 [.ref 0, .int p1, .int p2, .int r1.1, .int r2.1, .int r3.1, .int 0, .int 0, .int 0, .null] [] r5.2.2
              else
                (C nS_becomes k [.ref 18, .ref 12] r4.2.2).bind fun r5 =>
                  R nF_run k 45 [.ref 0, .int p1, .int p2, .int r1.1, .int r2.1, .int r3.1, .int 0, .int 0, .int 0, .null] [] r5.2.2
            else
              (C nS_becomes k [.ref 18, .ref 12] r4.2.2).bind fun r5 =>
                R nF_run k 45 [.ref 0, .int p1, .int p2, .int r1.1, .int r2.1, .int r3.1, .int 0, .int 0, .int 0, .null] [] r5.2.2 := (unr_R [45] nF_run k 400 0 _ _ _).trans rfl
theorem eF_run_45 (k : Nat) (v1 : Int32) (v2 : Int32) (v3 : Int32) (v4 : Int32) (v5 : Int32) (v6 : Int32) (v7 : Int32) (v8 : Int32) (u9 : Value) (σ : Sto) : R nF_run k 45 [.ref 0, .int v1, .int v2, .int v3, .int v4, .int v5, .int v6, .int v7, .int v8, u9] [] σ =
  if v8 < v1 then
    (C nS_passHour k [.ref 18] σ).bind fun r1 =>
      if r1.1 = (-1) then
        R nF_run k 45 [.ref 0, .int v1, .int v2, .int v3, .int v4, .int v5, .int v6, .int v7, .int (v8 + 1), .int r1.1] [] r1.2.2
      else
        R nF_run k 45 [.ref 0, .int v1, .int v2, .int v3, .int v4, .int v5, .int (v6 + 1), .int (((v7 * 10) + r1.1) + 1), .int (v8 + 1), .int r1.1] [] r1.2.2
  else
    if v4 = 0 then
      if v5 = 0 then
        if v2 = 0 then
          some (v6, 0, σ)
        else
          if v2 = 1 then
            some (v7, 0, σ)
          else
            (C nS_overBits k [.ref 18] σ).bind fun r1 =>
              some (r1.1, 0, r1.2.2)
      else
        if inb (v2 - 20) 6 = true then
          some ((σ 23 (v2 - 20).toNatClampNeg), 0, σ)
        else
          none
    else
      if inb (v2 - 10) 6 = true then
        some ((σ 21 (v2 - 10).toNatClampNeg), 0, σ)
      else
        none := (unr_R [45] nF_run k 400 45 _ _ _).trans rfl
-- X4_when
theorem eF_when (k : Nat) (p1 : Int32) (p2 : Int32) (σ : Sto) : C nF_when k [.ref 0, .int p1, .int p2] σ =
  (C nF_within k [.int p2, .int 0, .int 2] σ).bind fun r1 =>
    if r1.1 = 0 then
      some ((-7), 0, r1.2.2)
    else
      if p2 = 2 then
        (C nS_becomes k [.ref 18, .ref 12] r1.2.2).bind fun r2 =>
          R nF_when k 25 [.ref 0, .int p1, .int p2, .int 0, .null] [] r2.2.2
      else
        (C nS_has k [.ref 12, .long (Int32.toInt64 p1)] r1.2.2).bind fun r2 =>
          if r2.1 = 0 then
            some ((-5), 0, r2.2.2)
          else
            (C nS_becomes k [.ref 18, .ref 12] r2.2.2).bind fun r3 =>
              R nF_when k 25 [.ref 0, .int p1, .int p2, .int 0, .null] [] r3.2.2 := (unr_R [25] nF_when k 400 0 _ _ _).trans rfl
theorem eF_when_25 (k : Nat) (v1 : Int32) (v2 : Int32) (v3 : Int32) (u4 : Value) (σ : Sto) : R nF_when k 25 [.ref 0, .int v1, .int v2, .int v3, u4] [] σ =
  if 60 < v3 then
    some ((-1), 0, σ)
  else
    if v2 = 0 then
      (C nS_isOver k [.ref 18, .int v1] σ).bind fun r1 =>
        if r1.1 = 0 then
          (C nS_passHour k [.ref 18] r1.2.2).bind fun r2 =>
            R nF_when k 25 [.ref 0, .int v1, .int v2, .int (v3 + 1), .int r1.1] [] r2.2.2
        else
          some (v3, 0, r1.2.2)
    else
      if v2 = 1 then
        (C nS_isAlone k [.ref 18, .int v1] σ).bind fun r1 =>
          if r1.1 = 0 then
            (C nS_passHour k [.ref 18] r1.2.2).bind fun r2 =>
              R nF_when k 25 [.ref 0, .int v1, .int v2, .int (v3 + 1), .int r1.1] [] r2.2.2
          else
            some (v3, 0, r1.2.2)
      else
        if (σ 18 8) = 0 then
          (C nS_aloneBits k [.ref 18] σ).bind fun r1 =>
            if r1.1 = 0 then
              some (v3, 0, r1.2.2)
            else
              (C nS_passHour k [.ref 18] r1.2.2).bind fun r2 =>
                R nF_when k 25 [.ref 0, .int v1, .int v2, .int (v3 + 1), .int 0] [] r2.2.2
        else
          (C nS_passHour k [.ref 18] σ).bind fun r1 =>
            R nF_when k 25 [.ref 0, .int v1, .int v2, .int (v3 + 1), .int 0] [] r1.2.2 := (unr_R [25] nF_when k 400 25 _ _ _).trans rfl
-- X4_hide
theorem eF_hide (k : Nat) (p1 : Int32) (p2 : Int32) (σ : Sto) : C nF_hide k [.ref 0, .int p1, .int p2] σ =
  (C nF_within k [.int p1, .int 0, .int 60] σ).bind fun r1 =>
    if r1.1 = 0 then
      some ((-2), 0, r1.2.2)
    else
      (C nF_within k [.int p2, .int 0, .int 1] r1.2.2).bind fun r2 =>
        if r2.1 = 0 then
          some ((-2), 0, r2.2.2)
        else
          (C nS_becomes k [.ref 18, .ref 12] r2.2.2).bind fun r3 =>
            (C nF_fetchedInThought k [.ref 0, .int p1] r3.2.2).bind fun r4 =>
              R nF_hide k 25 [.ref 0, .int p1, .int p2, .int r4.1, .int (-1), .int 0, .null] [] r4.2.2 := (unr_R [25] nF_hide k 400 0 _ _ _).trans rfl
theorem eF_hide_25 (k : Nat) (v1 : Int32) (v2 : Int32) (v3 : Int32) (v4 : Int32) (v5 : Int32) (u6 : Value) (σ : Sto) : R nF_hide k 25 [.ref 0, .int v1, .int v2, .int v3, .int v4, .int v5, u6] [] σ =
  if v5 < (σ 12 6) then
    (C nS_isSeen k [.ref 12, .int v5] σ).bind fun r1 =>
      if r1.1 = 0 then
        R nF_hide k 25 [.ref 0, .int v1, .int v2, .int v3, .int v4, .int (v5 + 1), u6] [] r1.2.2
      else
        (C nS_becomes k [.ref 18, .ref 12] r1.2.2).bind fun r2 =>
          if inb v5 6 = true ∧ zb 1 = true then
            (C nF_fetchedInThought k [.ref 0, .int v1] (su r2.2.2 22 v5.toNatClampNeg 1)).bind fun r3 =>
              if v3 < r3.1 then
                R nF_hide k 25 [.ref 0, .int v1, .int v2, .int r3.1, .int v5, .int (v5 + 1), .int r3.1] [] r3.2.2
              else
                R nF_hide k 25 [.ref 0, .int v1, .int v2, .int v3, .int v4, .int (v5 + 1), .int r3.1] [] r3.2.2
          else
            none
  else
    if v2 = 0 then
      some (v4, 0, σ)
    else
      some (v3, 0, σ) := (unr_R [25] nF_hide k 400 25 _ _ _).trans rfl
-- X4_stand
theorem eF_stand (k : Nat) (p1 : Int32) (p2 : Int32) (σ : Sto) : C nF_stand k [.ref 0, .int p1, .int p2] σ =
  (C nS_has k [.ref 12, .long (Int32.toInt64 p1)] σ).bind fun r1 =>
    if r1.1 = 0 then
      some ((-5), 0, r1.2.2)
    else
      (C nF_within k [.int p2, .int 0, .int 1] r1.2.2).bind fun r2 =>
        if r2.1 = 0 then
          some ((-7), 0, r2.2.2)
        else
          if (r2.2.2 12 9) = p1 then
            some ((-3), 0, r2.2.2)
          else
            R nF_stand k 28 [.ref 0, .int p1, .int p2, .int (-1), .int 61, .int 0, .null] [] r2.2.2 := (unr_R [28] nF_stand k 400 0 _ _ _).trans rfl
theorem eF_stand_28 (k : Nat) (v1 : Int32) (v2 : Int32) (v3 : Int32) (v4 : Int32) (v5 : Int32) (u6 : Value) (σ : Sto) : R nF_stand k 28 [.ref 0, .int v1, .int v2, .int v3, .int v4, .int v5, u6] [] σ =
  if v5 < 64 then
    (C nS_becomes k [.ref 18, .ref 12] σ).bind fun r1 =>
      if inb v1 6 = true then
        if inb v1 6 = true ∧ zb 0 = true then
          (C nF_hoursTillOver k [.ref 0, .int v1, .int (v4 - 1)] (su (su r1.2.2 21 v1.toNatClampNeg v5) 22 v1.toNatClampNeg 0)).bind fun r2 =>
            if r2.1 = (-1) then
              R nF_stand k 28 [.ref 0, .int v1, .int v2, .int v3, .int v4, .int (v5 + 1), .int r2.1] [] r2.2.2
            else
              R nF_stand k 28 [.ref 0, .int v1, .int v2, .int v5, .int r2.1, .int (v5 + 1), .int r2.1] [] r2.2.2
        else
          none
      else
        none
  else
    if v2 = 0 then
      some (v3, 0, σ)
    else
      if v3 = (-1) then
        some (v3, 0, σ)
      else
        some (v4, 0, σ) := (unr_R [28] nF_stand k 400 28 _ _ _).trans rfl
-- X4_apart
theorem eF_apart (k : Nat) (p1 : Int32) (p2 : Int32) (σ : Sto) : C nF_apart k [.ref 0, .int p1, .int p2] σ =
  (C nS_has k [.ref 12, .long (Int32.toInt64 p1)] σ).bind fun r1 =>
    if r1.1 = 0 then
      some ((-5), 0, r1.2.2)
    else
      (C nF_within k [.int p2, .int 0, .int 1] r1.2.2).bind fun r2 =>
        if r2.1 = 0 then
          some ((-7), 0, r2.2.2)
        else
          (C nS_isSeen k [.ref 12, .int p1] r2.2.2).bind fun r3 =>
            if r3.1 = 0 then
              some ((-1), 0, r3.2.2)
            else
              if inb p1 6 = true then
                (C nS_becomes k [.ref 18, .ref 12] r3.2.2).bind fun r4 =>
                  R nF_apart k 35 [.ref 0, .int p1, .int p2, .int (r3.2.2 15 p1.toNatClampNeg), .int 0] [] r4.2.2
              else
                none := (unr_R [35] nF_apart k 400 0 _ _ _).trans rfl
theorem eF_apart_35 (k : Nat) (v1 : Int32) (v2 : Int32) (v3 : Int32) (v4 : Int32) (σ : Sto) : R nF_apart k 35 [.ref 0, .int v1, .int v2, .int v3, .int v4] [] σ =
  if v4 < 64 then
    (C nF_wouldBeAlone k [.ref 0, .int v1, .int (v3 - v4)] σ).bind fun r1 =>
      if r1.1 = 0 then
        (C nF_wouldBeAlone k [.ref 0, .int v1, .int (v3 + v4)] r1.2.2).bind fun r2 =>
          if r2.1 = 0 then
            R nF_apart k 35 [.ref 0, .int v1, .int v2, .int v3, .int (v4 + 1)] [] r2.2.2
          else
            if v2 = 0 then
              some (v4, 0, r2.2.2)
            else
              some ((v3 + v4), 0, r2.2.2)
      else
        if v2 = 0 then
          some (v4, 0, r1.2.2)
        else
          some ((v3 - v4), 0, r1.2.2)
  else
    some ((-1), 0, σ) := (unr_R [35] nF_apart k 400 35 _ _ _).trans rfl
-- X4_breakwater
theorem eF_breakwater (k : Nat) (p1 : Int32) (σ : Sto) : C nF_breakwater k [.ref 0, .int p1] σ =
  (C nF_within k [.int p1, .int 0, .int 1] σ).bind fun r1 =>
    if r1.1 = 0 then
      some ((-2), 0, r1.2.2)
    else
      (C nS_seenBits k [.ref 12] r1.2.2).bind fun r2 =>
        R nF_breakwater k 15 [.ref 0, .int p1, .int r2.1, .int r2.1, .int 0, .null] [] r2.2.2 := (unr_R [15] nF_breakwater k 400 0 _ _ _).trans rfl
theorem eF_breakwater_15 (k : Nat) (v1 : Int32) (v2 : Int32) (v3 : Int32) (v4 : Int32) (u5 : Value) (σ : Sto) : R nF_breakwater k 15 [.ref 0, .int v1, .int v2, .int v3, .int v4, u5] [] σ =
  if v4 < v2 then
    if (v4 &&& (v2 ^^^ (-1))) = 0 then
      (C nJ6_bitCount k [.int v4] σ).bind fun r1 =>
        (C nJ6_bitCount k [.int v3] r1.2.2).bind fun r2 =>
          if r1.1 < r2.1 then
            (C nF_othersAloneWithout k [.ref 0, .int v4] r2.2.2).bind fun r3 =>
              if r3.1 = 0 then
                R nF_breakwater k 15 [.ref 0, .int v1, .int v2, .int v3, .int (v4 + 1), .int 1] [] r3.2.2
              else
                R nF_breakwater k 15 [.ref 0, .int v1, .int v2, .int v4, .int (v4 + 1), .int 1] [] r3.2.2
          else
            R nF_breakwater k 15 [.ref 0, .int v1, .int v2, .int v3, .int (v4 + 1), .int 1] [] r2.2.2
    else
      R nF_breakwater k 15 [.ref 0, .int v1, .int v2, .int v3, .int (v4 + 1), .int 0] [] σ
  else
    if v1 = 0 then
      some (v3, 0, σ)
    else
      (C nJ6_bitCount k [.int v3] σ).bind fun r1 =>
        some (r1.1, 0, r1.2.2) := (unr_R [15] nF_breakwater k 400 15 _ _ _).trans rfl
-- X4_gap
theorem eF_gap (k : Nat) (p1 : Int32) (σ : Sto) : C nF_gap k [.ref 0, .int p1] σ =
  (C nF_within k [.int p1, .int 0, .int 1] σ).bind fun r1 =>
    if r1.1 = 0 then
      some ((-2), 0, r1.2.2)
    else
      R nF_gap k 13 [.ref 0, .int p1, .int (-1), .int (-1), .int 0, .null] [] r1.2.2 := (unr_R [13, 20] nF_gap k 400 0 _ _ _).trans rfl
theorem eF_gap_13 (k : Nat) (v1 : Int32) (v2 : Int32) (v3 : Int32) (v4 : Int32) (u5 : Value) (σ : Sto) : R nF_gap k 13 [.ref 0, .int v1, .int v2, .int v3, .int v4, u5] [] σ =
  if v4 < (σ 12 6) then
    R nF_gap k 20 [.ref 0, .int v1, .int v2, .int v3, .int v4, .int 0] [] σ
  else
    if v1 = 0 then
      some (v2, 0, σ)
    else
      some (v3, 0, σ) := (unr_R [13, 20] nF_gap k 400 13 _ _ _).trans rfl
theorem eF_gap_20 (k : Nat) (v1 : Int32) (v2 : Int32) (v3 : Int32) (v4 : Int32) (v5 : Int32) (σ : Sto) : R nF_gap k 20 [.ref 0, .int v1, .int v2, .int v3, .int v4, .int v5] [] σ =
  if v5 < (σ 12 6) then
    (C nS_areNeighbours k [.ref 12, .int v4, .int v5] σ).bind fun r1 =>
      if r1.1 = 0 then
        R nF_gap k 20 [.ref 0, .int v1, .int v2, .int v3, .int v4, .int (v5 + 1)] [] r1.2.2
      else
        if inb v5 6 = true then
          if inb v4 6 = true then
            if v3 < ((r1.2.2 15 v5.toNatClampNeg) - (r1.2.2 15 v4.toNatClampNeg)) then
              if inb v5 6 = true then
                if inb v4 6 = true then
                  R nF_gap k 20 [.ref 0, .int v1, .int ((10 * v4) + v5), .int ((r1.2.2 15 v5.toNatClampNeg) - (r1.2.2 15 v4.toNatClampNeg)), .int v4, .int (v5 + 1)] [] r1.2.2
                else
                  none
              else
                none
            else
              R nF_gap k 20 [.ref 0, .int v1, .int v2, .int v3, .int v4, .int (v5 + 1)] [] r1.2.2
          else
            none
        else
          none
  else
    R nF_gap k 13 [.ref 0, .int v1, .int v2, .int v3, .int (v4 + 1), .int v5] [] σ := (unr_R [13, 20] nF_gap k 400 20 _ _ _).trans rfl
-- X4_middle
theorem eF_middle (k : Nat) (p1 : Int32) (σ : Sto) : C nF_middle k [.ref 0, .int p1] σ =
  R nF_middle k 6 [.ref 0, .int p1, .long 0, .null, .long 0, .null, .int 0] [] σ := (unr_R [6] nF_middle k 400 0 _ _ _).trans rfl
theorem eF_middle_6 (k : Nat) (v1 : Int32) (v2 : Int64) (v4 : Int64) (v6 : Int32) (σ : Sto) : R nF_middle k 6 [.ref 0, .int v1, .long v2, .null, .long v4, .null, .int v6] [] σ =
  if v6 < (σ 12 6) then
    if inb v6 6 = true then
      if (σ 15 v6.toNatClampNeg) = (-1) then
        R nF_middle k 6 [.ref 0, .int v1, .long v2, .null, .long v4, .null, .int (v6 + 1)] [] σ
      else
        if inb v6 6 = true then
          R nF_middle k 6 [.ref 0, .int v1, .long (v2 + (Int32.toInt64 (σ 15 v6.toNatClampNeg))), .null, .long (v4 + 1), .null, .int (v6 + 1)] [] σ
        else
          none
    else
      none
  else
    (C nF_fraction k [.long v2, .long v4, .int v1] σ).bind fun r1 =>
      some (0, r1.2.1, r1.2.2) := (unr_R [6] nF_middle k 400 6 _ _ _).trans rfl
-- X4_judge
theorem eF_judge (k : Nat) (p1 : Int32) (σ : Sto) : C nF_judge k [.ref 0, .int p1] σ =
  (C nF_refusalToJudge k [.ref 0, .int p1] σ).bind fun r1 =>
    if r1.1 = 0 then
      (C nS_becomes k [.ref 18, .ref 12] r1.2.2).bind fun r2 =>
        (C nF_firstOtherwise k [.ref 0, .int p1] r2.2.2).bind fun r3 =>
          some (r3.1, 0, r3.2.2)
    else
      some (r1.1, 0, r1.2.2) := (unr_R [] nF_judge k 400 0 _ _ _).trans rfl
-- X4_kinds
theorem eF_kinds (k : Nat) (p1 : Int32) (p2 : Int32) (p3 : Int32) (σ : Sto) : C nF_kinds k [.ref 0, .int p1, .int p2, .int p3] σ =
  (C nF_refusalToJudge k [.ref 0, .int p1] σ).bind fun r1 =>
    if r1.1 = 0 then
      (C nS_has k [.ref 12, .long (Int32.toInt64 p2)] r1.2.2).bind fun r2 =>
        if r2.1 = 0 then
          some ((-5), 0, r2.2.2)
        else
          (C nF_within k [.int p3, .int 0, .int 1] r2.2.2).bind fun r3 =>
            if r3.1 = 0 then
              some ((-7), 0, r3.2.2)
            else
              if p3 = 0 then
                R nF_kinds k 33 [.ref 0, .int p1, .int p2, .int p3, .int r1.1, .int 6, .int 0, .int 0] [] r3.2.2
              else
                R nF_kinds k 33 [.ref 0, .int p1, .int p2, .int p3, .int r1.1, .int 10, .int 0, .int 0] [] r3.2.2
    else
      some (r1.1, 0, r1.2.2) := (unr_R [33] nF_kinds k 400 0 _ _ _).trans rfl
theorem eF_kinds_33 (k : Nat) (v1 : Int32) (v2 : Int32) (v3 : Int32) (v4 : Int32) (v5 : Int32) (v6 : Int32) (v7 : Int32) (σ : Sto) : R nF_kinds k 33 [.ref 0, .int v1, .int v2, .int v3, .int v4, .int v5, .int v6, .int v7] [] σ =
  if v7 < v5 then
    (C nS_becomes k [.ref 18, .ref 12] σ).bind fun r1 =>
      if v3 = 0 then
        if inb v2 6 = true then
          (C nF_firstOtherwise k [.ref 0, .int v1] (su r1.2.2 19 v2.toNatClampNeg v7)).bind fun r2 =>
            if r2.1 = (-1) then
              R nF_kinds k 33 [.ref 0, .int v1, .int v2, .int v3, .int v4, .int v5, .int (v6 ||| (1 <<< (v7 &&& 31))), .int (v7 + 1)] [] r2.2.2
            else
              R nF_kinds k 33 [.ref 0, .int v1, .int v2, .int v3, .int v4, .int v5, .int v6, .int (v7 + 1)] [] r2.2.2
        else
          none
      else
        if inb v2 6 = true then
          (C nF_firstOtherwise k [.ref 0, .int v1] (su r1.2.2 20 v2.toNatClampNeg v7)).bind fun r2 =>
            if r2.1 = (-1) then
              R nF_kinds k 33 [.ref 0, .int v1, .int v2, .int v3, .int v4, .int v5, .int (v6 ||| (1 <<< (v7 &&& 31))), .int (v7 + 1)] [] r2.2.2
            else
              R nF_kinds k 33 [.ref 0, .int v1, .int v2, .int v3, .int v4, .int v5, .int v6, .int (v7 + 1)] [] r2.2.2
        else
          none
  else
    some (v6, 0, σ) := (unr_R [33] nF_kinds k 400 33 _ _ _).trans rfl
-- X4_places
theorem eF_places (k : Nat) (p1 : Int32) (p2 : Int32) (σ : Sto) : C nF_places k [.ref 0, .int p1, .int p2] σ =
  (C nF_refusalToJudge k [.ref 0, .int p1] σ).bind fun r1 =>
    if r1.1 = 0 then
      (C nS_has k [.ref 12, .long (Int32.toInt64 p2)] r1.2.2).bind fun r2 =>
        if r2.1 = 0 then
          some (0, (-4611686018427387904), r2.2.2)
        else
          if inb p2 6 = true then
            if (r2.2.2 15 p2.toNatClampNeg) = (-1) then
              some (0, (-4611686018427387904), r2.2.2)
            else
              R nF_places k 23 [.ref 0, .int p1, .int p2, .long 0, .null, .int 0] [] r2.2.2
          else
            none
    else
      some (0, (-4611686018427387904), r1.2.2) := (unr_R [23] nF_places k 400 0 _ _ _).trans rfl
theorem eF_places_23 (k : Nat) (v1 : Int32) (v2 : Int32) (v3 : Int64) (v5 : Int32) (σ : Sto) : R nF_places k 23 [.ref 0, .int v1, .int v2, .long v3, .null, .int v5] [] σ =
  if v5 < 64 then
    (C nS_becomes k [.ref 18, .ref 12] σ).bind fun r1 =>
      if inb v2 6 = true then
        (C nF_firstOtherwise k [.ref 0, .int v1] (su r1.2.2 21 v2.toNatClampNeg v5)).bind fun r2 =>
          if r2.1 = (-1) then
            R nF_places k 23 [.ref 0, .int v1, .int v2, .long (v3 ||| (1 <<< (Int32.toInt64 v5 &&& 63))), .null, .int (v5 + 1)] [] r2.2.2
          else
            R nF_places k 23 [.ref 0, .int v1, .int v2, .long v3, .null, .int (v5 + 1)] [] r2.2.2
      else
        none
  else
    some (0, v3, σ) := (unr_R [23] nF_places k 400 23 _ _ _).trans rfl
-- X4_turned
theorem eF_turned (k : Nat) (p1 : Int32) (σ : Sto) : C nF_turned k [.ref 0, .int p1] σ =
  (C nF_refusalToJudge k [.ref 0, .int p1] σ).bind fun r1 =>
    if r1.1 = 0 then
      R nF_turned k 12 [.ref 0, .int p1, .int r1.1, .int 0, .int 0] [] r1.2.2
    else
      some (r1.1, 0, r1.2.2) := (unr_R [12] nF_turned k 400 0 _ _ _).trans rfl
theorem eF_turned_12 (k : Nat) (v1 : Int32) (v2 : Int32) (v3 : Int32) (v4 : Int32) (σ : Sto) : R nF_turned k 12 [.ref 0, .int v1, .int v2, .int v3, .int v4] [] σ =
  if v4 < (σ 12 6) then
    (C nS_becomes k [.ref 18, .ref 12] σ).bind fun r1 =>
      if inb v4 6 = true then
        if (r1.2.2 16 v4.toNatClampNeg) = 0 then
          if inb v4 6 = true ∧ zb 1 = true then
            (C nF_firstOtherwise k [.ref 0, .int v1] (su r1.2.2 22 v4.toNatClampNeg 1)).bind fun r2 =>
              if r2.1 = (-1) then
                R nF_turned k 12 [.ref 0, .int v1, .int v2, .int (v3 ||| (1 <<< (v4 &&& 31))), .int (v4 + 1)] [] r2.2.2
              else
                R nF_turned k 12 [.ref 0, .int v1, .int v2, .int v3, .int (v4 + 1)] [] r2.2.2
          else
            none
        else
          if inb v4 6 = true ∧ zb 0 = true then
            (C nF_firstOtherwise k [.ref 0, .int v1] (su r1.2.2 22 v4.toNatClampNeg 0)).bind fun r2 =>
              if r2.1 = (-1) then
                R nF_turned k 12 [.ref 0, .int v1, .int v2, .int (v3 ||| (1 <<< (v4 &&& 31))), .int (v4 + 1)] [] r2.2.2
              else
                R nF_turned k 12 [.ref 0, .int v1, .int v2, .int v3, .int (v4 + 1)] [] r2.2.2
          else
            none
      else
        none
  else
    some (v3, 0, σ) := (unr_R [12] nF_turned k 400 12 _ _ _).trans rfl
-- X4_waits
theorem eF_waits (k : Nat) (p1 : Int32) (p2 : Int32) (p3 : Int32) (σ : Sto) : C nF_waits k [.ref 0, .int p1, .int p2, .int p3] σ =
  (C nF_refusalToJudge k [.ref 0, .int p1] σ).bind fun r1 =>
    if r1.1 = 0 then
      (C nS_has k [.ref 12, .long (Int32.toInt64 p2)] r1.2.2).bind fun r2 =>
        if r2.1 = 0 then
          some ((-5), 0, r2.2.2)
        else
          (C nF_within k [.int p3, .int 0, .int 1] r2.2.2).bind fun r3 =>
            if r3.1 = 0 then
              some ((-7), 0, r3.2.2)
            else
              R nF_waits k 29 [.ref 0, .int p1, .int p2, .int p3, .int r1.1, .int 0, .int (-1), .int 99] [] r3.2.2
    else
      some (r1.1, 0, r1.2.2) := (unr_R [29] nF_waits k 400 0 _ _ _).trans rfl
theorem eF_waits_29 (k : Nat) (v1 : Int32) (v2 : Int32) (v3 : Int32) (v4 : Int32) (v5 : Int32) (v6 : Int32) (v7 : Int32) (σ : Sto) : R nF_waits k 29 [.ref 0, .int v1, .int v2, .int v3, .int v4, .int v5, .int v6, .int v7] [] σ =
  if v7 < 0 then
    if v3 = 0 then
      some (v5, 0, σ)
    else
      some (v6, 0, σ)
  else
    (C nS_becomes k [.ref 18, .ref 12] σ).bind fun r1 =>
      if inb v2 6 = true then
        (C nF_firstOtherwise k [.ref 0, .int v1] (su r1.2.2 23 v2.toNatClampNeg v7)).bind fun r2 =>
          if r2.1 = (-1) then
            R nF_waits k 29 [.ref 0, .int v1, .int v2, .int v3, .int v4, .int (v5 + 1), .int v7, .int (v7 + (-1))] [] r2.2.2
          else
            R nF_waits k 29 [.ref 0, .int v1, .int v2, .int v3, .int v4, .int v5, .int v6, .int (v7 + (-1))] [] r2.2.2
      else
        none := (unr_R [29] nF_waits k 400 29 _ _ _).trans rfl
-- X4_laws
theorem eF_laws (k : Nat) (p1 : Int32) (σ : Sto) : C nF_laws k [.ref 0, .int p1] σ =
  (C nF_refusalToJudge k [.ref 0, .int p1] σ).bind fun r1 =>
    if r1.1 = 0 then
      R nF_laws k 12 [.ref 0, .int p1, .int r1.1, .int 0, .int 0] [] r1.2.2
    else
      some (r1.1, 0, r1.2.2) := (unr_R [12] nF_laws k 400 0 _ _ _).trans rfl
theorem eF_laws_12 (k : Nat) (v1 : Int32) (v2 : Int32) (v3 : Int32) (v4 : Int32) (σ : Sto) : R nF_laws k 12 [.ref 0, .int v1, .int v2, .int v3, .int v4] [] σ =
  if v4 < (σ 2 4) then
    (C nS_becomes k [.ref 18, .ref 12] σ).bind fun r1 =>
      (C nF_firstOtherwise k [.ref 0, .int v1] (su r1.2.2 18 11 v4)).bind fun r2 =>
        if r2.1 = (-1) then
          R nF_laws k 12 [.ref 0, .int v1, .int v2, .int (v3 ||| (1 <<< (v4 &&& 31))), .int (v4 + 1)] [] r2.2.2
        else
          R nF_laws k 12 [.ref 0, .int v1, .int v2, .int v3, .int (v4 + 1)] [] r2.2.2
  else
    some (v3, 0, σ) := (unr_R [12] nF_laws k 400 12 _ _ _).trans rfl
-- X4_film
theorem eF_film (k : Nat) (p1 : Int32) (p2 : Int32) (σ : Sto) : C nF_film k [.ref 0, .int p1, .int p2] σ =
  (C nH_has k [.ref 8, .int p1] σ).bind fun r1 =>
    if r1.1 = 0 then
      some ((-2), 0, r1.2.2)
    else
      (C nF_within k [.int p2, .int 0, .int 24] r1.2.2).bind fun r2 =>
        if r2.1 = 0 then
          some ((-7), 0, r2.2.2)
        else
          (C nH_renew k [.ref 8, .int p1, .int 0, .int p2] r2.2.2).bind fun r3 =>
            (C nS_becomes k [.ref 18, .ref 12] r3.2.2).bind fun r4 =>
              R nF_film k 27 [.ref 0, .int p1, .int p2, .int 0] [] r4.2.2 := (unr_R [27] nF_film k 400 0 _ _ _).trans rfl
theorem eF_film_27 (k : Nat) (v1 : Int32) (v2 : Int32) (v3 : Int32) (σ : Sto) : R nF_film k 27 [.ref 0, .int v1, .int v2, .int v3] [] σ =
  if v3 < v2 then
    (C nS_passHour k [.ref 18] σ).bind fun r1 =>
      (C nH_write k [.ref 8, .int v1, .int v3, .int (r1.1 + 1)] r1.2.2).bind fun r2 =>
        R nF_film k 27 [.ref 0, .int v1, .int v2, .int (v3 + 1)] [] r2.2.2
  else
    some (v2, 0, σ) := (unr_R [27] nF_film k 400 27 _ _ _).trans rfl
-- X4_drawn
theorem eF_drawn (k : Nat) (p1 : Int32) (p2 : Int32) (σ : Sto) : C nF_drawn k [.ref 0, .int p1, .int p2] σ =
  (C nF_within k [.int p1, .int 0, .int 99999] σ).bind fun r1 =>
    if r1.1 = 0 then
      some ((-2), 0, r1.2.2)
    else
      (C nF_within k [.int p2, .int 0, .int 1] r1.2.2).bind fun r2 =>
        if r2.1 = 0 then
          some ((-2), 0, r2.2.2)
        else
          (C nF_fetchedAmongGulls k [.ref 0, .int p1] r2.2.2).bind fun r3 =>
            if p2 = 0 then
              some (r3.1, 0, r3.2.2)
            else
              (C nS_overBits k [.ref 18] r3.2.2).bind fun r4 =>
                some (r4.1, 0, r4.2.2) := (unr_R [] nF_drawn k 400 0 _ _ _).trans rfl
-- X4_odds
theorem eF_odds (k : Nat) (p1 : Int32) (p2 : Int32) (p3 : Int32) (p4 : Int32) (σ : Sto) : C nF_odds k [.ref 0, .int p1, .int p2, .int p3, .int p4] σ =
  (C nF_within k [.int p1, .int 0, .int 99999] σ).bind fun r1 =>
    if r1.1 = 0 then
      some (0, (-4611686018427387904), r1.2.2)
    else
      (C nF_within k [.int p2, .int 1, .int 40] r1.2.2).bind fun r2 =>
        if r2.1 = 0 then
          some (0, (-4611686018427387904), r2.2.2)
        else
          (C nF_within k [.int p3, .int 0, .int 12] r2.2.2).bind fun r3 =>
            if r3.1 = 0 then
              some (0, (-4611686018427387904), r3.2.2)
            else
              R nF_odds k 21 [.ref 0, .int p1, .int p2, .int p3, .int p4, .int 0, .int 0] [] r3.2.2 := (unr_R [21] nF_odds k 400 0 _ _ _).trans rfl
theorem eF_odds_21 (k : Nat) (v1 : Int32) (v2 : Int32) (v3 : Int32) (v4 : Int32) (v5 : Int32) (v6 : Int32) (σ : Sto) : R nF_odds k 21 [.ref 0, .int v1, .int v2, .int v3, .int v4, .int v5, .int v6] [] σ =
  if v6 < v2 then
    (C nF_fetchedAmongGulls k [.ref 0, .int (v1 + v6)] σ).bind fun r1 =>
      if r1.1 < v3 then
        R nF_odds k 21 [.ref 0, .int v1, .int v2, .int v3, .int v4, .int v5, .int (v6 + 1)] [] r1.2.2
      else
        R nF_odds k 21 [.ref 0, .int v1, .int v2, .int v3, .int v4, .int (v5 + 1), .int (v6 + 1)] [] r1.2.2
  else
    (C nF_fraction k [.long (Int32.toInt64 v5), .long (Int32.toInt64 v2), .int v4] σ).bind fun r1 =>
      some (0, r1.2.1, r1.2.2) := (unr_R [21] nF_odds k 400 21 _ _ _).trans rfl
-- X4_image
theorem eF_image (k : Nat) (σ : Sto) : C nF_image k [.ref 0] σ =
  (C nS_becomes k [.ref 24, .ref 12] σ).bind fun r1 =>
    some (((su r1.2.2 0 8 1) 12 6), 0, (su r1.2.2 0 8 1)) := (unr_R [] nF_image k 400 0 _ _ _).trans rfl
-- X4_back
theorem eF_back (k : Nat) (σ : Sto) : C nF_back k [.ref 0] σ =
  if (σ 0 8) = 0 then
    some ((-3), 0, σ)
  else
    (C nS_becomes k [.ref 12, .ref 24] σ).bind fun r1 =>
      some ((r1.2.2 12 6), 0, r1.2.2) := (unr_R [] nF_back k 400 0 _ _ _).trans rfl
-- X4_sheet
theorem eF_sheet (k : Nat) (p1 : Int32) (p2 : Int32) (p3 : Int32) (σ : Sto) : C nF_sheet k [.ref 0, .int p1, .int p2, .int p3] σ =
  (C nH_has k [.ref 8, .int p1] σ).bind fun r1 =>
    if r1.1 = 0 then
      some ((-2), 0, r1.2.2)
    else
      (C nF_within k [.int p2, .int (-1), .int 2] r1.2.2).bind fun r2 =>
        if r2.1 = 0 then
          some ((-2), 0, r2.2.2)
        else
          if p2 = (-1) then
            (C nH_renew k [.ref 8, .int p1, .int (-1), .int 0] r2.2.2).bind fun r3 =>
              some (1, 0, r3.2.2)
          else
            if 40 < p3 then
              some ((-2), 0, r2.2.2)
            else
              if p3 < 0 then
                some ((-14), 0, r2.2.2)
              else
                (C nH_renew k [.ref 8, .int p1, .int p2, .int p3] r2.2.2).bind fun r3 =>
                  some (1, 0, r3.2.2) := (unr_R [] nF_sheet k 400 0 _ _ _).trans rfl
-- X4_cell
theorem eF_cell (k : Nat) (p1 : Int32) (p2 : Int32) (p3 : Int32) (σ : Sto) : C nF_cell k [.ref 0, .int p1, .int p2, .int p3] σ =
  (C nH_has k [.ref 8, .int p1] σ).bind fun r1 =>
    if r1.1 = 0 then
      some ((-2), 0, r1.2.2)
    else
      if inb p1 4 = true then
        if (r1.2.2 10 p1.toNatClampNeg) = (-1) then
          some ((-11), 0, r1.2.2)
        else
          if inb p1 4 = true then
            (C nF_within k [.int p2, .int 0, .int ((r1.2.2 11 p1.toNatClampNeg) - 1)] r1.2.2).bind fun r2 =>
              if r2.1 = 0 then
                some ((-12), 0, r2.2.2)
              else
                (C nH_write k [.ref 8, .int p1, .int p2, .int p3] r2.2.2).bind fun r3 =>
                  some (1, 0, r3.2.2)
          else
            none
      else
        none := (unr_R [] nF_cell k 400 0 _ _ _).trans rfl
-- X4_copy
set_option maxRecDepth 1000000 in
theorem eF_copy (k : Nat) (p1 : Int32) (p2 : Int32) (p3 : Int32) (p4 : Int32) (p5 : Int32) (σ : Sto) : C nF_copy k [.ref 0, .int p1, .int p2, .int p3, .int p4, .int p5] σ =
  (C nH_has k [.ref 8, .int p1] σ).bind fun r1 =>
    if r1.1 = 0 then
      some ((-2), 0, r1.2.2)
    else
      (C nH_has k [.ref 8, .int p3] r1.2.2).bind fun r2 =>
        if r2.1 = 0 then
          some ((-2), 0, r2.2.2)
        else
          if inb p1 4 = true then
            if (r2.2.2 10 p1.toNatClampNeg) = (-1) then
              some ((-11), 0, r2.2.2)
            else
              if inb p3 4 = true then
                if (r2.2.2 10 p3.toNatClampNeg) = (-1) then
                  some ((-11), 0, r2.2.2)
                else
                  if inb p1 4 = true then
                    if inb p3 4 = true then
                      if (r2.2.2 10 p1.toNatClampNeg) = (r2.2.2 10 p3.toNatClampNeg) then
                        if p5 < 0 then
                          some ((-12), 0, r2.2.2)
                        else
                          (C nH_holds k [.ref 8, .int p1, .long (Int32.toInt64 p2), .int p5] r2.2.2).bind fun r3 =>
                            if r3.1 = 0 then
                              some ((-12), 0, r3.2.2)
                            else
                              (C nH_holds k [.ref 8, .int p3, .long (Int32.toInt64 p4), .int p5] r3.2.2).bind fun r4 =>
                                if r4.1 = 0 then
                                  some ((-12), 0, r4.2.2)
                                else
                                  (C nH_carry k [.ref 8, .int p1, .int p2, .int p3, .int p4, .int p5] r4.2.2).bind fun r5 =>
                                    some (p5, 0, r5.2.2)
                      else
                        some ((-13), 0, r2.2.2)
                    else
                      none
                  else
                    none
              else
                none
          else
            none := (unr_R [] nF_copy k 400 0 _ _ _).trans rfl
-- X4_peopleBy
theorem eF_peopleBy (k : Nat) (p1 : Int32) (p2 : Int32) (p3 : Int32) (p4 : Int32) (σ : Sto) : C nF_peopleBy k [.ref 0, .int p1, .int p2, .int p3, .int p4] σ =
  (C nH_has k [.ref 8, .int p1] σ).bind fun r1 =>
    if r1.1 = 0 then
      some ((-2), 0, r1.2.2)
    else
      (C nF_within k [.int p2, .int 0, .int 2] r1.2.2).bind fun r2 =>
        if r2.1 = 0 then
          some ((-2), 0, r2.2.2)
        else
          (C nF_within k [.int p4, .int 0, .int 6] r2.2.2).bind fun r3 =>
            if r3.1 = 0 then
              some ((-2), 0, r3.2.2)
            else
              if inb p1 4 = true then
                if (r3.2.2 10 p1.toNatClampNeg) = (-1) then
                  some ((-11), 0, r3.2.2)
                else
                  if inb p1 4 = true then
                    if (r3.2.2 10 p1.toNatClampNeg) = p2 then
                      R nF_peopleBy k 39 [.ref 0, .int p1, .int p2, .int p3, .int p4, .int 0, .int 0, .null, .null, .null] [] r3.2.2
                    else
                      some ((-13), 0, r3.2.2)
                  else
                    none
              else
                none := (unr_R [39] nF_peopleBy k 400 0 _ _ _).trans rfl
theorem eF_peopleBy_39 (k : Nat) (v1 : Int32) (v2 : Int32) (v3 : Int32) (v4 : Int32) (v5 : Int32) (v6 : Int32) (u7 : Value) (u9 : Value) (σ : Sto) : R nF_peopleBy k 39 [.ref 0, .int v1, .int v2, .int v3, .int v4, .int v5, .int v6, u7, .null, u9] [] σ =
  if v6 < v4 then
    (C nH_holds k [.ref 8, .int v1, .long ((Int32.toInt64 v3) + (2 * (Int32.toInt64 v6))), .int 2] σ).bind fun r1 =>
      if r1.1 = 0 then
        some ((-12), 0, r1.2.2)
      else
        (C nH_read k [.ref 8, .int v1, .int (Int64.toInt32 ((Int32.toInt64 v3) + (2 * (Int32.toInt64 v6))))] r1.2.2).bind fun r2 =>
          (C nH_read k [.ref 8, .int v1, .int ((Int64.toInt32 ((Int32.toInt64 v3) + (2 * (Int32.toInt64 v6)))) + 1)] r2.2.2).bind fun r3 =>
            (C nS_welcome k [.ref 12, .int r2.1, .int r3.1] r3.2.2).bind fun r4 =>
              if r4.1 < 0 then
                R nF_peopleBy k 39 [.ref 0, .int v1, .int v2, .int v3, .int v4, .int v5, .int (v6 + 1), .long ((Int32.toInt64 v3) + (2 * (Int32.toInt64 v6))), .null, .int (Int64.toInt32 ((Int32.toInt64 v3) + (2 * (Int32.toInt64 v6))))] [] r4.2.2
              else
                R nF_peopleBy k 39 [.ref 0, .int v1, .int v2, .int v3, .int v4, .int (v5 + 1), .int (v6 + 1), .long ((Int32.toInt64 v3) + (2 * (Int32.toInt64 v6))), .null, .int (Int64.toInt32 ((Int32.toInt64 v3) + (2 * (Int32.toInt64 v6))))] [] r4.2.2
  else
    some (v5, 0, σ) := (unr_R [39] nF_peopleBy k 400 39 _ _ _).trans rfl
-- X4_taken
set_option maxRecDepth 1000000 in
theorem eF_taken (k : Nat) (p1 : Int32) (p2 : Int32) (σ : Sto) : C nF_taken k [.ref 0, .int p1, .int p2] σ =
  (C nF_within k [.int p2, .int 0, .int 6] σ).bind fun r1 =>
    if r1.1 = 0 then
      some ((-2), 0, r1.2.2)
    else
      (C nF_within k [.int p1, .int 0, .int 11] r1.2.2).bind fun r2 =>
        if r2.1 = 0 then
          some ((-12), 0, r2.2.2)
        else
          if p1 < 6 then
            (C nS_has k [.ref 12, .long (Int32.toInt64 (p1 - p1 / 6 * 6))] r2.2.2).bind fun r3 =>
              if r3.1 = 0 then
                some ((-11), 0, r3.2.2)
              else
                if inb (p1 - p1 / 6 * 6) 6 = true then
                  (C nF_isOfKind k [.int (r3.2.2 13 (p1 - p1 / 6 * 6).toNatClampNeg), .int p2] r3.2.2).bind fun r4 =>
                    if r4.1 = 0 then
                      some ((-13), 0, r4.2.2)
                    else
                      some ((p1 - p1 / 6 * 6), 0, r4.2.2)
                else
                  none
          else
            (C nS_has k [.ref 12, .long (Int32.toInt64 (p1 - p1 / 6 * 6))] r2.2.2).bind fun r3 =>
              if r3.1 = 0 then
                some ((-11), 0, r3.2.2)
              else
                if p2 = 6 then
                  if inb (p1 - p1 / 6 * 6) 6 = true then
                    some ((r3.2.2 17 (p1 - p1 / 6 * 6).toNatClampNeg), 0, r3.2.2)
                  else
                    none
                else
                  some ((-13), 0, r3.2.2) := (unr_R [] nF_taken k 400 0 _ _ _).trans rfl
-- X4_within
theorem eF_within (k : Nat) (p1 : Int32) (p2 : Int32) (p3 : Int32) (σ : Sto) : C nF_within k [.int p1, .int p2, .int p3] σ =
  if p1 < p2 then
    some (0, 0, σ)
  else
    if p3 < p1 then
      some (0, 0, σ)
    else
      some (1, 0, σ) := (unr_R [] nF_within k 400 0 _ _ _).trans rfl
-- X4_isByte
theorem eF_isByte (k : Nat) (p1 : Int32) (σ : Sto) : C nF_isByte k [.int p1] σ =
  (C nF_within k [.int p1, .int 0, .int 255] σ).bind fun r1 =>
    if nok 1 r1.1 = true then
      some (r1.1, 0, r1.2.2)
    else
      none := (unr_R [] nF_isByte k 400 0 _ _ _).trans rfl
-- X4_bit
theorem eF_bit (k : Nat) (p1 : Int32) (σ : Sto) : C nF_bit k [.int p1] σ =
  if p1 = 0 then
    some (0, 0, σ)
  else
    some (1, 0, σ) := (unr_R [] nF_bit k 400 0 _ _ _).trans rfl
-- X4_tapeOne
theorem eF_tapeOne (k : Nat) (p1 : Int32) (σ : Sto) : C nF_tapeOne k [.ref 0, .int p1] σ =
  if (σ 0 7) < 160 then
    if inb (σ 0 7) 160 = true then
      some (0, 0, (su (su σ 1 (σ 0 7).toNatClampNeg p1) 0 7 (((su σ 1 (σ 0 7).toNatClampNeg p1) 0 7) + 1)))
    else
      none
  else
    some (0, 0, σ) := (unr_R [] nF_tapeOne k 400 0 _ _ _).trans rfl
-- X4_isOfKind
theorem eF_isOfKind (k : Nat) (p1 : Int32) (p2 : Int32) (σ : Sto) : C nF_isOfKind k [.int p1, .int p2] σ =
  if p2 = 0 then
    some (1, 0, σ)
  else
    if p1 = p2 then
      some (1, 0, σ)
    else
      if p2 = 1 then
        if p1 = 3 then
          some (1, 0, σ)
        else
          if p2 = 2 then
            if p1 = 4 then
              some (1, 0, σ)
            else
              some (0, 0, σ)
          else
            some (0, 0, σ)
      else
        if p2 = 2 then
          if p1 = 4 then
            some (1, 0, σ)
          else
            some (0, 0, σ)
        else
          some (0, 0, σ) := (unr_R [] nF_isOfKind k 400 0 _ _ _).trans rfl
-- X4_fetchedInThought
theorem eF_fetchedInThought (k : Nat) (p1 : Int32) (σ : Sto) : C nF_fetchedInThought k [.ref 0, .int p1] σ =
  R nF_fetchedInThought k 4 [.ref 0, .int p1, .int 0, .int 0] [] σ := (unr_R [4] nF_fetchedInThought k 400 0 _ _ _).trans rfl
theorem eF_fetchedInThought_4 (k : Nat) (v1 : Int32) (v2 : Int32) (v3 : Int32) (σ : Sto) : R nF_fetchedInThought k 4 [.ref 0, .int v1, .int v2, .int v3] [] σ =
  if v3 < v1 then
    (C nS_passHour k [.ref 18] σ).bind fun r1 =>
      if r1.1 = (-1) then
        R nF_fetchedInThought k 4 [.ref 0, .int v1, .int v2, .int (v3 + 1)] [] r1.2.2
      else
        R nF_fetchedInThought k 4 [.ref 0, .int v1, .int (v2 + 1), .int (v3 + 1)] [] r1.2.2
  else
    some (v2, 0, σ) := (unr_R [4] nF_fetchedInThought k 400 4 _ _ _).trans rfl
-- X4_hoursTillOver
theorem eF_hoursTillOver (k : Nat) (p1 : Int32) (p2 : Int32) (σ : Sto) : C nF_hoursTillOver k [.ref 0, .int p1, .int p2] σ =
  R nF_hoursTillOver k 2 [.ref 0, .int p1, .int p2, .int 0] [] σ := (unr_R [2] nF_hoursTillOver k 400 0 _ _ _).trans rfl
theorem eF_hoursTillOver_2 (k : Nat) (v1 : Int32) (v2 : Int32) (v3 : Int32) (σ : Sto) : R nF_hoursTillOver k 2 [.ref 0, .int v1, .int v2, .int v3] [] σ =
  if v2 < v3 then
    some ((-1), 0, σ)
  else
    (C nS_isOver k [.ref 18, .int v1] σ).bind fun r1 =>
      if r1.1 = 0 then
        if v3 < v2 then
          (C nS_passHour k [.ref 18] r1.2.2).bind fun r2 =>
            R nF_hoursTillOver k 2 [.ref 0, .int v1, .int v2, .int (v3 + 1)] [] r2.2.2
        else
          R nF_hoursTillOver k 2 [.ref 0, .int v1, .int v2, .int (v3 + 1)] [] r1.2.2
      else
        some (v3, 0, r1.2.2) := (unr_R [2] nF_hoursTillOver k 400 2 _ _ _).trans rfl
-- X4_wouldBeAlone
theorem eF_wouldBeAlone (k : Nat) (p1 : Int32) (p2 : Int32) (σ : Sto) : C nF_wouldBeAlone k [.ref 0, .int p1, .int p2] σ =
  (C nF_within k [.int p2, .int 0, .int 63] σ).bind fun r1 =>
    if r1.1 = 0 then
      some (0, 0, r1.2.2)
    else
      if inb p1 6 = true then
        (C nS_isAlone k [.ref 18, .int p1] (su r1.2.2 21 p1.toNatClampNeg p2)).bind fun r2 =>
          if nok 1 r2.1 = true then
            some (r2.1, 0, r2.2.2)
          else
            none
      else
        none := (unr_R [] nF_wouldBeAlone k 400 0 _ _ _).trans rfl
-- X4_othersAloneWithout
theorem eF_othersAloneWithout (k : Nat) (p1 : Int32) (σ : Sto) : C nF_othersAloneWithout k [.ref 0, .int p1] σ =
  (C nS_becomes k [.ref 18, .ref 12] σ).bind fun r1 =>
    R nF_othersAloneWithout k 7 [.ref 0, .int p1, .int 0] [] r1.2.2 := (unr_R [7] nF_othersAloneWithout k 400 0 _ _ _).trans rfl
theorem eF_othersAloneWithout_7 (k : Nat) (v1 : Int32) (v2 : Int32) (σ : Sto) : R nF_othersAloneWithout k 7 [.ref 0, .int v1, .int v2] [] σ =
  if v2 < (σ 12 6) then
    if ((v1 >>> (v2 &&& 31)) &&& 1) = 1 then
      if inb v2 6 = true ∧ zb 1 = true then
        R nF_othersAloneWithout k 7 [.ref 0, .int v1, .int (v2 + 1)] [] (su σ 22 v2.toNatClampNeg 1)
      else
        none
    else
      R nF_othersAloneWithout k 7 [.ref 0, .int v1, .int (v2 + 1)] [] σ
  else
    (C nS_aloneBits k [.ref 18] σ).bind fun r1 =>
      (C nS_seenBits k [.ref 18] r1.2.2).bind fun r2 =>
        if r1.1 = r2.1 then
          some (1, 0, r2.2.2)
        else
          some (0, 0, r2.2.2) := (unr_R [7] nF_othersAloneWithout k 400 7 _ _ _).trans rfl
-- X4_refusalToJudge
theorem eF_refusalToJudge (k : Nat) (p1 : Int32) (σ : Sto) : C nF_refusalToJudge k [.ref 0, .int p1] σ =
  (C nH_has k [.ref 8, .int p1] σ).bind fun r1 =>
    if r1.1 = 0 then
      some ((-2), 0, r1.2.2)
    else
      if inb p1 4 = true then
        if (r1.2.2 10 p1.toNatClampNeg) = (-1) then
          some ((-11), 0, r1.2.2)
        else
          if inb p1 4 = true then
            if 24 < (r1.2.2 11 p1.toNatClampNeg) then
              some ((-2), 0, r1.2.2)
            else
              some (0, 0, r1.2.2)
          else
            none
      else
        none := (unr_R [] nF_refusalToJudge k 400 0 _ _ _).trans rfl
-- X4_firstOtherwise
theorem eF_firstOtherwise (k : Nat) (p1 : Int32) (σ : Sto) : C nF_firstOtherwise k [.ref 0, .int p1] σ =
  R nF_firstOtherwise k 2 [.ref 0, .int p1, .int 0] [] σ := (unr_R [2] nF_firstOtherwise k 400 0 _ _ _).trans rfl
theorem eF_firstOtherwise_2 (k : Nat) (v1 : Int32) (v2 : Int32) (σ : Sto) : R nF_firstOtherwise k 2 [.ref 0, .int v1, .int v2] [] σ =
  if inb v1 4 = true then
    if v2 < (σ 11 v1.toNatClampNeg) then
      (C nS_passHour k [.ref 18] σ).bind fun r1 =>
        (C nH_read k [.ref 8, .int v1, .int v2] r1.2.2).bind fun r2 =>
          if (r1.1 + 1) = r2.1 then
            R nF_firstOtherwise k 2 [.ref 0, .int v1, .int (v2 + 1)] [] r2.2.2
          else
            some (v2, 0, r2.2.2)
    else
      some ((-1), 0, σ)
  else
    none := (unr_R [2] nF_firstOtherwise k 400 2 _ _ _).trans rfl
-- X4_fetchedAmongGulls
theorem eF_fetchedAmongGulls (k : Nat) (p1 : Int32) (σ : Sto) : C nF_fetchedAmongGulls k [.ref 0, .int p1] σ =
  (C nS_becomes k [.ref 18, .ref 12] σ).bind fun r1 =>
    R nF_fetchedAmongGulls k 14 [.ref 0, .int p1, .long ((Int32.toInt64 p1) + 1), .null, .int 0, .int 0, .null] [] r1.2.2 := (unr_R [14, 50] nF_fetchedAmongGulls k 400 0 _ _ _).trans rfl
theorem eF_fetchedAmongGulls_14 (k : Nat) (v1 : Int32) (v2 : Int64) (v4 : Int32) (v5 : Int32) (u6 : Value) (σ : Sto) : R nF_fetchedAmongGulls k 14 [.ref 0, .int v1, .long v2, .null, .int v4, .int v5, u6] [] σ =
  if v5 < 12 then
    (C nF_lotAfter k [.long v2] σ).bind fun r1 =>
      (C nF_lotAfter k [.long r1.2.1] r1.2.2).bind fun r2 =>
        (C nS_has k [.ref 18, .long (Int32.toInt64 (Int64.toInt32 (r1.2.1 - r1.2.1 / 6 * 6)))] r2.2.2).bind fun r3 =>
          if r3.1 = 0 then
            R nF_fetchedAmongGulls k 50 [.ref 0, .int v1, .long r2.2.1, .null, .int v4, .int v5, .int (Int64.toInt32 (r1.2.1 - r1.2.1 / 6 * 6))] [] r3.2.2
          else
            if inb (Int64.toInt32 (r1.2.1 - r1.2.1 / 6 * 6)) 6 = true then
              if (r3.2.2 21 (Int64.toInt32 (r1.2.1 - r1.2.1 / 6 * 6)).toNatClampNeg) = (-1) then
                R nF_fetchedAmongGulls k 50 [.ref 0, .int v1, .long r2.2.1, .null, .int v4, .int v5, .int (Int64.toInt32 (r1.2.1 - r1.2.1 / 6 * 6))] [] r3.2.2
              else
                if inb (Int64.toInt32 (r1.2.1 - r1.2.1 / 6 * 6)) 6 = true then
                  R nF_fetchedAmongGulls k 50 [.ref 0, .int v1, .long r2.2.1, .null, .int v4, .int v5, .int (Int64.toInt32 (r1.2.1 - r1.2.1 / 6 * 6))] [] (su r3.2.2 21 (Int64.toInt32 (r1.2.1 - r1.2.1 / 6 * 6)).toNatClampNeg (Int64.toInt32 (r2.2.1 - r2.2.1 / 64 * 64)))
                else
                  none
            else
              none
  else
    some (v4, 0, σ) := (unr_R [14, 50] nF_fetchedAmongGulls k 400 14 _ _ _).trans rfl
theorem eF_fetchedAmongGulls_50 (k : Nat) (v1 : Int32) (v2 : Int64) (v4 : Int32) (v5 : Int32) (v6 : Int32) (σ : Sto) : R nF_fetchedAmongGulls k 50 [.ref 0, .int v1, .long v2, .null, .int v4, .int v5, .int v6] [] σ =
  (C nS_passHour k [.ref 18] σ).bind fun r1 =>
    if r1.1 = (-1) then
      R nF_fetchedAmongGulls k 14 [.ref 0, .int v1, .long v2, .null, .int v4, .int (v5 + 1), .int v6] [] r1.2.2
    else
      R nF_fetchedAmongGulls k 14 [.ref 0, .int v1, .long v2, .null, .int (v4 + 1), .int (v5 + 1), .int v6] [] r1.2.2 := (unr_R [14, 50] nF_fetchedAmongGulls k 400 50 _ _ _).trans rfl
-- X4_lotAfter
theorem eF_lotAfter (k : Nat) (p1 : Int64) (σ : Sto) : C nF_lotAfter k [.long p1] σ =
  some (0, ((p1 * 48271) - (p1 * 48271) / 2147483647 * 2147483647), σ) := (unr_R [] nF_lotAfter k 400 0 _ _ _).trans rfl
-- X4_fraction
theorem eF_fraction (k : Nat) (p1 : Int64) (p2 : Int64) (p3 : Int32) (σ : Sto) : C nF_fraction k [.long p1, .long p2, .int p3] σ =
  if (lg_cmp p2 1) < 0 then
    some (0, (-4611686018427387904), σ)
  else
    (C nF_within k [.int p3, .int 0, .int 1] σ).bind fun r1 =>
      if r1.1 = 0 then
        some (0, (-4611686018427387904), r1.2.2)
      else
        R nF_fraction k 17 [.long p1, .null, .long p2, .null, .int p3, .long p2, .null, .long p1, .null, .int 0, .null, .null] [] r1.2.2 := (unr_R [17] nF_fraction k 400 0 _ _ _).trans rfl
set_option maxRecDepth 1000000 in
theorem eF_fraction_17 (k : Nat) (v0 : Int64) (v2 : Int64) (v4 : Int32) (v5 : Int64) (v7 : Int64) (v9 : Int32) (u10 : Value) (σ : Sto) : R nF_fraction k 17 [.long v0, .null, .long v2, .null, .int v4, .long v5, .null, .long v7, .null, .int v9, u10, .null] [] σ =
  if (lg_cmp (Int32.toInt64 v9) 100) < 0 then
    if (lg_cmp v7 0) = 0 then
      if (lg_cmp v5 0) = 0 then
        some (0, (-4611686018427387904), σ)
      else
        if v4 = 0 then
          if v5 = 0 then
            none
          else
            some (0, (v0 / v5), σ)
        else
          if v5 = 0 then
            none
          else
            some (0, (v2 / v5), σ)
    else
      if v7 = 0 then
        none
      else
        R nF_fraction k 17 [.long v0, .null, .long v2, .null, .int v4, .long v7, .null, .long (v5 - v5 / v7 * v7), .null, .int (v9 + 1), .long (v5 - v5 / v7 * v7), .null] [] σ
  else
    if (lg_cmp v5 0) = 0 then
      some (0, (-4611686018427387904), σ)
    else
      if v4 = 0 then
        if v5 = 0 then
          none
        else
          some (0, (v0 / v5), σ)
      else
        if v5 = 0 then
          none
        else
          some (0, (v2 / v5), σ) := (unr_R [17] nF_fraction k 400 17 _ _ _).trans rfl
end
section
/-! EQUATIONS of the methods 104 .. 156 -/
-- X5_in
theorem eM_in (k : Nat) (p1 : Int32) (p2 : Int32) (p3 : Int32) (σ : Sto) : C nM_in k [.int p1, .int p2, .int p3] σ =
  if p1 < p2 then
    some (0, 0, σ)
  else
    if p3 < p1 then
      some (0, 0, σ)
    else
      some (1, 0, σ) := (unr_R [] nM_in k 400 0 _ _ _).trans rfl
-- X5_within
theorem eM_within (k : Nat) (p1 : Int32) (p2 : Int32) (p3 : Int32) (σ : Sto) : C nM_within k [.int p1, .int p2, .int p3] σ =
  if p1 < p2 then
    some (p2, 0, σ)
  else
    if p3 < p1 then
      some (p3, 0, σ)
    else
      some (p1, 0, σ) := (unr_R [] nM_within k 400 0 _ _ _).trans rfl
-- X5_onesOf
theorem eM_onesOf (k : Nat) (p1 : Int32) (σ : Sto) : C nM_onesOf k [.int p1] σ =
  R nM_onesOf k 4 [.int p1, .int 0, .int 0] [] σ := (unr_R [4] nM_onesOf k 400 0 _ _ _).trans rfl
theorem eM_onesOf_4 (k : Nat) (v0 : Int32) (v1 : Int32) (v2 : Int32) (σ : Sto) : R nM_onesOf k 4 [.int v0, .int v1, .int v2] [] σ =
  if v2 < 6 then
    R nM_onesOf k 4 [.int v0, .int (v1 + ((v0 >>> (v2 &&& 31)) &&& 1)), .int (v2 + 1)] [] σ
  else
    some (v1, 0, σ) := (unr_R [4] nM_onesOf k 400 4 _ _ _).trans rfl
-- X5_isOne
theorem eM_isOne (k : Nat) (p1 : Int32) (σ : Sto) : C nM_isOne k [.ref 30, .int p1] σ =
  (C nM_in k [.int p1, .int 0, .int ((σ 30 0) - 1)] σ).bind fun r1 =>
    if nok 1 r1.1 = true then
      some (r1.1, 0, r1.2.2)
    else
      none := (unr_R [] nM_isOne k 400 0 _ _ _).trans rfl
-- X5_isAt
theorem eM_isAt (k : Nat) (p1 : Int32) (σ : Sto) : C nM_isAt k [.ref 30, .int p1] σ =
  if inb (3 * p1) 18 = true then
    if (σ 33 (3 * p1).toNatClampNeg) = (-1) then
      some (0, 0, σ)
    else
      some (1, 0, σ)
  else
    none := (unr_R [] nM_isAt k 400 0 _ _ _).trans rfl
-- X5_isSeen
theorem eM_isSeen (k : Nat) (p1 : Int32) (σ : Sto) : C nM_isSeen k [.ref 30, .int p1] σ =
  (C nM_isAt k [.ref 30, .int p1] σ).bind fun r1 =>
    if r1.1 = 0 then
      some (0, 0, r1.2.2)
    else
      if inb ((3 * p1) + 1) 18 = true then
        if (r1.2.2 33 ((3 * p1) + 1).toNatClampNeg) = 0 then
          some (1, 0, r1.2.2)
        else
          some (0, 0, r1.2.2)
      else
        none := (unr_R [] nM_isSeen k 400 0 _ _ _).trans rfl
-- X5_seenSet
theorem eM_seenSet (k : Nat) (σ : Sto) : C nM_seenSet k [.ref 30] σ =
  R nM_seenSet k 4 [.ref 30, .int 0, .int 0] [] σ := (unr_R [4] nM_seenSet k 400 0 _ _ _).trans rfl
theorem eM_seenSet_4 (k : Nat) (v1 : Int32) (v2 : Int32) (σ : Sto) : R nM_seenSet k 4 [.ref 30, .int v1, .int v2] [] σ =
  if v2 < (σ 30 0) then
    (C nM_isSeen k [.ref 30, .int v2] σ).bind fun r1 =>
      if r1.1 = 0 then
        R nM_seenSet k 4 [.ref 30, .int (v1 ||| 0), .int (v2 + 1)] [] r1.2.2
      else
        R nM_seenSet k 4 [.ref 30, .int (v1 ||| (1 <<< (v2 &&& 31))), .int (v2 + 1)] [] r1.2.2
  else
    some (v1, 0, σ) := (unr_R [4] nM_seenSet k 400 4 _ _ _).trans rfl
-- X5_isOver
theorem eM_isOver (k : Nat) (p1 : Int32) (σ : Sto) : C nM_isOver k [.ref 30, .int p1] σ =
  (C nM_isAt k [.ref 30, .int p1] σ).bind fun r1 =>
    if r1.1 = 0 then
      if (r1.2.2 34 (1 : Int32).toNatClampNeg) = p1 then
        some (0, 0, r1.2.2)
      else
        some (1, 0, r1.2.2)
    else
      some (0, 0, r1.2.2) := (unr_R [] nM_isOver k 400 0 _ _ _).trans rfl
-- X5_overSet
theorem eM_overSet (k : Nat) (σ : Sto) : C nM_overSet k [.ref 30] σ =
  R nM_overSet k 4 [.ref 30, .int 0, .int 0] [] σ := (unr_R [4] nM_overSet k 400 0 _ _ _).trans rfl
theorem eM_overSet_4 (k : Nat) (v1 : Int32) (v2 : Int32) (σ : Sto) : R nM_overSet k 4 [.ref 30, .int v1, .int v2] [] σ =
  if v2 < (σ 30 0) then
    (C nM_isOver k [.ref 30, .int v2] σ).bind fun r1 =>
      if r1.1 = 0 then
        R nM_overSet k 4 [.ref 30, .int (v1 ||| 0), .int (v2 + 1)] [] r1.2.2
      else
        R nM_overSet k 4 [.ref 30, .int (v1 ||| (1 <<< (v2 &&& 31))), .int (v2 + 1)] [] r1.2.2
  else
    some (v1, 0, σ) := (unr_R [4] nM_overSet k 400 4 _ _ _).trans rfl
-- X5_count
theorem eM_count (k : Nat) (p1 : Int32) (σ : Sto) : C nM_count k [.ref 30, .int p1] σ =
  if p1 = 0 then
    some ((σ 30 0), 0, σ)
  else
    if p1 = 1 then
      some ((σ 34 (3 : Int32).toNatClampNeg), 0, σ)
    else
      if p1 = 2 then
        some ((σ 34 (2 : Int32).toNatClampNeg), 0, σ)
      else
        if p1 = 3 then
          some ((σ 30 9), 0, σ)
        else
          if p1 = 4 then
            some ((σ 30 10), 0, σ)
          else
            if p1 = 5 then
              some ((σ 30 6), 0, σ)
            else
              some ((-2), 0, σ) := (unr_R [] nM_count k 400 0 _ _ _).trans rfl
-- X5_bay
theorem eM_bay (k : Nat) (p1 : Int32) (p2 : Int32) (σ : Sto) : C nM_bay k [.ref 30, .int p1, .int p2] σ =
  (C nM_in k [.int p1, .int 0, .int 1] σ).bind fun r1 =>
    if r1.1 = 0 then
      some ((-2), 0, r1.2.2)
    else
      if p1 = 0 then
        (C nM_in k [.int p2, .int 0, .int 9999] r1.2.2).bind fun r2 =>
          if r2.1 = 0 then
            some ((-2), 0, r2.2.2)
          else
            if p1 = 0 then
              some ((r2.2.2 34 (3 : Int32).toNatClampNeg), 0, (su r2.2.2 34 (3 : Int32).toNatClampNeg p2))
            else
              some ((r2.2.2 34 (0 : Int32).toNatClampNeg), 0, (su r2.2.2 34 (0 : Int32).toNatClampNeg p2))
      else
        (C nM_in k [.int p2, .int 0, .int 99] r1.2.2).bind fun r2 =>
          if r2.1 = 0 then
            some ((-2), 0, r2.2.2)
          else
            if p1 = 0 then
              some ((r2.2.2 34 (3 : Int32).toNatClampNeg), 0, (su r2.2.2 34 (3 : Int32).toNatClampNeg p2))
            else
              some ((r2.2.2 34 (0 : Int32).toNatClampNeg), 0, (su r2.2.2 34 (0 : Int32).toNatClampNeg p2)) := (unr_R [] nM_bay k 400 0 _ _ _).trans rfl
-- X5_ferry
theorem eM_ferry (k : Nat) (p1 : Int32) (σ : Sto) : C nM_ferry k [.ref 30, .int p1] σ =
  if p1 = 0 then
    if inb p1 4 = true then
      some ((σ 34 p1.toNatClampNeg), 0, σ)
    else
      none
  else
    if p1 = 1 then
      if inb p1 4 = true then
        some ((σ 34 p1.toNatClampNeg), 0, σ)
      else
        none
    else
      if p1 = 2 then
        (C nM_choice k [.ref 30] σ).bind fun r1 =>
          some (r1.1, 0, r1.2.2)
      else
        if p1 = 3 then
          (C nM_aloneSet k [.ref 30] σ).bind fun r1 =>
            some (r1.1, 0, r1.2.2)
        else
          if p1 = 4 then
            (C nM_seenSet k [.ref 30] σ).bind fun r1 =>
              some (r1.1, 0, r1.2.2)
          else
            if p1 = 5 then
              (C nM_overSet k [.ref 30] σ).bind fun r1 =>
                some (r1.1, 0, r1.2.2)
            else
              some ((-7), 0, σ) := (unr_R [] nM_ferry k 400 0 _ _ _).trans rfl
-- X5_isByte
theorem eM_isByte (k : Nat) (p1 : Int32) (σ : Sto) : C nM_isByte k [.int p1] σ =
  (C nM_in k [.int p1, .int 0, .int 255] σ).bind fun r1 =>
    if nok 1 r1.1 = true then
      some (r1.1, 0, r1.2.2)
    else
      none := (unr_R [] nM_isByte k 400 0 _ _ _).trans rfl
-- X5_feed
theorem eM_feed (k : Nat) (p1 : Int32) (p2 : Int32) (p3 : Int32) (p4 : Int32) (p5 : Int32) (p6 : Int32) (σ : Sto) : C nM_feed k [.ref 30, .int p1, .int p2, .int p3, .int p4, .int p5, .int p6] σ =
  (C nM_in k [.int p1, .int 1, .int 5] σ).bind fun r1 =>
    if r1.1 = 0 then
      some ((-2), 0, r1.2.2)
    else
      (C nM_isByte k [.int p2] r1.2.2).bind fun r2 =>
        if r2.1 = 0 then
          some ((-2), 0, r2.2.2)
        else
          (C nM_isByte k [.int p3] r2.2.2).bind fun r3 =>
            if r3.1 = 0 then
              some ((-2), 0, r3.2.2)
            else
              (C nM_isByte k [.int p4] r3.2.2).bind fun r4 =>
                if r4.1 = 0 then
                  some ((-2), 0, r4.2.2)
                else
                  (C nM_isByte k [.int p5] r4.2.2).bind fun r5 =>
                    if r5.1 = 0 then
                      some ((-2), 0, r5.2.2)
                    else
                      (C nM_isByte k [.int p6] r5.2.2).bind fun r6 =>
                        if r6.1 = 0 then
                          some ((-2), 0, r6.2.2)
                        else
                          if 160 < ((r6.2.2 30 6) + p1) then
                            some ((-4), 0, r6.2.2)
                          else
                            R nM_feed k 32 [.ref 30, .int p1, .int p2, .int p3, .int p4, .int p5, .int p6, .int 0] [] r6.2.2 := (unr_R [32, 59] nM_feed k 400 0 _ _ _).trans rfl
theorem eM_feed_32 (k : Nat) (v1 : Int32) (v2 : Int32) (v3 : Int32) (v4 : Int32) (v5 : Int32) (v6 : Int32) (v7 : Int32) (σ : Sto) : R nM_feed k 32 [.ref 30, .int v1, .int v2, .int v3, .int v4, .int v5, .int v6, .int v7] [] σ =
  if v7 < v1 then
    if v7 = 0 then
      R nM_feed k 59 [.ref 30, .int v1, .int v2, .int v3, .int v4, .int v5, .int v6, .int v7] [.int v2, .int (σ 30 6), .ref 35] σ
    else
      if v7 = 1 then
        R nM_feed k 59 [.ref 30, .int v1, .int v2, .int v3, .int v4, .int v5, .int v6, .int v7] [.int v3, .int (σ 30 6), .ref 35] σ
      else
        if v7 = 2 then
          R nM_feed k 59 [.ref 30, .int v1, .int v2, .int v3, .int v4, .int v5, .int v6, .int v7] [.int v4, .int (σ 30 6), .ref 35] σ
        else
          if v7 = 3 then
            R nM_feed k 59 [.ref 30, .int v1, .int v2, .int v3, .int v4, .int v5, .int v6, .int v7] [.int v5, .int (σ 30 6), .ref 35] σ
          else
            R nM_feed k 59 [.ref 30, .int v1, .int v2, .int v3, .int v4, .int v5, .int v6, .int v7] [.int v6, .int (σ 30 6), .ref 35] σ
  else
    some ((σ 30 6), 0, σ) := (unr_R [32, 59] nM_feed k 400 32 _ _ _).trans rfl
theorem eM_feed_59 (k : Nat) (v1 : Int32) (v2 : Int32) (v3 : Int32) (v4 : Int32) (v5 : Int32) (v6 : Int32) (v7 : Int32) (s0 : Int32) (s1 : Int32) (σ : Sto) : R nM_feed k 59 [.ref 30, .int v1, .int v2, .int v3, .int v4, .int v5, .int v6, .int v7] [.int s0, .int s1, .ref 35] σ =
  if inb s1 160 = true then
    R nM_feed k 32 [.ref 30, .int v1, .int v2, .int v3, .int v4, .int v5, .int v6, .int (v7 + 1)] [] (su (su σ 35 s1.toNatClampNeg s0) 30 6 (((su σ 35 s1.toNatClampNeg s0) 30 6) + 1))
  else
    none := (unr_R [32, 59] nM_feed k 400 59 _ _ _).trans rfl
-- X5_wordFrom
theorem eM_wordFrom (k : Nat) (p1 : Int32) (p2 : Int32) (σ : Sto) : C nM_wordFrom k [.ref 30, .int p1, .int p2] σ =
  R nM_wordFrom k 2 [.ref 30, .int p1, .int p2, .int 0, .null, .null] [] σ := (unr_R [2, 16, 42] nM_wordFrom k 400 0 _ _ _).trans rfl
theorem eM_wordFrom_2 (k : Nat) (v1 : Int32) (v2 : Int32) (v3 : Int32) (u4 : Value) (u5 : Value) (σ : Sto) : R nM_wordFrom k 2 [.ref 30, .int v1, .int v2, .int v3, u4, u5] [] σ =
  if v3 < 12 then
    if 8 < (v2 - v1) then
      R nM_wordFrom k 16 [.ref 30, .int v1, .int v2, .int v3, .int 0, .int 0] [] σ
    else
      R nM_wordFrom k 16 [.ref 30, .int v1, .int v2, .int v3, .int 1, .int 0] [] σ
  else
    some (12, 0, σ) := (unr_R [2, 16, 42] nM_wordFrom k 400 2 _ _ _).trans rfl
theorem eM_wordFrom_16 (k : Nat) (v1 : Int32) (v2 : Int32) (v3 : Int32) (v4 : Int32) (v5 : Int32) (σ : Sto) : R nM_wordFrom k 16 [.ref 30, .int v1, .int v2, .int v3, .int v4, .int v5] [] σ =
  if v5 < 8 then
    if v4 = 0 then
      if v4 = 0 then
        R nM_wordFrom k 2 [.ref 30, .int v1, .int v2, .int (v3 + 1), .int v4, .int v5] [] σ
      else
        some (v3, 0, σ)
    else
      if inb ((8 * v3) + v5) 96 = true then
        if (v1 + v5) < v2 then
          if inb (v1 + v5) 160 = true then
            R nM_wordFrom k 42 [.ref 30, .int v1, .int v2, .int v3, .int v4, .int v5] [.int (σ 35 (v1 + v5).toNatClampNeg), .int (σ 44 ((8 * v3) + v5).toNatClampNeg)] σ
          else
            none
        else
          R nM_wordFrom k 42 [.ref 30, .int v1, .int v2, .int v3, .int v4, .int v5] [.int 32, .int (σ 44 ((8 * v3) + v5).toNatClampNeg)] σ
      else
        none
  else
    if v4 = 0 then
      R nM_wordFrom k 2 [.ref 30, .int v1, .int v2, .int (v3 + 1), .int v4, .int v5] [] σ
    else
      some (v3, 0, σ) := (unr_R [2, 16, 42] nM_wordFrom k 400 16 _ _ _).trans rfl
theorem eM_wordFrom_42 (k : Nat) (v1 : Int32) (v2 : Int32) (v3 : Int32) (v4 : Int32) (v5 : Int32) (s0 : Int32) (s1 : Int32) (σ : Sto) : R nM_wordFrom k 42 [.ref 30, .int v1, .int v2, .int v3, .int v4, .int v5] [.int s0, .int s1] σ =
  if s1 = s0 then
    R nM_wordFrom k 16 [.ref 30, .int v1, .int v2, .int v3, .int 1, .int (v5 + 1)] [] σ
  else
    R nM_wordFrom k 16 [.ref 30, .int v1, .int v2, .int v3, .int 0, .int (v5 + 1)] [] σ := (unr_R [2, 16, 42] nM_wordFrom k 400 42 _ _ _).trans rfl
-- X5_next
theorem eM_next (k : Nat) (σ : Sto) : C nM_next k [.ref 30] σ =
  if (σ 30 18) < (σ 30 6) then
    if inb (σ 30 18) 160 = true then
      if (σ 35 (σ 30 18).toNatClampNeg) = 32 then
        R nM_next k 19 [.ref 30, .null, .null] [] σ
      else
        if inb (σ 30 18) 160 = true then
          if (σ 35 (σ 30 18).toNatClampNeg) = 10 then
            R nM_next k 19 [.ref 30, .null, .null] [] σ
          else
            R nM_next k 26 [.ref 30, .null, .null] [] σ
        else
          none
    else
      none
  else
    R nM_next k 26 [.ref 30, .null, .null] [] σ := (unr_R [0, 19, 26, 53, 74, 102, 112, 121, 153, 162, 169, 195, 198, 205, 212] nM_next k 400 0 _ _ _).trans rfl
theorem eM_next_0 (k : Nat) (σ : Sto) : R nM_next k 0 [.ref 30, .null, .null] [] σ =
  if (σ 30 18) < (σ 30 6) then
    if inb (σ 30 18) 160 = true then
      if (σ 35 (σ 30 18).toNatClampNeg) = 32 then
        R nM_next k 19 [.ref 30, .null, .null] [] σ
      else
        if inb (σ 30 18) 160 = true then
          if (σ 35 (σ 30 18).toNatClampNeg) = 10 then
            R nM_next k 19 [.ref 30, .null, .null] [] σ
          else
            R nM_next k 26 [.ref 30, .null, .null] [] σ
        else
          none
    else
      none
  else
    R nM_next k 26 [.ref 30, .null, .null] [] σ := (unr_R [0, 19, 26, 53, 74, 102, 112, 121, 153, 162, 169, 195, 198, 205, 212] nM_next k 400 0 _ _ _).trans rfl
theorem eM_next_19 (k : Nat) (σ : Sto) : R nM_next k 19 [.ref 30, .null, .null] [] σ =
  R nM_next k 0 [.ref 30, .null, .null] [] (su σ 30 18 ((σ 30 18) + 1)) := (unr_R [0, 19, 26, 53, 74, 102, 112, 121, 153, 162, 169, 195, 198, 205, 212] nM_next k 400 19 _ _ _).trans rfl
set_option maxRecDepth 1000000 in
theorem eM_next_26 (k : Nat) (σ : Sto) : R nM_next k 26 [.ref 30, .null, .null] [] σ =
  if ((su (su (su σ 30 19 (σ 30 18)) 30 20 0) 30 21 0) 30 18) = ((su (su (su σ 30 19 (σ 30 18)) 30 20 0) 30 21 0) 30 6) then
    some (0, 0, (su (su (su σ 30 19 (σ 30 18)) 30 20 0) 30 21 0))
  else
    if inb ((su (su (su σ 30 19 (σ 30 18)) 30 20 0) 30 21 0) 30 18) 160 = true then
      (C nM_in k [.int ((su (su (su σ 30 19 (σ 30 18)) 30 20 0) 30 21 0) 35 ((su (su (su σ 30 19 (σ 30 18)) 30 20 0) 30 21 0) 30 18).toNatClampNeg), .int 97, .int 122] (su (su (su σ 30 19 (σ 30 18)) 30 20 0) 30 21 0)).bind fun r1 =>
        if r1.1 = 0 then
          (C nM_in k [.int ((su (su (su σ 30 19 (σ 30 18)) 30 20 0) 30 21 0) 35 ((su (su (su σ 30 19 (σ 30 18)) 30 20 0) 30 21 0) 30 18).toNatClampNeg), .int 48, .int 57] r1.2.2).bind fun r2 =>
            if r2.1 = 0 then
              if ((su (su (su σ 30 19 (σ 30 18)) 30 20 0) 30 21 0) 35 ((su (su (su σ 30 19 (σ 30 18)) 30 20 0) 30 21 0) 30 18).toNatClampNeg) = 40 then
                R nM_next k 195 [.ref 30, .int ((su (su (su σ 30 19 (σ 30 18)) 30 20 0) 30 21 0) 35 ((su (su (su σ 30 19 (σ 30 18)) 30 20 0) 30 21 0) 30 18).toNatClampNeg), .null] [] r2.2.2
              else
                if ((su (su (su σ 30 19 (σ 30 18)) 30 20 0) 30 21 0) 35 ((su (su (su σ 30 19 (σ 30 18)) 30 20 0) 30 21 0) 30 18).toNatClampNeg) = 41 then
                  R nM_next k 195 [.ref 30, .int ((su (su (su σ 30 19 (σ 30 18)) 30 20 0) 30 21 0) 35 ((su (su (su σ 30 19 (σ 30 18)) 30 20 0) 30 21 0) 30 18).toNatClampNeg), .null] [] r2.2.2
                else
                  if ((su (su (su σ 30 19 (σ 30 18)) 30 20 0) 30 21 0) 35 ((su (su (su σ 30 19 (σ 30 18)) 30 20 0) 30 21 0) 30 18).toNatClampNeg) = 59 then
                    R nM_next k 195 [.ref 30, .int ((su (su (su σ 30 19 (σ 30 18)) 30 20 0) 30 21 0) 35 ((su (su (su σ 30 19 (σ 30 18)) 30 20 0) 30 21 0) 30 18).toNatClampNeg), .null] [] r2.2.2
                  else
                    if ((su (su (su σ 30 19 (σ 30 18)) 30 20 0) 30 21 0) 35 ((su (su (su σ 30 19 (σ 30 18)) 30 20 0) 30 21 0) 30 18).toNatClampNeg) = 43 then
                      R nM_next k 195 [.ref 30, .int ((su (su (su σ 30 19 (σ 30 18)) 30 20 0) 30 21 0) 35 ((su (su (su σ 30 19 (σ 30 18)) 30 20 0) 30 21 0) 30 18).toNatClampNeg), .null] [] r2.2.2
                    else
                      if ((su (su (su σ 30 19 (σ 30 18)) 30 20 0) 30 21 0) 35 ((su (su (su σ 30 19 (σ 30 18)) 30 20 0) 30 21 0) 30 18).toNatClampNeg) = 45 then
                        R nM_next k 195 [.ref 30, .int ((su (su (su σ 30 19 (σ 30 18)) 30 20 0) 30 21 0) 35 ((su (su (su σ 30 19 (σ 30 18)) 30 20 0) 30 21 0) 30 18).toNatClampNeg), .null] [] r2.2.2
                      else
                        if ((su (su (su σ 30 19 (σ 30 18)) 30 20 0) 30 21 0) 35 ((su (su (su σ 30 19 (σ 30 18)) 30 20 0) 30 21 0) 30 18).toNatClampNeg) = 42 then
                          R nM_next k 195 [.ref 30, .int ((su (su (su σ 30 19 (σ 30 18)) 30 20 0) 30 21 0) 35 ((su (su (su σ 30 19 (σ 30 18)) 30 20 0) 30 21 0) 30 18).toNatClampNeg), .null] [] r2.2.2
                        else
                          if ((su (su (su σ 30 19 (σ 30 18)) 30 20 0) 30 21 0) 35 ((su (su (su σ 30 19 (σ 30 18)) 30 20 0) 30 21 0) 30 18).toNatClampNeg) = 60 then
                            R nM_next k 195 [.ref 30, .int ((su (su (su σ 30 19 (σ 30 18)) 30 20 0) 30 21 0) 35 ((su (su (su σ 30 19 (σ 30 18)) 30 20 0) 30 21 0) 30 18).toNatClampNeg), .null] [] r2.2.2
                          else
                            if ((su (su (su σ 30 19 (σ 30 18)) 30 20 0) 30 21 0) 35 ((su (su (su σ 30 19 (σ 30 18)) 30 20 0) 30 21 0) 30 18).toNatClampNeg) = 61 then
                              R nM_next k 195 [.ref 30, .int ((su (su (su σ 30 19 (σ 30 18)) 30 20 0) 30 21 0) 35 ((su (su (su σ 30 19 (σ 30 18)) 30 20 0) 30 21 0) 30 18).toNatClampNeg), .null] [] r2.2.2
                            else
                              R nM_next k 198 [.ref 30, .int ((su (su (su σ 30 19 (σ 30 18)) 30 20 0) 30 21 0) 35 ((su (su (su σ 30 19 (σ 30 18)) 30 20 0) 30 21 0) 30 18).toNatClampNeg), .null] [.int 0] r2.2.2
            else
              R nM_next k 121 [.ref 30, .int ((su (su (su σ 30 19 (σ 30 18)) 30 20 0) 30 21 0) 35 ((su (su (su σ 30 19 (σ 30 18)) 30 20 0) 30 21 0) 30 18).toNatClampNeg), .int 0] [] r2.2.2
        else
          R nM_next k 53 [.ref 30, .int ((su (su (su σ 30 19 (σ 30 18)) 30 20 0) 30 21 0) 35 ((su (su (su σ 30 19 (σ 30 18)) 30 20 0) 30 21 0) 30 18).toNatClampNeg), .null] [] r1.2.2
    else
      none := (unr_R [0, 19, 26, 53, 74, 102, 112, 121, 153, 162, 169, 195, 198, 205, 212] nM_next k 400 26 _ _ _).trans rfl
theorem eM_next_53 (k : Nat) (v1 : Int32) (σ : Sto) : R nM_next k 53 [.ref 30, .int v1, .null] [] σ =
  if (σ 30 18) < (σ 30 6) then
    if inb (σ 30 18) 160 = true then
      (C nM_in k [.int (σ 35 (σ 30 18).toNatClampNeg), .int 97, .int 122] σ).bind fun r1 =>
        if r1.1 = 0 then
          R nM_next k 74 [.ref 30, .int v1, .null] [] r1.2.2
        else
          R nM_next k 53 [.ref 30, .int v1, .null] [] (su r1.2.2 30 18 ((r1.2.2 30 18) + 1))
    else
      none
  else
    R nM_next k 74 [.ref 30, .int v1, .null] [] σ := (unr_R [0, 19, 26, 53, 74, 102, 112, 121, 153, 162, 169, 195, 198, 205, 212] nM_next k 400 53 _ _ _).trans rfl
theorem eM_next_74 (k : Nat) (v1 : Int32) (σ : Sto) : R nM_next k 74 [.ref 30, .int v1, .null] [] σ =
  (C nM_wordFrom k [.ref 30, .int (σ 30 19), .int (σ 30 18)] σ).bind fun r1 =>
    if r1.1 < 3 then
      R nM_next k 102 [.ref 30, .int v1, .int r1.1] [.int 3, .ref 30] r1.2.2
    else
      if r1.1 < 9 then
        R nM_next k 102 [.ref 30, .int v1, .int r1.1] [.int 2, .ref 30] r1.2.2
      else
        if r1.1 = 12 then
          R nM_next k 102 [.ref 30, .int v1, .int r1.1] [.int (-1), .ref 30] r1.2.2
        else
          R nM_next k 102 [.ref 30, .int v1, .int r1.1] [.int ((4 + r1.1) - 9), .ref 30] r1.2.2 := (unr_R [0, 19, 26, 53, 74, 102, 112, 121, 153, 162, 169, 195, 198, 205, 212] nM_next k 400 74 _ _ _).trans rfl
theorem eM_next_102 (k : Nat) (v1 : Int32) (v2 : Int32) (s0 : Int32) (σ : Sto) : R nM_next k 102 [.ref 30, .int v1, .int v2] [.int s0, .ref 30] σ =
  if v2 < 3 then
    R nM_next k 112 [.ref 30, .int v1, .int v2] [.int v2, .ref 30] (su σ 30 20 s0)
  else
    R nM_next k 112 [.ref 30, .int v1, .int v2] [.int (v2 - 3), .ref 30] (su σ 30 20 s0) := (unr_R [0, 19, 26, 53, 74, 102, 112, 121, 153, 162, 169, 195, 198, 205, 212] nM_next k 400 102 _ _ _).trans rfl
theorem eM_next_112 (k : Nat) (v1 : Int32) (v2 : Int32) (s0 : Int32) (σ : Sto) : R nM_next k 112 [.ref 30, .int v1, .int v2] [.int s0, .ref 30] σ =
  R nM_next k 212 [.ref 30, .int v1, .int v2] [] (su σ 30 21 s0) := (unr_R [0, 19, 26, 53, 74, 102, 112, 121, 153, 162, 169, 195, 198, 205, 212] nM_next k 400 112 _ _ _).trans rfl
theorem eM_next_121 (k : Nat) (v1 : Int32) (v2 : Int32) (σ : Sto) : R nM_next k 121 [.ref 30, .int v1, .int v2] [] σ =
  if (σ 30 18) < (σ 30 6) then
    if inb (σ 30 18) 160 = true then
      (C nM_in k [.int (σ 35 (σ 30 18).toNatClampNeg), .int 48, .int 57] σ).bind fun r1 =>
        if r1.1 = 0 then
          R nM_next k 162 [.ref 30, .int v1, .int v2] [] r1.2.2
        else
          if v2 < 4 then
            if inb (r1.2.2 30 18) 160 = true then
              R nM_next k 153 [.ref 30, .int v1, .int v2] [.int (((10 * (r1.2.2 30 21)) + (r1.2.2 35 (r1.2.2 30 18).toNatClampNeg)) - 48), .ref 30] r1.2.2
            else
              none
          else
            R nM_next k 153 [.ref 30, .int v1, .int v2] [.int 0, .ref 30] r1.2.2
    else
      none
  else
    R nM_next k 162 [.ref 30, .int v1, .int v2] [] σ := (unr_R [0, 19, 26, 53, 74, 102, 112, 121, 153, 162, 169, 195, 198, 205, 212] nM_next k 400 121 _ _ _).trans rfl
theorem eM_next_153 (k : Nat) (v1 : Int32) (v2 : Int32) (s0 : Int32) (σ : Sto) : R nM_next k 153 [.ref 30, .int v1, .int v2] [.int s0, .ref 30] σ =
  R nM_next k 121 [.ref 30, .int v1, .int (v2 + 1)] [] (su (su σ 30 21 s0) 30 18 (((su σ 30 21 s0) 30 18) + 1)) := (unr_R [0, 19, 26, 53, 74, 102, 112, 121, 153, 162, 169, 195, 198, 205, 212] nM_next k 400 153 _ _ _).trans rfl
theorem eM_next_162 (k : Nat) (v1 : Int32) (v2 : Int32) (σ : Sto) : R nM_next k 162 [.ref 30, .int v1, .int v2] [] σ =
  if 4 < v2 then
    R nM_next k 169 [.ref 30, .int v1, .int v2] [.int (-1), .ref 30] σ
  else
    R nM_next k 169 [.ref 30, .int v1, .int v2] [.int 1, .ref 30] σ := (unr_R [0, 19, 26, 53, 74, 102, 112, 121, 153, 162, 169, 195, 198, 205, 212] nM_next k 400 162 _ _ _).trans rfl
theorem eM_next_169 (k : Nat) (v1 : Int32) (v2 : Int32) (s0 : Int32) (σ : Sto) : R nM_next k 169 [.ref 30, .int v1, .int v2] [.int s0, .ref 30] σ =
  R nM_next k 212 [.ref 30, .int v1, .int v2] [] (su σ 30 20 s0) := (unr_R [0, 19, 26, 53, 74, 102, 112, 121, 153, 162, 169, 195, 198, 205, 212] nM_next k 400 169 _ _ _).trans rfl
theorem eM_next_195 (k : Nat) (v1 : Int32) (σ : Sto) : R nM_next k 195 [.ref 30, .int v1, .null] [] σ =
  R nM_next k 198 [.ref 30, .int v1, .null] [.int 1] σ := (unr_R [0, 19, 26, 53, 74, 102, 112, 121, 153, 162, 169, 195, 198, 205, 212] nM_next k 400 195 _ _ _).trans rfl
theorem eM_next_198 (k : Nat) (v1 : Int32) (s0 : Int32) (σ : Sto) : R nM_next k 198 [.ref 30, .int v1, .null] [.int s0] σ =
  if s0 = 0 then
    R nM_next k 205 [.ref 30, .int v1, .int s0] [.int (-1), .ref 30] σ
  else
    R nM_next k 205 [.ref 30, .int v1, .int s0] [.int v1, .ref 30] σ := (unr_R [0, 19, 26, 53, 74, 102, 112, 121, 153, 162, 169, 195, 198, 205, 212] nM_next k 400 198 _ _ _).trans rfl
theorem eM_next_205 (k : Nat) (v1 : Int32) (v2 : Int32) (s0 : Int32) (σ : Sto) : R nM_next k 205 [.ref 30, .int v1, .int v2] [.int s0, .ref 30] σ =
  R nM_next k 212 [.ref 30, .int v1, .int v2] [] (su (su σ 30 20 s0) 30 18 (((su σ 30 20 s0) 30 18) + 1)) := (unr_R [0, 19, 26, 53, 74, 102, 112, 121, 153, 162, 169, 195, 198, 205, 212] nM_next k 400 205 _ _ _).trans rfl
theorem eM_next_212 (k : Nat) (v1 : Int32) (v2 : Int32) (σ : Sto) : R nM_next k 212 [.ref 30, .int v1, .int v2] [] σ =
  some (0, 0, σ) := (unr_R [0, 19, 26, 53, 74, 102, 112, 121, 153, 162, 169, 195, 198, 205, 212] nM_next k 400 212 _ _ _).trans rfl
-- X5_rank
theorem eM_rank (k : Nat) (p1 : Int32) (σ : Sto) : C nM_rank k [.int p1] σ =
  if p1 = 0 then
    some (0, 0, σ)
  else
    if p1 = 11 then
      some (1, 0, σ)
    else
      if p1 = 12 then
        some (2, 0, σ)
      else
        if p1 = 13 then
          some (3, 0, σ)
        else
          if 15 < p1 then
            if 17 < p1 then
              if p1 = 18 then
                some (6, 0, σ)
              else
                some (7, 0, σ)
            else
              some (5, 0, σ)
          else
            some (4, 0, σ) := (unr_R [] nM_rank k 400 0 _ _ _).trans rfl
-- X5_puts
theorem eM_puts (k : Nat) (p1 : Int32) (σ : Sto) : C nM_puts k [.ref 30, .int p1] σ =
  if inb ((200 * (σ 30 9)) + (σ 30 26)) 1200 = true then
    some (0, 0, (su (su σ 36 ((200 * (σ 30 9)) + (σ 30 26)).toNatClampNeg p1) 30 26 (((su σ 36 ((200 * (σ 30 9)) + (σ 30 26)).toNatClampNeg p1) 30 26) + 1)))
  else
    none := (unr_R [] nM_puts k 400 0 _ _ _).trans rfl
-- X5_unwinds
theorem eM_unwinds (k : Nat) (p1 : Int32) (σ : Sto) : C nM_unwinds k [.ref 30, .int p1] σ =
  if 0 < (σ 30 24) then
    if inb ((σ 30 24) - 1) 200 = true then
      (C nM_rank k [.int (σ 45 ((σ 30 24) - 1).toNatClampNeg)] σ).bind fun r1 =>
        if r1.1 < p1 then
          some (0, 0, r1.2.2)
        else
          if inb ((su r1.2.2 30 24 ((r1.2.2 30 24) - 1)) 30 24) 200 = true then
            if ((su r1.2.2 30 24 ((r1.2.2 30 24) - 1)) 45 ((su r1.2.2 30 24 ((r1.2.2 30 24) - 1)) 30 24).toNatClampNeg) = 13 then
              (C nM_puts k [.ref 30, .int ((su r1.2.2 30 24 ((r1.2.2 30 24) - 1)) 45 ((su r1.2.2 30 24 ((r1.2.2 30 24) - 1)) 30 24).toNatClampNeg)] (su (su r1.2.2 30 24 ((r1.2.2 30 24) - 1)) 30 25 (((su r1.2.2 30 24 ((r1.2.2 30 24) - 1)) 30 25) - 1))).bind fun r2 =>
                R nM_unwinds k 0 [.ref 30, .int p1, .int ((su r1.2.2 30 24 ((r1.2.2 30 24) - 1)) 45 ((su r1.2.2 30 24 ((r1.2.2 30 24) - 1)) 30 24).toNatClampNeg)] [] r2.2.2
            else
              if ((su r1.2.2 30 24 ((r1.2.2 30 24) - 1)) 45 ((su r1.2.2 30 24 ((r1.2.2 30 24) - 1)) 30 24).toNatClampNeg) = 19 then
                (C nM_puts k [.ref 30, .int ((su r1.2.2 30 24 ((r1.2.2 30 24) - 1)) 45 ((su r1.2.2 30 24 ((r1.2.2 30 24) - 1)) 30 24).toNatClampNeg)] (su (su r1.2.2 30 24 ((r1.2.2 30 24) - 1)) 30 25 (((su r1.2.2 30 24 ((r1.2.2 30 24) - 1)) 30 25) - 1))).bind fun r2 =>
                  R nM_unwinds k 0 [.ref 30, .int p1, .int ((su r1.2.2 30 24 ((r1.2.2 30 24) - 1)) 45 ((su r1.2.2 30 24 ((r1.2.2 30 24) - 1)) 30 24).toNatClampNeg)] [] r2.2.2
              else
                (C nM_puts k [.ref 30, .int ((su r1.2.2 30 24 ((r1.2.2 30 24) - 1)) 45 ((su r1.2.2 30 24 ((r1.2.2 30 24) - 1)) 30 24).toNatClampNeg)] (su (su r1.2.2 30 24 ((r1.2.2 30 24) - 1)) 30 25 (((su r1.2.2 30 24 ((r1.2.2 30 24) - 1)) 30 25) - 0))).bind fun r2 =>
                  R nM_unwinds k 0 [.ref 30, .int p1, .int ((su r1.2.2 30 24 ((r1.2.2 30 24) - 1)) 45 ((su r1.2.2 30 24 ((r1.2.2 30 24) - 1)) 30 24).toNatClampNeg)] [] r2.2.2
          else
            none
    else
      none
  else
    some (0, 0, σ) := (unr_R [0] nM_unwinds k 400 0 _ _ _).trans rfl
theorem eM_unwinds_0 (k : Nat) (v1 : Int32) (v2 : Int32) (σ : Sto) : R nM_unwinds k 0 [.ref 30, .int v1, .int v2] [] σ =
  if 0 < (σ 30 24) then
    if inb ((σ 30 24) - 1) 200 = true then
      (C nM_rank k [.int (σ 45 ((σ 30 24) - 1).toNatClampNeg)] σ).bind fun r1 =>
        if r1.1 < v1 then
          some (0, 0, r1.2.2)
        else
          if inb ((su r1.2.2 30 24 ((r1.2.2 30 24) - 1)) 30 24) 200 = true then
            if ((su r1.2.2 30 24 ((r1.2.2 30 24) - 1)) 45 ((su r1.2.2 30 24 ((r1.2.2 30 24) - 1)) 30 24).toNatClampNeg) = 13 then
              (C nM_puts k [.ref 30, .int ((su r1.2.2 30 24 ((r1.2.2 30 24) - 1)) 45 ((su r1.2.2 30 24 ((r1.2.2 30 24) - 1)) 30 24).toNatClampNeg)] (su (su r1.2.2 30 24 ((r1.2.2 30 24) - 1)) 30 25 (((su r1.2.2 30 24 ((r1.2.2 30 24) - 1)) 30 25) - 1))).bind fun r2 =>
                R nM_unwinds k 0 [.ref 30, .int v1, .int ((su r1.2.2 30 24 ((r1.2.2 30 24) - 1)) 45 ((su r1.2.2 30 24 ((r1.2.2 30 24) - 1)) 30 24).toNatClampNeg)] [] r2.2.2
            else
              if ((su r1.2.2 30 24 ((r1.2.2 30 24) - 1)) 45 ((su r1.2.2 30 24 ((r1.2.2 30 24) - 1)) 30 24).toNatClampNeg) = 19 then
                (C nM_puts k [.ref 30, .int ((su r1.2.2 30 24 ((r1.2.2 30 24) - 1)) 45 ((su r1.2.2 30 24 ((r1.2.2 30 24) - 1)) 30 24).toNatClampNeg)] (su (su r1.2.2 30 24 ((r1.2.2 30 24) - 1)) 30 25 (((su r1.2.2 30 24 ((r1.2.2 30 24) - 1)) 30 25) - 1))).bind fun r2 =>
                  R nM_unwinds k 0 [.ref 30, .int v1, .int ((su r1.2.2 30 24 ((r1.2.2 30 24) - 1)) 45 ((su r1.2.2 30 24 ((r1.2.2 30 24) - 1)) 30 24).toNatClampNeg)] [] r2.2.2
              else
                (C nM_puts k [.ref 30, .int ((su r1.2.2 30 24 ((r1.2.2 30 24) - 1)) 45 ((su r1.2.2 30 24 ((r1.2.2 30 24) - 1)) 30 24).toNatClampNeg)] (su (su r1.2.2 30 24 ((r1.2.2 30 24) - 1)) 30 25 (((su r1.2.2 30 24 ((r1.2.2 30 24) - 1)) 30 25) - 0))).bind fun r2 =>
                  R nM_unwinds k 0 [.ref 30, .int v1, .int ((su r1.2.2 30 24 ((r1.2.2 30 24) - 1)) 45 ((su r1.2.2 30 24 ((r1.2.2 30 24) - 1)) 30 24).toNatClampNeg)] [] r2.2.2
          else
            none
    else
      none
  else
    some (0, 0, σ) := (unr_R [0] nM_unwinds k 400 0 _ _ _).trans rfl
-- X5_holds
theorem eM_holds (k : Nat) (p1 : Int32) (σ : Sto) : C nM_holds k [.ref 30, .int p1] σ =
  if inb (σ 30 24) 200 = true then
    some (0, 0, (su (su σ 45 (σ 30 24).toNatClampNeg p1) 30 24 (((su σ 45 (σ 30 24).toNatClampNeg p1) 30 24) + 1)))
  else
    none := (unr_R [] nM_holds k 400 0 _ _ _).trans rfl
-- X5_opensOne
theorem eM_opensOne (k : Nat) (p1 : Int32) (σ : Sto) : C nM_opensOne k [.ref 30, .int p1] σ =
  if (σ 30 25) = 5 then
    some (0, 0, σ)
  else
    (C nM_holds k [.ref 30, .int p1] (su σ 30 25 ((σ 30 25) + 1))).bind fun r1 =>
      some (1, 0, r1.2.2) := (unr_R [] nM_opensOne k 400 0 _ _ _).trans rfl
-- X5_between
set_option maxRecDepth 1000000 in
theorem eM_between (k : Nat) (p1 : Int32) (σ : Sto) : C nM_between k [.ref 30, .int p1] σ =
  (C nM_rank k [.int p1] σ).bind fun r1 =>
    if r1.1 = 4 then
      (C nM_unwinds k [.ref 30, .int 5] r1.2.2).bind fun r2 =>
        (C nM_rank k [.int p1] r2.2.2).bind fun r3 =>
          if r3.1 = 4 then
            if 0 < (r3.2.2 30 24) then
              if inb ((r3.2.2 30 24) - 1) 200 = true then
                (C nM_rank k [.int (r3.2.2 45 ((r3.2.2 30 24) - 1).toNatClampNeg)] r3.2.2).bind fun r4 =>
                  if r4.1 = 4 then
                    some (0, 0, r4.2.2)
                  else
                    (C nM_holds k [.ref 30, .int p1] r4.2.2).bind fun r5 =>
                      some (1, 0, r5.2.2)
              else
                none
            else
              (C nM_holds k [.ref 30, .int p1] r3.2.2).bind fun r4 =>
                some (1, 0, r4.2.2)
          else
            (C nM_holds k [.ref 30, .int p1] r3.2.2).bind fun r4 =>
              some (1, 0, r4.2.2)
    else
      (C nM_rank k [.int p1] r1.2.2).bind fun r2 =>
        (C nM_unwinds k [.ref 30, .int r2.1] r2.2.2).bind fun r3 =>
          (C nM_rank k [.int p1] r3.2.2).bind fun r4 =>
            if r4.1 = 4 then
              if 0 < (r4.2.2 30 24) then
                if inb ((r4.2.2 30 24) - 1) 200 = true then
                  (C nM_rank k [.int (r4.2.2 45 ((r4.2.2 30 24) - 1).toNatClampNeg)] r4.2.2).bind fun r5 =>
                    if r5.1 = 4 then
                      some (0, 0, r5.2.2)
                    else
                      (C nM_holds k [.ref 30, .int p1] r5.2.2).bind fun r6 =>
                        some (1, 0, r6.2.2)
                else
                  none
              else
                (C nM_holds k [.ref 30, .int p1] r4.2.2).bind fun r5 =>
                  some (1, 0, r5.2.2)
            else
              (C nM_holds k [.ref 30, .int p1] r4.2.2).bind fun r5 =>
                some (1, 0, r5.2.2) := (unr_R [] nM_between k 400 0 _ _ _).trans rfl
-- X5_signOf
theorem eM_signOf (k : Nat) (σ : Sto) : C nM_signOf k [.ref 30] σ =
  if (σ 30 20) = 4 then
    some (11, 0, σ)
  else
    if (σ 30 20) = 5 then
      some (12, 0, σ)
    else
      if (σ 30 20) = 60 then
        some (14, 0, σ)
      else
        if (σ 30 20) = 61 then
          some (15, 0, σ)
        else
          if (σ 30 20) = 43 then
            some (16, 0, σ)
          else
            if (σ 30 20) = 45 then
              some (17, 0, σ)
            else
              if (σ 30 20) = 42 then
                some (18, 0, σ)
              else
                some ((-1), 0, σ) := (unr_R [] nM_signOf k 400 0 _ _ _).trans rfl
-- X5_eRead
theorem eM_eRead (k : Nat) (σ : Sto) : C nM_eRead k [.ref 30] σ =
  R nM_eRead k 10 [.ref 30, .int 1, .int 1, .null] [] (su (su σ 30 24 0) 30 25 0) := (unr_R [10, 22, 34, 53, 94, 133, 143] nM_eRead k 400 0 _ _ _).trans rfl
set_option maxRecDepth 1000000 in
theorem eM_eRead_10 (k : Nat) (v1 : Int32) (v2 : Int32) (u3 : Value) (σ : Sto) : R nM_eRead k 10 [.ref 30, .int v1, .int v2, u3] [] σ =
  (C nM_next k [.ref 30] σ).bind fun r1 =>
    if v1 = 0 then
      if (r1.2.2 30 20) = 59 then
        (C nM_unwinds k [.ref 30, .int 1] r1.2.2).bind fun r2 =>
          if (r2.2.2 30 24) = 0 then
            R nM_eRead k 94 [.ref 30, .int v1, .int v2, u3] [.int 1] r2.2.2
          else
            R nM_eRead k 94 [.ref 30, .int v1, .int v2, u3] [.int 0] r2.2.2
      else
        if (r1.2.2 30 20) = 41 then
          (C nM_unwinds k [.ref 30, .int 1] r1.2.2).bind fun r2 =>
            if (r2.2.2 30 24) = 0 then
              some (0, 0, r2.2.2)
            else
              (C nM_unwinds k [.ref 30, .int 7] (su (su r2.2.2 30 24 ((r2.2.2 30 24) - 1)) 30 25 (((su r2.2.2 30 24 ((r2.2.2 30 24) - 1)) 30 25) - 1))).bind fun r3 =>
                R nM_eRead k 10 [.ref 30, .int v1, .int v2, u3] [] r3.2.2
        else
          (C nM_signOf k [.ref 30] r1.2.2).bind fun r2 =>
            if r2.1 = (-1) then
              R nM_eRead k 133 [.ref 30, .int v1, .int v2, .int r2.1] [] r2.2.2
            else
              (C nM_between k [.ref 30, .int r2.1] r2.2.2).bind fun r3 =>
                if r3.1 = 0 then
                  R nM_eRead k 133 [.ref 30, .int v1, .int v2, .int r2.1] [] r3.2.2
                else
                  if 12 < r2.1 then
                    R nM_eRead k 143 [.ref 30, .int 1, .int v2, .int r2.1] [.int 0] r3.2.2
                  else
                    R nM_eRead k 143 [.ref 30, .int 1, .int v2, .int r2.1] [.int 1] r3.2.2
    else
      if (r1.2.2 30 20) = 1 then
        R nM_eRead k 22 [.ref 30, .int v1, .int v2, u3] [] r1.2.2
      else
        if (r1.2.2 30 20) = 2 then
          R nM_eRead k 22 [.ref 30, .int v1, .int v2, u3] [] r1.2.2
        else
          if (r1.2.2 30 20) = 6 then
            if v2 = 0 then
              R nM_eRead k 53 [.ref 30, .int v1, .int v2, u3] [] r1.2.2
            else
              (C nM_opensOne k [.ref 30, .int 13] r1.2.2).bind fun r2 =>
                if r2.1 = 0 then
                  some (0, 0, r2.2.2)
                else
                  R nM_eRead k 10 [.ref 30, .int v1, .int v2, u3] [] r2.2.2
          else
            R nM_eRead k 53 [.ref 30, .int v1, .int v2, u3] [] r1.2.2 := (unr_R [10, 22, 34, 53, 94, 133, 143] nM_eRead k 400 10 _ _ _).trans rfl
theorem eM_eRead_22 (k : Nat) (v1 : Int32) (v2 : Int32) (u3 : Value) (σ : Sto) : R nM_eRead k 22 [.ref 30, .int v1, .int v2, u3] [] σ =
  if (σ 30 20) = 1 then
    R nM_eRead k 34 [.ref 30, .int v1, .int v2, u3] [.int (100000 + (σ 30 21)), .ref 30] σ
  else
    R nM_eRead k 34 [.ref 30, .int v1, .int v2, u3] [.int (σ 30 21), .ref 30] σ := (unr_R [10, 22, 34, 53, 94, 133, 143] nM_eRead k 400 22 _ _ _).trans rfl
theorem eM_eRead_34 (k : Nat) (v1 : Int32) (v2 : Int32) (u3 : Value) (s0 : Int32) (σ : Sto) : R nM_eRead k 34 [.ref 30, .int v1, .int v2, u3] [.int s0, .ref 30] σ =
  (C nM_puts k [.ref 30, .int s0] σ).bind fun r1 =>
    (C nM_unwinds k [.ref 30, .int 7] r1.2.2).bind fun r2 =>
      R nM_eRead k 10 [.ref 30, .int 0, .int v2, u3] [] r2.2.2 := (unr_R [10, 22, 34, 53, 94, 133, 143] nM_eRead k 400 34 _ _ _).trans rfl
theorem eM_eRead_53 (k : Nat) (v1 : Int32) (v2 : Int32) (u3 : Value) (σ : Sto) : R nM_eRead k 53 [.ref 30, .int v1, .int v2, u3] [] σ =
  if (σ 30 20) = 45 then
    (C nM_opensOne k [.ref 30, .int 19] σ).bind fun r1 =>
      if r1.1 = 0 then
        some (0, 0, r1.2.2)
      else
        R nM_eRead k 10 [.ref 30, .int v1, .int 0, u3] [] r1.2.2
  else
    if (σ 30 20) = 40 then
      (C nM_opensOne k [.ref 30, .int 0] σ).bind fun r1 =>
        if r1.1 = 0 then
          some (0, 0, r1.2.2)
        else
          R nM_eRead k 10 [.ref 30, .int v1, .int 1, u3] [] r1.2.2
    else
      some (0, 0, σ) := (unr_R [10, 22, 34, 53, 94, 133, 143] nM_eRead k 400 53 _ _ _).trans rfl
theorem eM_eRead_94 (k : Nat) (v1 : Int32) (v2 : Int32) (u3 : Value) (s0 : Int32) (σ : Sto) : R nM_eRead k 94 [.ref 30, .int v1, .int v2, u3] [.int s0] σ =
  if nok 1 s0 = true then
    some (s0, 0, σ)
  else
    none := (unr_R [10, 22, 34, 53, 94, 133, 143] nM_eRead k 400 94 _ _ _).trans rfl
theorem eM_eRead_133 (k : Nat) (v1 : Int32) (v2 : Int32) (v3 : Int32) (σ : Sto) : R nM_eRead k 133 [.ref 30, .int v1, .int v2, .int v3] [] σ =
  some (0, 0, σ) := (unr_R [10, 22, 34, 53, 94, 133, 143] nM_eRead k 400 133 _ _ _).trans rfl
theorem eM_eRead_143 (k : Nat) (v1 : Int32) (v2 : Int32) (v3 : Int32) (s0 : Int32) (σ : Sto) : R nM_eRead k 143 [.ref 30, .int v1, .int v2, .int v3] [.int s0] σ =
  R nM_eRead k 10 [.ref 30, .int v1, .int s0, .int v3] [] σ := (unr_R [10, 22, 34, 53, 94, 133, 143] nM_eRead k 400 143 _ _ _).trans rfl
-- X5_text
theorem eM_text (k : Nat) (σ : Sto) : C nM_text k [.ref 30] σ =
  if (σ 30 9) = 6 then
    some ((-4), 0, σ)
  else
    R nM_text k 16 [.ref 30, .int 1, .int 0] [] (su (su σ 30 18 0) 30 26 0) := (unr_R [16, 33, 57] nM_text k 400 0 _ _ _).trans rfl
theorem eM_text_16 (k : Nat) (v1 : Int32) (v2 : Int32) (σ : Sto) : R nM_text k 16 [.ref 30, .int v1, .int v2] [] σ =
  if v2 < 3 then
    if v1 = 0 then
      R nM_text k 57 [.ref 30, .int v1, .int v2] [] σ
    else
      (C nM_next k [.ref 30] σ).bind fun r1 =>
        if (r1.2.2 30 20) = 3 then
          if (r1.2.2 30 21) = v2 then
            if inb ((4 * (r1.2.2 30 9)) + v2) 24 = true then
              (C nM_eRead k [.ref 30] (su r1.2.2 37 ((4 * (r1.2.2 30 9)) + v2).toNatClampNeg (r1.2.2 30 26))).bind fun r2 =>
                if r2.1 = 0 then
                  R nM_text k 16 [.ref 30, .int 0, .int (v2 + 1)] [] r2.2.2
                else
                  R nM_text k 16 [.ref 30, .int 1, .int (v2 + 1)] [] r2.2.2
            else
              none
          else
            R nM_text k 33 [.ref 30, .int v1, .int v2] [] r1.2.2
        else
          R nM_text k 33 [.ref 30, .int v1, .int v2] [] r1.2.2
  else
    R nM_text k 57 [.ref 30, .int v1, .int v2] [] σ := (unr_R [16, 33, 57] nM_text k 400 16 _ _ _).trans rfl
theorem eM_text_33 (k : Nat) (v1 : Int32) (v2 : Int32) (σ : Sto) : R nM_text k 33 [.ref 30, .int v1, .int v2] [] σ =
  if inb ((4 * (σ 30 9)) + v2) 24 = true then
    R nM_text k 16 [.ref 30, .int 0, .int (v2 + 1)] [] (su σ 37 ((4 * (σ 30 9)) + v2).toNatClampNeg (σ 30 26))
  else
    none := (unr_R [16, 33, 57] nM_text k 400 33 _ _ _).trans rfl
theorem eM_text_57 (k : Nat) (v1 : Int32) (v2 : Int32) (σ : Sto) : R nM_text k 57 [.ref 30, .int v1, .int v2] [] σ =
  if v1 = 0 then
    if inb ((4 * (σ 30 9)) + 3) 24 = true then
      if v1 = 0 then
        some (((-100) - ((su (su σ 37 ((4 * (σ 30 9)) + 3).toNatClampNeg (σ 30 26)) 30 6 0) 30 19)), 0, (su (su σ 37 ((4 * (σ 30 9)) + 3).toNatClampNeg (σ 30 26)) 30 6 0))
      else
        some ((((su (su (su σ 37 ((4 * (σ 30 9)) + 3).toNatClampNeg (σ 30 26)) 30 6 0) 30 9 (((su (su σ 37 ((4 * (σ 30 9)) + 3).toNatClampNeg (σ 30 26)) 30 6 0) 30 9) + 1)) 30 9) - 1), 0, (su (su (su σ 37 ((4 * (σ 30 9)) + 3).toNatClampNeg (σ 30 26)) 30 6 0) 30 9 (((su (su σ 37 ((4 * (σ 30 9)) + 3).toNatClampNeg (σ 30 26)) 30 6 0) 30 9) + 1)))
    else
      none
  else
    (C nM_next k [.ref 30] σ).bind fun r1 =>
      if (r1.2.2 30 20) = 0 then
        if inb ((4 * (r1.2.2 30 9)) + 3) 24 = true then
          some ((((su (su (su r1.2.2 37 ((4 * (r1.2.2 30 9)) + 3).toNatClampNeg (r1.2.2 30 26)) 30 6 0) 30 9 (((su (su r1.2.2 37 ((4 * (r1.2.2 30 9)) + 3).toNatClampNeg (r1.2.2 30 26)) 30 6 0) 30 9) + 1)) 30 9) - 1), 0, (su (su (su r1.2.2 37 ((4 * (r1.2.2 30 9)) + 3).toNatClampNeg (r1.2.2 30 26)) 30 6 0) 30 9 (((su (su r1.2.2 37 ((4 * (r1.2.2 30 9)) + 3).toNatClampNeg (r1.2.2 30 26)) 30 6 0) 30 9) + 1)))
        else
          none
      else
        if inb ((4 * (r1.2.2 30 9)) + 3) 24 = true then
          some (((-100) - ((su (su r1.2.2 37 ((4 * (r1.2.2 30 9)) + 3).toNatClampNeg (r1.2.2 30 26)) 30 6 0) 30 19)), 0, (su (su r1.2.2 37 ((4 * (r1.2.2 30 9)) + 3).toNatClampNeg (r1.2.2 30 26)) 30 6 0))
        else
          none := (unr_R [16, 33, 57] nM_text k 400 57 _ _ _).trans rfl
-- X5_two
set_option maxRecDepth 1000000 in
theorem eM_two (k : Nat) (p1 : Int32) (p2 : Int32) (p3 : Int32) (σ : Sto) : C nM_two k [.int p1, .int p2, .int p3] σ =
  if p1 = 11 then
    if p2 = 0 then
      if p3 = 0 then
        some (0, 0, σ)
      else
        some (1, 0, σ)
    else
      some (1, 0, σ)
  else
    if p1 = 12 then
      if p2 = 0 then
        some (0, 0, σ)
      else
        if p3 = 0 then
          some (0, 0, σ)
        else
          some (1, 0, σ)
    else
      if p1 = 13 then
        some ((p2 * p3), 0, σ)
      else
        if p1 = 14 then
          if p2 < p3 then
            some (1, 0, σ)
          else
            some (0, 0, σ)
        else
          if p1 = 15 then
            if p2 = p3 then
              some (1, 0, σ)
            else
              some (0, 0, σ)
          else
            if p1 = 16 then
              some ((p2 + p3), 0, σ)
            else
              if p1 = 17 then
                some ((p2 - p3), 0, σ)
              else
                some ((p2 * p3), 0, σ) := (unr_R [] nM_two k 400 0 _ _ _).trans rfl
-- X5_says
theorem eM_says (k : Nat) (p1 : Int32) (σ : Sto) : C nM_says k [.ref 30, .int p1] σ =
  if inb ((4 * (σ 30 10)) + p1) 24 = true then
    R nM_says k 12 [.ref 30, .int p1, .int 0, .int (σ 37 ((4 * (σ 30 10)) + p1).toNatClampNeg), .null] [] σ
  else
    none := (unr_R [12, 25, 41, 58, 96] nM_says k 400 0 _ _ _).trans rfl
theorem eM_says_12 (k : Nat) (v1 : Int32) (v2 : Int32) (v3 : Int32) (u4 : Value) (σ : Sto) : R nM_says k 12 [.ref 30, .int v1, .int v2, .int v3, u4] [] σ =
  if inb (((4 * (σ 30 10)) + v1) + 1) 24 = true then
    if v3 < (σ 37 (((4 * (σ 30 10)) + v1) + 1).toNatClampNeg) then
      R nM_says k 25 [.ref 30, .int v1, .int v2, .int v3, u4] [] σ
    else
      some ((σ 46 (0 : Int32).toNatClampNeg), 0, σ)
  else
    none := (unr_R [12, 25, 41, 58, 96] nM_says k 400 12 _ _ _).trans rfl
theorem eM_says_25 (k : Nat) (v1 : Int32) (v2 : Int32) (v3 : Int32) (u4 : Value) (σ : Sto) : R nM_says k 25 [.ref 30, .int v1, .int v2, .int v3, u4] [] σ =
  if inb ((200 * (σ 30 10)) + v3) 1200 = true then
    if (σ 36 ((200 * (σ 30 10)) + v3).toNatClampNeg) < 100000 then
      if (σ 36 ((200 * (σ 30 10)) + v3).toNatClampNeg) < 11 then
        R nM_says k 41 [.ref 30, .int v1, .int v2, .int v3, .int (σ 36 ((200 * (σ 30 10)) + v3).toNatClampNeg)] [] σ
      else
        R nM_says k 58 [.ref 30, .int v1, .int v2, .int v3, .int (σ 36 ((200 * (σ 30 10)) + v3).toNatClampNeg)] [] σ
    else
      R nM_says k 41 [.ref 30, .int v1, .int v2, .int v3, .int (σ 36 ((200 * (σ 30 10)) + v3).toNatClampNeg)] [] σ
  else
    none := (unr_R [12, 25, 41, 58, 96] nM_says k 400 25 _ _ _).trans rfl
theorem eM_says_41 (k : Nat) (v1 : Int32) (v2 : Int32) (v3 : Int32) (v4 : Int32) (σ : Sto) : R nM_says k 41 [.ref 30, .int v1, .int v2, .int v3, .int v4] [] σ =
  if v4 < 11 then
    if inb v4 6 = true then
      if inb v2 200 = true then
        R nM_says k 12 [.ref 30, .int v1, .int (v2 + 1), .int (v3 + 1), .int v4] [] (su σ 46 v2.toNatClampNeg (σ 47 v4.toNatClampNeg))
      else
        none
    else
      none
  else
    if inb v2 200 = true then
      R nM_says k 12 [.ref 30, .int v1, .int (v2 + 1), .int (v3 + 1), .int v4] [] (su σ 46 v2.toNatClampNeg (v4 - 100000))
    else
      none := (unr_R [12, 25, 41, 58, 96] nM_says k 400 41 _ _ _).trans rfl
theorem eM_says_58 (k : Nat) (v1 : Int32) (v2 : Int32) (v3 : Int32) (v4 : Int32) (σ : Sto) : R nM_says k 58 [.ref 30, .int v1, .int v2, .int v3, .int v4] [] σ =
  if v4 = 13 then
    if inb (v2 - 1) 200 = true then
      if (σ 46 (v2 - 1).toNatClampNeg) = 0 then
        if inb (v2 - 1) 200 = true then
          R nM_says k 12 [.ref 30, .int v1, .int v2, .int (v3 + 1), .int v4] [] (su σ 46 (v2 - 1).toNatClampNeg 1)
        else
          none
      else
        if inb (v2 - 1) 200 = true then
          R nM_says k 12 [.ref 30, .int v1, .int v2, .int (v3 + 1), .int v4] [] (su σ 46 (v2 - 1).toNatClampNeg 0)
        else
          none
    else
      none
  else
    if v4 = 19 then
      if inb (v2 - 1) 200 = true then
        if inb (v2 - 1) 200 = true then
          R nM_says k 12 [.ref 30, .int v1, .int v2, .int (v3 + 1), .int v4] [] (su σ 46 (v2 - 1).toNatClampNeg (-(σ 46 (v2 - 1).toNatClampNeg)))
        else
          none
      else
        none
    else
      R nM_says k 96 [.ref 30, .int v1, .int (v2 + (-1)), .int v3, .int v4] [] σ := (unr_R [12, 25, 41, 58, 96] nM_says k 400 58 _ _ _).trans rfl
theorem eM_says_96 (k : Nat) (v1 : Int32) (v2 : Int32) (v3 : Int32) (v4 : Int32) (σ : Sto) : R nM_says k 96 [.ref 30, .int v1, .int v2, .int v3, .int v4] [] σ =
  if inb (v2 - 1) 200 = true then
    if inb v2 200 = true then
      (C nM_two k [.int v4, .int (σ 46 (v2 - 1).toNatClampNeg), .int (σ 46 v2.toNatClampNeg)] σ).bind fun r1 =>
        if inb (v2 - 1) 200 = true then
          R nM_says k 12 [.ref 30, .int v1, .int v2, .int (v3 + 1), .int v4] [] (su r1.2.2 46 (v2 - 1).toNatClampNeg r1.1)
        else
          none
    else
      none
  else
    none := (unr_R [12, 25, 41, 58, 96] nM_says k 400 96 _ _ _).trans rfl
-- X5_force
theorem eM_force (k : Nat) (p1 : Int32) (σ : Sto) : C nM_force k [.ref 30, .int p1] σ =
  (C nM_in k [.int p1, .int 0, .int ((σ 30 9) - 1)] σ).bind fun r1 =>
    if r1.1 = 0 then
      some ((-2), 0, r1.2.2)
    else
      some ((r1.2.2 30 10), 0, (su r1.2.2 30 10 p1)) := (unr_R [] nM_force k 400 0 _ _ _).trans rfl
-- X5_asksOf
set_option maxRecDepth 1000000 in
theorem eM_asksOf (k : Nat) (p1 : Int32) (p2 : Int32) (σ : Sto) : C nM_asksOf k [.ref 30, .int p1, .int p2] σ =
  (C nM_isAt k [.ref 30, .int p2] σ).bind fun r1 =>
    if r1.1 = 0 then
      if inb ((3 * p2) + 2) 18 = true then
        (C nM_seenSet k [.ref 30] (su (su (su r1.2.2 47 (0 : Int32).toNatClampNeg 0) 47 (1 : Int32).toNatClampNeg ((su r1.2.2 47 (0 : Int32).toNatClampNeg 0) 33 ((3 * p2) + 2).toNatClampNeg)) 47 (2 : Int32).toNatClampNeg ((su (su r1.2.2 47 (0 : Int32).toNatClampNeg 0) 47 (1 : Int32).toNatClampNeg ((su r1.2.2 47 (0 : Int32).toNatClampNeg 0) 33 ((3 * p2) + 2).toNatClampNeg)) 34 (3 : Int32).toNatClampNeg))).bind fun r2 =>
          (C nM_onesOf k [.int r2.1] r2.2.2).bind fun r3 =>
            if inb p2 6 = true then
              (C nM_says k [.ref 30, .int p1] (su (su (su r3.2.2 47 (3 : Int32).toNatClampNeg r3.1) 47 (4 : Int32).toNatClampNeg ((su r3.2.2 47 (3 : Int32).toNatClampNeg r3.1) 34 (2 : Int32).toNatClampNeg)) 47 (5 : Int32).toNatClampNeg ((su (su r3.2.2 47 (3 : Int32).toNatClampNeg r3.1) 47 (4 : Int32).toNatClampNeg ((su r3.2.2 47 (3 : Int32).toNatClampNeg r3.1) 34 (2 : Int32).toNatClampNeg)) 32 p2.toNatClampNeg))).bind fun r4 =>
                if p1 = 0 then
                  (C nM_within k [.int r4.1, .int 0, .int 99] r4.2.2).bind fun r5 =>
                    some (r5.1, 0, r5.2.2)
                else
                  (C nM_within k [.int r4.1, .int (-99), .int 99] r4.2.2).bind fun r5 =>
                    some (r5.1, 0, r5.2.2)
            else
              none
      else
        none
    else
      if inb (3 * p2) 18 = true then
        if inb ((3 * p2) + 2) 18 = true then
          (C nM_seenSet k [.ref 30] (su (su (su r1.2.2 47 (0 : Int32).toNatClampNeg (r1.2.2 33 (3 * p2).toNatClampNeg)) 47 (1 : Int32).toNatClampNeg ((su r1.2.2 47 (0 : Int32).toNatClampNeg (r1.2.2 33 (3 * p2).toNatClampNeg)) 33 ((3 * p2) + 2).toNatClampNeg)) 47 (2 : Int32).toNatClampNeg ((su (su r1.2.2 47 (0 : Int32).toNatClampNeg (r1.2.2 33 (3 * p2).toNatClampNeg)) 47 (1 : Int32).toNatClampNeg ((su r1.2.2 47 (0 : Int32).toNatClampNeg (r1.2.2 33 (3 * p2).toNatClampNeg)) 33 ((3 * p2) + 2).toNatClampNeg)) 34 (3 : Int32).toNatClampNeg))).bind fun r2 =>
            (C nM_onesOf k [.int r2.1] r2.2.2).bind fun r3 =>
              if inb p2 6 = true then
                (C nM_says k [.ref 30, .int p1] (su (su (su r3.2.2 47 (3 : Int32).toNatClampNeg r3.1) 47 (4 : Int32).toNatClampNeg ((su r3.2.2 47 (3 : Int32).toNatClampNeg r3.1) 34 (2 : Int32).toNatClampNeg)) 47 (5 : Int32).toNatClampNeg ((su (su r3.2.2 47 (3 : Int32).toNatClampNeg r3.1) 47 (4 : Int32).toNatClampNeg ((su r3.2.2 47 (3 : Int32).toNatClampNeg r3.1) 34 (2 : Int32).toNatClampNeg)) 32 p2.toNatClampNeg))).bind fun r4 =>
                  if p1 = 0 then
                    (C nM_within k [.int r4.1, .int 0, .int 99] r4.2.2).bind fun r5 =>
                      some (r5.1, 0, r5.2.2)
                  else
                    (C nM_within k [.int r4.1, .int (-99), .int 99] r4.2.2).bind fun r5 =>
                      some (r5.1, 0, r5.2.2)
              else
                none
        else
          none
      else
        none := (unr_R [] nM_asksOf k 400 0 _ _ _).trans rfl
-- X5_asks
theorem eM_asks (k : Nat) (p1 : Int32) (p2 : Int32) (σ : Sto) : C nM_asks k [.ref 30, .int p1, .int p2] σ =
  (C nM_in k [.int p1, .int 0, .int 2] σ).bind fun r1 =>
    if r1.1 = 0 then
      some ((-1000), 0, r1.2.2)
    else
      (C nM_isOne k [.ref 30, .int p2] r1.2.2).bind fun r2 =>
        if r2.1 = 0 then
          some ((-1000), 0, r2.2.2)
        else
          (C nM_asksOf k [.ref 30, .int p1, .int p2] r2.2.2).bind fun r3 =>
            some (r3.1, 0, r3.2.2) := (unr_R [] nM_asks k 400 0 _ _ _).trans rfl
-- X5_traveller
theorem eM_traveller (k : Nat) (p1 : Int32) (p2 : Int32) (σ : Sto) : C nM_traveller k [.ref 30, .int p1, .int p2] σ =
  (C nM_in k [.int p1, .int 0, .int 59] σ).bind fun r1 =>
    if r1.1 = 0 then
      some ((-2), 0, r1.2.2)
    else
      (C nM_in k [.int p2, .int 0, .int 63] r1.2.2).bind fun r2 =>
        if r2.1 = 0 then
          some ((-2), 0, r2.2.2)
        else
          if (r2.2.2 30 0) = 6 then
            some ((-4), 0, r2.2.2)
          else
            if inb (r2.2.2 30 0) 6 = true then
              R nM_traveller k 26 [.ref 30, .int p1, .int p2] [] (su r2.2.2 31 (r2.2.2 30 0).toNatClampNeg (p1 / 10))
            else
              none := (unr_R [26, 34, 42, 52, 62] nM_traveller k 400 0 _ _ _).trans rfl
theorem eM_traveller_26 (k : Nat) (v1 : Int32) (v2 : Int32) (σ : Sto) : R nM_traveller k 26 [.ref 30, .int v1, .int v2] [] σ =
  if inb (σ 30 0) 6 = true then
    R nM_traveller k 34 [.ref 30, .int v1, .int v2] [] (su σ 32 (σ 30 0).toNatClampNeg (v1 - v1 / 10 * 10))
  else
    none := (unr_R [26, 34, 42, 52, 62] nM_traveller k 400 26 _ _ _).trans rfl
theorem eM_traveller_34 (k : Nat) (v1 : Int32) (v2 : Int32) (σ : Sto) : R nM_traveller k 34 [.ref 30, .int v1, .int v2] [] σ =
  if inb (3 * (σ 30 0)) 18 = true then
    R nM_traveller k 42 [.ref 30, .int v1, .int v2] [] (su σ 33 (3 * (σ 30 0)).toNatClampNeg v2)
  else
    none := (unr_R [26, 34, 42, 52, 62] nM_traveller k 400 34 _ _ _).trans rfl
theorem eM_traveller_42 (k : Nat) (v1 : Int32) (v2 : Int32) (σ : Sto) : R nM_traveller k 42 [.ref 30, .int v1, .int v2] [] σ =
  if inb ((3 * (σ 30 0)) + 1) 18 = true then
    R nM_traveller k 52 [.ref 30, .int v1, .int v2] [] (su σ 33 ((3 * (σ 30 0)) + 1).toNatClampNeg 0)
  else
    none := (unr_R [26, 34, 42, 52, 62] nM_traveller k 400 42 _ _ _).trans rfl
theorem eM_traveller_52 (k : Nat) (v1 : Int32) (v2 : Int32) (σ : Sto) : R nM_traveller k 52 [.ref 30, .int v1, .int v2] [] σ =
  if inb ((3 * (σ 30 0)) + 2) 18 = true then
    R nM_traveller k 62 [.ref 30, .int v1, .int v2] [] (su σ 33 ((3 * (σ 30 0)) + 2).toNatClampNeg 0)
  else
    none := (unr_R [26, 34, 42, 52, 62] nM_traveller k 400 52 _ _ _).trans rfl
theorem eM_traveller_62 (k : Nat) (v1 : Int32) (v2 : Int32) (σ : Sto) : R nM_traveller k 62 [.ref 30, .int v1, .int v2] [] σ =
  some ((((su σ 30 0 ((σ 30 0) + 1)) 30 0) - 1), 0, (su σ 30 0 ((σ 30 0) + 1))) := (unr_R [26, 34, 42, 52, 62] nM_traveller k 400 62 _ _ _).trans rfl
-- X5_put
theorem eM_put (k : Nat) (p1 : Int32) (p2 : Int32) (p3 : Int32) (σ : Sto) : C nM_put k [.ref 30, .int p1, .int p2, .int p3] σ =
  (C nM_isOne k [.ref 30, .int p1] σ).bind fun r1 =>
    if r1.1 = 0 then
      some ((-5), 0, r1.2.2)
    else
      if p2 = 0 then
        R nM_put k 16 [.ref 30, .int p1, .int p2, .int p3, .null, .null, .null] [.int 63] r1.2.2
      else
        if p2 = 1 then
          R nM_put k 16 [.ref 30, .int p1, .int p2, .int p3, .null, .null, .null] [.int 1] r1.2.2
        else
          R nM_put k 16 [.ref 30, .int p1, .int p2, .int p3, .null, .null, .null] [.int 99] r1.2.2 := (unr_R [16, 28] nM_put k 400 0 _ _ _).trans rfl
theorem eM_put_16 (k : Nat) (v1 : Int32) (v2 : Int32) (v3 : Int32) (s0 : Int32) (σ : Sto) : R nM_put k 16 [.ref 30, .int v1, .int v2, .int v3, .null, .null, .null] [.int s0] σ =
  (C nM_in k [.int v2, .int 0, .int 2] σ).bind fun r1 =>
    if r1.1 = 0 then
      some ((-7), 0, r1.2.2)
    else
      if v2 = 0 then
        R nM_put k 28 [.ref 30, .int v1, .int v2, .int v3, .int s0, .null, .null] [.int (-1), .int v3] r1.2.2
      else
        R nM_put k 28 [.ref 30, .int v1, .int v2, .int v3, .int s0, .null, .null] [.int 0, .int v3] r1.2.2 := (unr_R [16, 28] nM_put k 400 16 _ _ _).trans rfl
theorem eM_put_28 (k : Nat) (v1 : Int32) (v2 : Int32) (v3 : Int32) (v4 : Int32) (s0 : Int32) (s1 : Int32) (σ : Sto) : R nM_put k 28 [.ref 30, .int v1, .int v2, .int v3, .int v4, .null, .null] [.int s0, .int s1] σ =
  (C nM_in k [.int s1, .int s0, .int v4] σ).bind fun r1 =>
    if r1.1 = 0 then
      some ((-7), 0, r1.2.2)
    else
      if v2 = 0 then
        if (r1.2.2 34 (1 : Int32).toNatClampNeg) = v1 then
          some ((-7), 0, r1.2.2)
        else
          if inb ((3 * v1) + v2) 18 = true then
            if inb ((3 * v1) + v2) 18 = true then
              some ((r1.2.2 33 ((3 * v1) + v2).toNatClampNeg), 0, (su r1.2.2 33 ((3 * v1) + v2).toNatClampNeg v3))
            else
              none
          else
            none
      else
        if inb ((3 * v1) + v2) 18 = true then
          if inb ((3 * v1) + v2) 18 = true then
            some ((r1.2.2 33 ((3 * v1) + v2).toNatClampNeg), 0, (su r1.2.2 33 ((3 * v1) + v2).toNatClampNeg v3))
          else
            none
        else
          none := (unr_R [16, 28] nM_put k 400 28 _ _ _).trans rfl
-- X5_gapOf
theorem eM_gapOf (k : Nat) (p1 : Int32) (σ : Sto) : C nM_gapOf k [.ref 30, .int p1] σ =
  if inb p1 6 = true then
    if (σ 31 p1.toNatClampNeg) = 5 then
      some (0, 0, σ)
    else
      (C nM_asksOf k [.ref 30, .int 0, .int p1] σ).bind fun r1 =>
        if inb p1 6 = true then
          if (r1.2.2 31 p1.toNatClampNeg) = 1 then
            some ((r1.1 / 2), 0, r1.2.2)
          else
            if inb p1 6 = true then
              if (r1.2.2 31 p1.toNatClampNeg) = 3 then
                some ((r1.1 / 2), 0, r1.2.2)
              else
                if inb p1 6 = true then
                  if (r1.2.2 31 p1.toNatClampNeg) = 0 then
                    some (r1.1, 0, r1.2.2)
                  else
                    if inb p1 6 = true then
                      some ((r1.1 + (r1.2.2 32 p1.toNatClampNeg)), 0, r1.2.2)
                    else
                      none
                else
                  none
            else
              none
        else
          none
  else
    none := (unr_R [] nM_gapOf k 400 0 _ _ _).trans rfl
-- X5_likedOf
set_option maxRecDepth 1000000 in
theorem eM_likedOf (k : Nat) (p1 : Int32) (σ : Sto) : C nM_likedOf k [.ref 30, .int p1] σ =
  if inb p1 6 = true then
    if (σ 31 p1.toNatClampNeg) = 5 then
      if inb p1 6 = true then
        some ((10 * (σ 32 p1.toNatClampNeg)), 0, σ)
      else
        none
    else
      (C nM_asksOf k [.ref 30, .int 1, .int p1] σ).bind fun r1 =>
        if inb p1 6 = true then
          if (r1.2.2 31 p1.toNatClampNeg) = 1 then
            if inb p1 6 = true then
              some ((r1.1 - (r1.2.2 32 p1.toNatClampNeg)), 0, r1.2.2)
            else
              none
          else
            if (r1.2.2 31 p1.toNatClampNeg) = 2 then
              some (r1.1, 0, r1.2.2)
            else
              if (r1.2.2 31 p1.toNatClampNeg) = 3 then
                if ((r1.2.2 34 (3 : Int32).toNatClampNeg) - (r1.2.2 34 (3 : Int32).toNatClampNeg) / 4 * 4) = 0 then
                  some (99, 0, r1.2.2)
                else
                  if inb p1 6 = true then
                    some ((r1.1 - (r1.2.2 32 p1.toNatClampNeg)), 0, r1.2.2)
                  else
                    none
              else
                if (r1.2.2 31 p1.toNatClampNeg) = 4 then
                  some ((-r1.1), 0, r1.2.2)
                else
                  some (r1.1, 0, r1.2.2)
        else
          none
  else
    none := (unr_R [] nM_likedOf k 400 0 _ _ _).trans rfl
-- X5_walksOf
set_option maxRecDepth 1000000 in
theorem eM_walksOf (k : Nat) (p1 : Int32) (σ : Sto) : C nM_walksOf k [.ref 30, .int p1] σ =
  if inb p1 6 = true then
    if (σ 31 p1.toNatClampNeg) = 4 then
      if ((σ 34 (3 : Int32).toNatClampNeg) - (σ 34 (3 : Int32).toNatClampNeg) / 2 * 2) = 0 then
        if inb p1 6 = true then
          some ((σ 32 p1.toNatClampNeg), 0, σ)
        else
          none
      else
        if inb p1 6 = true then
          some ((-(σ 32 p1.toNatClampNeg)), 0, σ)
        else
          none
    else
      (C nM_asksOf k [.ref 30, .int 2, .int p1] σ).bind fun r1 =>
        if inb p1 6 = true then
          if (r1.2.2 31 p1.toNatClampNeg) = 2 then
            (C nM_isAlone k [.ref 30, .int p1] r1.2.2).bind fun r2 =>
              if r2.1 = 0 then
                some (r1.1, 0, r2.2.2)
              else
                some ((r1.1 + 1), 0, r2.2.2)
          else
            if (r1.2.2 31 p1.toNatClampNeg) = 3 then
              (C nM_isAlone k [.ref 30, .int p1] r1.2.2).bind fun r2 =>
                if r2.1 = 0 then
                  some (((-1) - r1.1), 0, r2.2.2)
                else
                  some (0, 0, r2.2.2)
            else
              some (r1.1, 0, r1.2.2)
        else
          none
  else
    none := (unr_R [] nM_walksOf k 400 0 _ _ _).trans rfl
-- X5_farOf
theorem eM_farOf (k : Nat) (p1 : Int32) (σ : Sto) : C nM_farOf k [.ref 30, .int p1] σ =
  R nM_farOf k 4 [.ref 30, .int p1, .int (-1), .int 0, .null] [] σ := (unr_R [4, 39] nM_farOf k 400 0 _ _ _).trans rfl
theorem eM_farOf_4 (k : Nat) (v1 : Int32) (v2 : Int32) (v3 : Int32) (u4 : Value) (σ : Sto) : R nM_farOf k 4 [.ref 30, .int v1, .int v2, .int v3, u4] [] σ =
  if v3 < (σ 30 0) then
    (C nM_isAt k [.ref 30, .int v1] σ).bind fun r1 =>
      if r1.1 = 0 then
        some (v2, 0, r1.2.2)
      else
        if v3 = v1 then
          R nM_farOf k 4 [.ref 30, .int v1, .int v2, .int (v3 + 1), u4] [] r1.2.2
        else
          (C nM_isSeen k [.ref 30, .int v3] r1.2.2).bind fun r2 =>
            if r2.1 = 0 then
              R nM_farOf k 4 [.ref 30, .int v1, .int v2, .int (v3 + 1), u4] [] r2.2.2
            else
              if inb (3 * v3) 18 = true then
                if inb (3 * v1) 18 = true then
                  if ((r2.2.2 33 (3 * v3).toNatClampNeg) - (r2.2.2 33 (3 * v1).toNatClampNeg)) < 0 then
                    R nM_farOf k 39 [.ref 30, .int v1, .int v2, .int v3, .int ((r2.2.2 33 (3 * v3).toNatClampNeg) - (r2.2.2 33 (3 * v1).toNatClampNeg))] [.int (-((r2.2.2 33 (3 * v3).toNatClampNeg) - (r2.2.2 33 (3 * v1).toNatClampNeg)))] r2.2.2
                  else
                    R nM_farOf k 39 [.ref 30, .int v1, .int v2, .int v3, .int ((r2.2.2 33 (3 * v3).toNatClampNeg) - (r2.2.2 33 (3 * v1).toNatClampNeg))] [.int ((r2.2.2 33 (3 * v3).toNatClampNeg) - (r2.2.2 33 (3 * v1).toNatClampNeg))] r2.2.2
                else
                  none
              else
                none
  else
    some (v2, 0, σ) := (unr_R [4, 39] nM_farOf k 400 4 _ _ _).trans rfl
theorem eM_farOf_39 (k : Nat) (v1 : Int32) (v2 : Int32) (v3 : Int32) (v4 : Int32) (s0 : Int32) (σ : Sto) : R nM_farOf k 39 [.ref 30, .int v1, .int v2, .int v3, .int v4] [.int s0] σ =
  if v2 = (-1) then
    R nM_farOf k 4 [.ref 30, .int v1, .int s0, .int (v3 + 1), .int s0] [] σ
  else
    if s0 < v2 then
      R nM_farOf k 4 [.ref 30, .int v1, .int s0, .int (v3 + 1), .int s0] [] σ
    else
      R nM_farOf k 4 [.ref 30, .int v1, .int v2, .int (v3 + 1), .int s0] [] σ := (unr_R [4, 39] nM_farOf k 400 39 _ _ _).trans rfl
-- X5_isAlone
theorem eM_isAlone (k : Nat) (p1 : Int32) (σ : Sto) : C nM_isAlone k [.ref 30, .int p1] σ =
  (C nM_isSeen k [.ref 30, .int p1] σ).bind fun r1 =>
    if r1.1 = 0 then
      some (0, 0, r1.2.2)
    else
      (C nM_farOf k [.ref 30, .int p1] r1.2.2).bind fun r2 =>
        if r2.1 = (-1) then
          some (1, 0, r2.2.2)
        else
          (C nM_gapOf k [.ref 30, .int p1] r2.2.2).bind fun r3 =>
            if r2.1 < r3.1 then
              some (0, 0, r3.2.2)
            else
              some (1, 0, r3.2.2) := (unr_R [] nM_isAlone k 400 0 _ _ _).trans rfl
-- X5_aloneSet
theorem eM_aloneSet (k : Nat) (σ : Sto) : C nM_aloneSet k [.ref 30] σ =
  R nM_aloneSet k 4 [.ref 30, .int 0, .int 0] [] σ := (unr_R [4] nM_aloneSet k 400 0 _ _ _).trans rfl
theorem eM_aloneSet_4 (k : Nat) (v1 : Int32) (v2 : Int32) (σ : Sto) : R nM_aloneSet k 4 [.ref 30, .int v1, .int v2] [] σ =
  if v2 < (σ 30 0) then
    (C nM_isAlone k [.ref 30, .int v2] σ).bind fun r1 =>
      if r1.1 = 0 then
        R nM_aloneSet k 4 [.ref 30, .int (v1 ||| 0), .int (v2 + 1)] [] r1.2.2
      else
        R nM_aloneSet k 4 [.ref 30, .int (v1 ||| (1 <<< (v2 &&& 31))), .int (v2 + 1)] [] r1.2.2
  else
    some (v1, 0, σ) := (unr_R [4] nM_aloneSet k 400 4 _ _ _).trans rfl
-- X5_choice
theorem eM_choice (k : Nat) (σ : Sto) : C nM_choice k [.ref 30] σ =
  R nM_choice k 6 [.ref 30, .int (-1), .int 0, .int 0, .null, .null] [] σ := (unr_R [6] nM_choice k 400 0 _ _ _).trans rfl
theorem eM_choice_6 (k : Nat) (v1 : Int32) (v2 : Int32) (v3 : Int32) (u4 : Value) (u5 : Value) (σ : Sto) : R nM_choice k 6 [.ref 30, .int v1, .int v2, .int v3, u4, u5] [] σ =
  if v3 < (σ 30 0) then
    (C nM_isAlone k [.ref 30, .int v3] σ).bind fun r1 =>
      if r1.1 = 0 then
        R nM_choice k 6 [.ref 30, .int v1, .int v2, .int (v3 + 1), u4, u5] [] r1.2.2
      else
        (C nM_likedOf k [.ref 30, .int v3] r1.2.2).bind fun r2 =>
          if v1 = (-1) then
            R nM_choice k 6 [.ref 30, .int v3, .int r2.1, .int (v3 + 1), .int r2.1, .int 1] [] r2.2.2
          else
            if v2 < r2.1 then
              R nM_choice k 6 [.ref 30, .int v3, .int r2.1, .int (v3 + 1), .int r2.1, .int 1] [] r2.2.2
            else
              R nM_choice k 6 [.ref 30, .int v1, .int v2, .int (v3 + 1), .int r2.1, .int 0] [] r2.2.2
  else
    some (v1, 0, σ) := (unr_R [6] nM_choice k 400 6 _ _ _).trans rfl
-- X5_told
set_option maxRecDepth 1000000 in
theorem eM_told (k : Nat) (p1 : Int32) (p2 : Int32) (σ : Sto) : C nM_told k [.ref 30, .int p1, .int p2] σ =
  (C nM_isOne k [.ref 30, .int p1] σ).bind fun r1 =>
    if r1.1 = 0 then
      some ((-5), 0, r1.2.2)
    else
      if p2 = 0 then
        if inb ((3 * p1) + p2) 18 = true then
          some ((r1.2.2 33 ((3 * p1) + p2).toNatClampNeg), 0, r1.2.2)
        else
          none
      else
        if p2 = 1 then
          if inb ((3 * p1) + p2) 18 = true then
            some ((r1.2.2 33 ((3 * p1) + p2).toNatClampNeg), 0, r1.2.2)
          else
            none
        else
          if p2 = 2 then
            if inb ((3 * p1) + p2) 18 = true then
              some ((r1.2.2 33 ((3 * p1) + p2).toNatClampNeg), 0, r1.2.2)
            else
              none
          else
            if p2 = 3 then
              if inb p1 6 = true then
                some ((r1.2.2 31 p1.toNatClampNeg), 0, r1.2.2)
              else
                none
            else
              if p2 = 4 then
                if inb p1 6 = true then
                  some ((r1.2.2 32 p1.toNatClampNeg), 0, r1.2.2)
                else
                  none
              else
                if p2 = 5 then
                  (C nM_gapOf k [.ref 30, .int p1] r1.2.2).bind fun r2 =>
                    some (r2.1, 0, r2.2.2)
                else
                  if p2 = 6 then
                    (C nM_likedOf k [.ref 30, .int p1] r1.2.2).bind fun r2 =>
                      some ((1000 + r2.1), 0, r2.2.2)
                  else
                    if p2 = 7 then
                      (C nM_walksOf k [.ref 30, .int p1] r1.2.2).bind fun r2 =>
                        some ((1000 + r2.1), 0, r2.2.2)
                    else
                      if p2 = 8 then
                        (C nM_isAlone k [.ref 30, .int p1] r1.2.2).bind fun r2 =>
                          if r2.1 = 0 then
                            R nM_told k 50 [.ref 30, .int p1, .int p2] [.int 0] r2.2.2
                          else
                            R nM_told k 50 [.ref 30, .int p1, .int p2] [.int 1] r2.2.2
                      else
                        if p2 = 9 then
                          (C nM_farOf k [.ref 30, .int p1] r1.2.2).bind fun r2 =>
                            some (r2.1, 0, r2.2.2)
                        else
                          some ((-7), 0, r1.2.2) := (unr_R [50] nM_told k 400 0 _ _ _).trans rfl
theorem eM_told_50 (k : Nat) (v1 : Int32) (v2 : Int32) (s0 : Int32) (σ : Sto) : R nM_told k 50 [.ref 30, .int v1, .int v2] [.int s0] σ =
  some (s0, 0, σ) := (unr_R [50] nM_told k 400 50 _ _ _).trans rfl
-- X5_fetches
theorem eM_fetches (k : Nat) (p1 : Int32) (σ : Sto) : C nM_fetches k [.ref 30, .int p1] σ =
  if inb (3 * p1) 18 = true then
    if ((2 * (σ 33 (3 * p1).toNatClampNeg)) - 63) < 0 then
      (C nM_within k [.int (((su (su σ 34 (0 : Int32).toNatClampNeg (1 + ((-((2 * (σ 33 (3 * p1).toNatClampNeg)) - 63)) / 20))) 34 (1 : Int32).toNatClampNeg p1) 34 (2 : Int32).toNatClampNeg) + 1), .int 0, .int 9999] (su (su σ 34 (0 : Int32).toNatClampNeg (1 + ((-((2 * (σ 33 (3 * p1).toNatClampNeg)) - 63)) / 20))) 34 (1 : Int32).toNatClampNeg p1)).bind fun r1 =>
        if inb (3 * p1) 18 = true then
          some (0, 0, (su (su r1.2.2 34 (2 : Int32).toNatClampNeg r1.1) 33 (3 * p1).toNatClampNeg (-1)))
        else
          none
    else
      (C nM_within k [.int (((su (su σ 34 (0 : Int32).toNatClampNeg (1 + (((2 * (σ 33 (3 * p1).toNatClampNeg)) - 63) / 20))) 34 (1 : Int32).toNatClampNeg p1) 34 (2 : Int32).toNatClampNeg) + 1), .int 0, .int 9999] (su (su σ 34 (0 : Int32).toNatClampNeg (1 + (((2 * (σ 33 (3 * p1).toNatClampNeg)) - 63) / 20))) 34 (1 : Int32).toNatClampNeg p1)).bind fun r1 =>
        if inb (3 * p1) 18 = true then
          some (0, 0, (su (su r1.2.2 34 (2 : Int32).toNatClampNeg r1.1) 33 (3 * p1).toNatClampNeg (-1)))
        else
          none
  else
    none := (unr_R [] nM_fetches k 400 0 _ _ _).trans rfl
-- X5_hourOf
theorem eM_hourOf (k : Nat) (σ : Sto) : C nM_hourOf k [.ref 30] σ =
  if 0 < (σ 34 (0 : Int32).toNatClampNeg) then
    if ((su σ 34 (0 : Int32).toNatClampNeg ((σ 34 (0 : Int32).toNatClampNeg) - 1)) 34 (0 : Int32).toNatClampNeg) = 0 then
      R nM_hourOf k 42 [.ref 30, .int (-1), .int 0] [] (su (su σ 34 (0 : Int32).toNatClampNeg ((σ 34 (0 : Int32).toNatClampNeg) - 1)) 34 (1 : Int32).toNatClampNeg (-1))
    else
      R nM_hourOf k 42 [.ref 30, .int (-1), .int 0] [] (su (su σ 34 (0 : Int32).toNatClampNeg ((σ 34 (0 : Int32).toNatClampNeg) - 1)) 34 (1 : Int32).toNatClampNeg ((su σ 34 (0 : Int32).toNatClampNeg ((σ 34 (0 : Int32).toNatClampNeg) - 1)) 34 (1 : Int32).toNatClampNeg))
  else
    (C nM_choice k [.ref 30] σ).bind fun r1 =>
      if r1.1 = (-1) then
        R nM_hourOf k 42 [.ref 30, .int r1.1, .int 0] [] r1.2.2
      else
        (C nM_fetches k [.ref 30, .int r1.1] r1.2.2).bind fun r2 =>
          R nM_hourOf k 42 [.ref 30, .int r1.1, .int 0] [] r2.2.2 := (unr_R [42] nM_hourOf k 400 0 _ _ _).trans rfl
theorem eM_hourOf_42 (k : Nat) (v1 : Int32) (v2 : Int32) (σ : Sto) : R nM_hourOf k 42 [.ref 30, .int v1, .int v2] [] σ =
  if v2 < (σ 30 0) then
    (C nM_isAt k [.ref 30, .int v2] σ).bind fun r1 =>
      if r1.1 = 0 then
        R nM_hourOf k 42 [.ref 30, .int v1, .int (v2 + 1)] [] r1.2.2
      else
        if inb (3 * v2) 18 = true then
          (C nM_walksOf k [.ref 30, .int v2] r1.2.2).bind fun r2 =>
            (C nM_within k [.int ((r1.2.2 33 (3 * v2).toNatClampNeg) + r2.1), .int 0, .int 63] r2.2.2).bind fun r3 =>
              if inb (3 * v2) 18 = true then
                if inb ((3 * v2) + 2) 18 = true then
                  (C nM_within k [.int (((su r3.2.2 33 (3 * v2).toNatClampNeg r3.1) 33 ((3 * v2) + 2).toNatClampNeg) + 1), .int 0, .int 99] (su r3.2.2 33 (3 * v2).toNatClampNeg r3.1)).bind fun r4 =>
                    if inb ((3 * v2) + 2) 18 = true then
                      R nM_hourOf k 42 [.ref 30, .int v1, .int (v2 + 1)] [] (su r4.2.2 33 ((3 * v2) + 2).toNatClampNeg r4.1)
                    else
                      none
                else
                  none
              else
                none
        else
          none
  else
    some (v1, 0, (su σ 34 (3 : Int32).toNatClampNeg ((σ 34 (3 : Int32).toNatClampNeg) + 1))) := (unr_R [42] nM_hourOf k 400 42 _ _ _).trans rfl
-- X5_hour
theorem eM_hour (k : Nat) (σ : Sto) : C nM_hour k [.ref 30] σ =
  if (σ 34 (3 : Int32).toNatClampNeg) = 9999 then
    some ((-3), 0, σ)
  else
    (C nM_hourOf k [.ref 30] σ).bind fun r1 =>
      some (r1.1, 0, r1.2.2) := (unr_R [] nM_hour k 400 0 _ _ _).trans rfl
-- X5_walk
theorem eM_walk (k : Nat) (p1 : Int32) (p2 : Int32) (σ : Sto) : C nM_walk k [.ref 30, .int p1, .int p2] σ =
  (C nM_isOne k [.ref 30, .int p1] σ).bind fun r1 =>
    if r1.1 = 0 then
      some ((-5), 0, r1.2.2)
    else
      (C nM_in k [.int p2, .int (-63), .int 63] r1.2.2).bind fun r2 =>
        if r2.1 = 0 then
          some ((-7), 0, r2.2.2)
        else
          (C nM_isAt k [.ref 30, .int p1] r2.2.2).bind fun r3 =>
            if r3.1 = 0 then
              some ((-3), 0, r3.2.2)
            else
              if inb (3 * p1) 18 = true then
                (C nM_within k [.int ((r3.2.2 33 (3 * p1).toNatClampNeg) + p2), .int 0, .int 63] r3.2.2).bind fun r4 =>
                  if inb (3 * p1) 18 = true then
                    if inb (3 * p1) 18 = true then
                      some (((su r4.2.2 33 (3 * p1).toNatClampNeg r4.1) 33 (3 * p1).toNatClampNeg), 0, (su r4.2.2 33 (3 * p1).toNatClampNeg r4.1))
                    else
                      none
                  else
                    none
              else
                none := (unr_R [] nM_walk k 400 0 _ _ _).trans rfl
-- X5_keeps
theorem eM_keeps (k : Nat) (σ : Sto) : C nM_keeps k [.ref 30] σ =
  R nM_keeps k 2 [.ref 30, .int 0] [] σ := (unr_R [2, 17] nM_keeps k 400 0 _ _ _).trans rfl
theorem eM_keeps_2 (k : Nat) (v1 : Int32) (σ : Sto) : R nM_keeps k 2 [.ref 30, .int v1] [] σ =
  if v1 < 18 then
    if inb v1 18 = true then
      if inb v1 22 = true then
        R nM_keeps k 2 [.ref 30, .int (v1 + 1)] [] (su σ 48 v1.toNatClampNeg (σ 33 v1.toNatClampNeg))
      else
        none
    else
      none
  else
    R nM_keeps k 17 [.ref 30, .int 0] [] σ := (unr_R [2, 17] nM_keeps k 400 2 _ _ _).trans rfl
theorem eM_keeps_17 (k : Nat) (v1 : Int32) (σ : Sto) : R nM_keeps k 17 [.ref 30, .int v1] [] σ =
  if v1 < 4 then
    if inb v1 4 = true then
      if inb (18 + v1) 22 = true then
        R nM_keeps k 17 [.ref 30, .int (v1 + 1)] [] (su σ 48 (18 + v1).toNatClampNeg (σ 34 v1.toNatClampNeg))
      else
        none
    else
      none
  else
    some (0, 0, σ) := (unr_R [2, 17] nM_keeps k 400 17 _ _ _).trans rfl
-- X5_lays
theorem eM_lays (k : Nat) (σ : Sto) : C nM_lays k [.ref 30] σ =
  R nM_lays k 2 [.ref 30, .int 0] [] σ := (unr_R [2, 17] nM_lays k 400 0 _ _ _).trans rfl
theorem eM_lays_2 (k : Nat) (v1 : Int32) (σ : Sto) : R nM_lays k 2 [.ref 30, .int v1] [] σ =
  if v1 < 18 then
    if inb v1 22 = true then
      if inb v1 18 = true then
        R nM_lays k 2 [.ref 30, .int (v1 + 1)] [] (su σ 33 v1.toNatClampNeg (σ 48 v1.toNatClampNeg))
      else
        none
    else
      none
  else
    R nM_lays k 17 [.ref 30, .int 0] [] σ := (unr_R [2, 17] nM_lays k 400 2 _ _ _).trans rfl
theorem eM_lays_17 (k : Nat) (v1 : Int32) (σ : Sto) : R nM_lays k 17 [.ref 30, .int v1] [] σ =
  if v1 < 4 then
    if inb (18 + v1) 22 = true then
      if inb v1 4 = true then
        R nM_lays k 17 [.ref 30, .int (v1 + 1)] [] (su σ 34 v1.toNatClampNeg (σ 48 (18 + v1).toNatClampNeg))
      else
        none
    else
      none
  else
    some (0, 0, σ) := (unr_R [2, 17] nM_lays k 400 17 _ _ _).trans rfl
-- X5_goes
theorem eM_goes (k : Nat) (p1 : Int32) (σ : Sto) : C nM_goes k [.ref 30, .int p1] σ =
  R nM_goes k 7 [.ref 30, .int p1, .int 0, .int 0, .null] [] (su σ 30 30 0) := (unr_R [7] nM_goes k 400 0 _ _ _).trans rfl
theorem eM_goes_7 (k : Nat) (v1 : Int32) (v2 : Int32) (v3 : Int32) (u4 : Value) (σ : Sto) : R nM_goes k 7 [.ref 30, .int v1, .int v2, .int v3, u4] [] σ =
  if v3 < v1 then
    (C nM_hourOf k [.ref 30] σ).bind fun r1 =>
      if r1.1 = (-1) then
        if r1.1 = (-1) then
          R nM_goes k 7 [.ref 30, .int v1, .int (v2 + 0), .int (v3 + 1), .int r1.1] [] (su r1.2.2 30 30 (r1.2.2 30 30))
        else
          R nM_goes k 7 [.ref 30, .int v1, .int (v2 + 0), .int (v3 + 1), .int r1.1] [] (su r1.2.2 30 30 (((10 * (r1.2.2 30 30)) + r1.1) + 1))
      else
        if r1.1 = (-1) then
          R nM_goes k 7 [.ref 30, .int v1, .int (v2 + 1), .int (v3 + 1), .int r1.1] [] (su r1.2.2 30 30 (r1.2.2 30 30))
        else
          R nM_goes k 7 [.ref 30, .int v1, .int (v2 + 1), .int (v3 + 1), .int r1.1] [] (su r1.2.2 30 30 (((10 * (r1.2.2 30 30)) + r1.1) + 1))
  else
    some (v2, 0, σ) := (unr_R [7] nM_goes k 400 7 _ _ _).trans rfl
-- X5_run
theorem eM_run (k : Nat) (p1 : Int32) (p2 : Int32) (σ : Sto) : C nM_run k [.ref 30, .int p1, .int p2] σ =
  (C nM_in k [.int p2, .int 0, .int 2] σ).bind fun r1 =>
    if r1.1 = 0 then
      (C nM_in k [.int p2, .int 10, .int (9 + (r1.2.2 30 0))] r1.2.2).bind fun r2 =>
        if r2.1 = 0 then
          (C nM_in k [.int p2, .int 20, .int (19 + (r2.2.2 30 0))] r2.2.2).bind fun r3 =>
            if r3.1 = 0 then
              (C nM_in k [.int p1, .int 0, .int 60] r3.2.2).bind fun r4 =>
                if r4.1 = 0 then
                  some ((-2), 0, r4.2.2)
                else
                  some ((-2), 0, r4.2.2)
            else
              R nM_run k 21 [.ref 30, .int p1, .int p2, .null, .null] [] r3.2.2
        else
          R nM_run k 21 [.ref 30, .int p1, .int p2, .null, .null] [] r2.2.2
    else
      R nM_run k 21 [.ref 30, .int p1, .int p2, .null, .null] [] r1.2.2 := (unr_R [21] nM_run k 400 0 _ _ _).trans rfl
theorem eM_run_21 (k : Nat) (v1 : Int32) (v2 : Int32) (σ : Sto) : R nM_run k 21 [.ref 30, .int v1, .int v2, .null, .null] [] σ =
  (C nM_in k [.int v1, .int 0, .int 60] σ).bind fun r1 =>
    if r1.1 = 0 then
      some ((-2), 0, r1.2.2)
    else
      (C nM_keeps k [.ref 30] r1.2.2).bind fun r2 =>
        (C nM_goes k [.ref 30, .int v1] r2.2.2).bind fun r3 =>
          if v2 = 0 then
            (C nM_lays k [.ref 30] r3.2.2).bind fun r4 =>
              some (r3.1, 0, r4.2.2)
          else
            if v2 = 1 then
              (C nM_lays k [.ref 30] r3.2.2).bind fun r4 =>
                some ((r3.2.2 30 30), 0, r4.2.2)
            else
              if v2 = 2 then
                (C nM_overSet k [.ref 30] r3.2.2).bind fun r4 =>
                  (C nM_lays k [.ref 30] r4.2.2).bind fun r5 =>
                    some (r4.1, 0, r5.2.2)
              else
                if v2 < 20 then
                  if inb (3 * (v2 - 10)) 18 = true then
                    (C nM_lays k [.ref 30] r3.2.2).bind fun r4 =>
                      some ((r3.2.2 33 (3 * (v2 - 10)).toNatClampNeg), 0, r4.2.2)
                  else
                    none
                else
                  if inb ((3 * (v2 - 20)) + 2) 18 = true then
                    (C nM_lays k [.ref 30] r3.2.2).bind fun r4 =>
                      some ((r3.2.2 33 ((3 * (v2 - 20)) + 2).toNatClampNeg), 0, r4.2.2)
                  else
                    none := (unr_R [21] nM_run k 400 21 _ _ _).trans rfl
-- X5_isNow
theorem eM_isNow (k : Nat) (p1 : Int32) (p2 : Int32) (σ : Sto) : C nM_isNow k [.ref 30, .int p1, .int p2] σ =
  if p2 = 0 then
    (C nM_isOver k [.ref 30, .int p1] σ).bind fun r1 =>
      if nok 1 r1.1 = true then
        some (r1.1, 0, r1.2.2)
      else
        none
  else
    if p2 = 1 then
      (C nM_isAlone k [.ref 30, .int p1] σ).bind fun r1 =>
        if nok 1 r1.1 = true then
          some (r1.1, 0, r1.2.2)
        else
          none
    else
      if (σ 34 (0 : Int32).toNatClampNeg) = 0 then
        (C nM_aloneSet k [.ref 30] σ).bind fun r1 =>
          if r1.1 = 0 then
            some (1, 0, r1.2.2)
          else
            some (0, 0, r1.2.2)
      else
        some (0, 0, σ) := (unr_R [] nM_isNow k 400 0 _ _ _).trans rfl
-- X5_firstTime
theorem eM_firstTime (k : Nat) (p1 : Int32) (p2 : Int32) (σ : Sto) : C nM_firstTime k [.ref 30, .int p1, .int p2] σ =
  R nM_firstTime k 4 [.ref 30, .int p1, .int p2, .int (-1), .int 0] [] σ := (unr_R [4] nM_firstTime k 400 0 _ _ _).trans rfl
theorem eM_firstTime_4 (k : Nat) (v1 : Int32) (v2 : Int32) (v3 : Int32) (v4 : Int32) (σ : Sto) : R nM_firstTime k 4 [.ref 30, .int v1, .int v2, .int v3, .int v4] [] σ =
  if 60 < v4 then
    some (v3, 0, σ)
  else
    if v3 = (-1) then
      (C nM_isNow k [.ref 30, .int v1, .int v2] σ).bind fun r1 =>
        if r1.1 = 0 then
          (C nM_hourOf k [.ref 30] r1.2.2).bind fun r2 =>
            R nM_firstTime k 4 [.ref 30, .int v1, .int v2, .int (-1), .int (v4 + 1)] [] r2.2.2
        else
          (C nM_hourOf k [.ref 30] r1.2.2).bind fun r2 =>
            R nM_firstTime k 4 [.ref 30, .int v1, .int v2, .int v4, .int (v4 + 1)] [] r2.2.2
    else
      some (v3, 0, σ) := (unr_R [4] nM_firstTime k 400 4 _ _ _).trans rfl
-- X5_when
theorem eM_when (k : Nat) (p1 : Int32) (p2 : Int32) (σ : Sto) : C nM_when k [.ref 30, .int p1, .int p2] σ =
  (C nM_in k [.int p2, .int 0, .int 2] σ).bind fun r1 =>
    if r1.1 = 0 then
      some ((-7), 0, r1.2.2)
    else
      if p2 < 2 then
        (C nM_isOne k [.ref 30, .int p1] r1.2.2).bind fun r2 =>
          if r2.1 = 0 then
            some ((-5), 0, r2.2.2)
          else
            (C nM_keeps k [.ref 30] r2.2.2).bind fun r3 =>
              (C nM_firstTime k [.ref 30, .int p1, .int p2] r3.2.2).bind fun r4 =>
                (C nM_lays k [.ref 30] r4.2.2).bind fun r5 =>
                  some (r4.1, 0, r5.2.2)
      else
        (C nM_keeps k [.ref 30] r1.2.2).bind fun r2 =>
          (C nM_firstTime k [.ref 30, .int p1, .int p2] r2.2.2).bind fun r3 =>
            (C nM_lays k [.ref 30] r3.2.2).bind fun r4 =>
              some (r3.1, 0, r4.2.2) := (unr_R [] nM_when k 400 0 _ _ _).trans rfl
-- X5_fetchedIn
theorem eM_fetchedIn (k : Nat) (p1 : Int32) (σ : Sto) : C nM_fetchedIn k [.ref 30, .int p1] σ =
  (C nM_keeps k [.ref 30] σ).bind fun r1 =>
    (C nM_goes k [.ref 30, .int p1] r1.2.2).bind fun r2 =>
      (C nM_lays k [.ref 30] r2.2.2).bind fun r3 =>
        some (r2.1, 0, r3.2.2) := (unr_R [] nM_fetchedIn k 400 0 _ _ _).trans rfl
-- X5_hide
theorem eM_hide (k : Nat) (p1 : Int32) (p2 : Int32) (σ : Sto) : C nM_hide k [.ref 30, .int p1, .int p2] σ =
  (C nM_in k [.int p1, .int 0, .int 60] σ).bind fun r1 =>
    if r1.1 = 0 then
      some ((-2), 0, r1.2.2)
    else
      (C nM_in k [.int p2, .int 0, .int 1] r1.2.2).bind fun r2 =>
        if r2.1 = 0 then
          some ((-2), 0, r2.2.2)
        else
          (C nM_fetchedIn k [.ref 30, .int p1] r2.2.2).bind fun r3 =>
            R nM_hide k 20 [.ref 30, .int p1, .int p2, .int (-1), .int r3.1, .int 0, .null] [] r3.2.2 := (unr_R [20] nM_hide k 400 0 _ _ _).trans rfl
theorem eM_hide_20 (k : Nat) (v1 : Int32) (v2 : Int32) (v3 : Int32) (v4 : Int32) (v5 : Int32) (u6 : Value) (σ : Sto) : R nM_hide k 20 [.ref 30, .int v1, .int v2, .int v3, .int v4, .int v5, u6] [] σ =
  if v5 < (σ 30 0) then
    (C nM_isSeen k [.ref 30, .int v5] σ).bind fun r1 =>
      if r1.1 = 0 then
        R nM_hide k 20 [.ref 30, .int v1, .int v2, .int v3, .int v4, .int (v5 + 1), u6] [] r1.2.2
      else
        if inb ((3 * v5) + 1) 18 = true then
          (C nM_fetchedIn k [.ref 30, .int v1] (su r1.2.2 33 ((3 * v5) + 1).toNatClampNeg 1)).bind fun r2 =>
            if inb ((3 * v5) + 1) 18 = true then
              if v4 < r2.1 then
                if v4 < r2.1 then
                  R nM_hide k 20 [.ref 30, .int v1, .int v2, .int v5, .int r2.1, .int (v5 + 1), .int r2.1] [] (su r2.2.2 33 ((3 * v5) + 1).toNatClampNeg 0)
                else
                  R nM_hide k 20 [.ref 30, .int v1, .int v2, .int v5, .int v4, .int (v5 + 1), .int r2.1] [] (su r2.2.2 33 ((3 * v5) + 1).toNatClampNeg 0)
              else
                if v4 < r2.1 then
                  R nM_hide k 20 [.ref 30, .int v1, .int v2, .int v3, .int r2.1, .int (v5 + 1), .int r2.1] [] (su r2.2.2 33 ((3 * v5) + 1).toNatClampNeg 0)
                else
                  R nM_hide k 20 [.ref 30, .int v1, .int v2, .int v3, .int v4, .int (v5 + 1), .int r2.1] [] (su r2.2.2 33 ((3 * v5) + 1).toNatClampNeg 0)
            else
              none
        else
          none
  else
    if v2 = 0 then
      some (v3, 0, σ)
    else
      some (v4, 0, σ) := (unr_R [20] nM_hide k 400 20 _ _ _).trans rfl
end
section
/-! EQUATIONS of the methods 157 .. 184 -/
-- X5_stand
theorem eM_stand (k : Nat) (p1 : Int32) (p2 : Int32) (σ : Sto) : C nM_stand k [.ref 30, .int p1, .int p2] σ =
  (C nM_isOne k [.ref 30, .int p1] σ).bind fun r1 =>
    if r1.1 = 0 then
      some ((-5), 0, r1.2.2)
    else
      (C nM_in k [.int p2, .int 0, .int 1] r1.2.2).bind fun r2 =>
        if r2.1 = 0 then
          some ((-7), 0, r2.2.2)
        else
          if (r2.2.2 34 (1 : Int32).toNatClampNeg) = p1 then
            some ((-3), 0, r2.2.2)
          else
            (C nM_keeps k [.ref 30] r2.2.2).bind fun r3 =>
              R nM_stand k 29 [.ref 30, .int p1, .int p2, .int (-1), .int (-1), .int 0, .null, .null] [] r3.2.2 := (unr_R [29] nM_stand k 400 0 _ _ _).trans rfl
theorem eM_stand_29 (k : Nat) (v1 : Int32) (v2 : Int32) (v3 : Int32) (v4 : Int32) (v5 : Int32) (u6 : Value) (u7 : Value) (σ : Sto) : R nM_stand k 29 [.ref 30, .int v1, .int v2, .int v3, .int v4, .int v5, u6, u7] [] σ =
  if v5 < 64 then
    if inb (3 * v1) 18 = true then
      if inb ((3 * v1) + 1) 18 = true then
        (C nM_firstTime k [.ref 30, .int v1, .int 0] (su (su σ 33 (3 * v1).toNatClampNeg v5) 33 ((3 * v1) + 1).toNatClampNeg 0)).bind fun r1 =>
          (C nM_lays k [.ref 30] r1.2.2).bind fun r2 =>
            if r1.1 = (-1) then
              R nM_stand k 29 [.ref 30, .int v1, .int v2, .int v3, .int v4, .int (v5 + 1), .int r1.1, .int 0] [] r2.2.2
            else
              if v3 = (-1) then
                R nM_stand k 29 [.ref 30, .int v1, .int v2, .int v5, .int r1.1, .int (v5 + 1), .int r1.1, .int 1] [] r2.2.2
              else
                if r1.1 < v4 then
                  R nM_stand k 29 [.ref 30, .int v1, .int v2, .int v5, .int r1.1, .int (v5 + 1), .int r1.1, .int 1] [] r2.2.2
                else
                  R nM_stand k 29 [.ref 30, .int v1, .int v2, .int v3, .int v4, .int (v5 + 1), .int r1.1, .int 0] [] r2.2.2
      else
        none
    else
      none
  else
    if v2 = 0 then
      some (v3, 0, σ)
    else
      some (v4, 0, σ) := (unr_R [29] nM_stand k 400 29 _ _ _).trans rfl
-- X5_apart
theorem eM_apart (k : Nat) (p1 : Int32) (p2 : Int32) (σ : Sto) : C nM_apart k [.ref 30, .int p1, .int p2] σ =
  (C nM_isOne k [.ref 30, .int p1] σ).bind fun r1 =>
    if r1.1 = 0 then
      some ((-5), 0, r1.2.2)
    else
      (C nM_in k [.int p2, .int 0, .int 1] r1.2.2).bind fun r2 =>
        if r2.1 = 0 then
          some ((-7), 0, r2.2.2)
        else
          (C nM_isSeen k [.ref 30, .int p1] r2.2.2).bind fun r3 =>
            if r3.1 = 0 then
              some ((-1), 0, r3.2.2)
            else
              if inb (3 * p1) 18 = true then
                R nM_apart k 32 [.ref 30, .int p1, .int p2, .int (r3.2.2 33 (3 * p1).toNatClampNeg), .int (-1), .int (-1), .int 0, .null, .null] [] r3.2.2
              else
                none := (unr_R [32, 52] nM_apart k 400 0 _ _ _).trans rfl
theorem eM_apart_32 (k : Nat) (v1 : Int32) (v2 : Int32) (v3 : Int32) (v4 : Int32) (v5 : Int32) (v6 : Int32) (u7 : Value) (u8 : Value) (σ : Sto) : R nM_apart k 32 [.ref 30, .int v1, .int v2, .int v3, .int v4, .int v5, .int v6, u7, u8] [] σ =
  if v6 < 64 then
    if inb (3 * v1) 18 = true then
      if v6 < v3 then
        R nM_apart k 52 [.ref 30, .int v1, .int v2, .int v3, .int v4, .int v5, .int v6, u7, u8] [.int (v3 - v6)] (su σ 33 (3 * v1).toNatClampNeg v6)
      else
        R nM_apart k 52 [.ref 30, .int v1, .int v2, .int v3, .int v4, .int v5, .int v6, u7, u8] [.int (v6 - v3)] (su σ 33 (3 * v1).toNatClampNeg v6)
    else
      none
  else
    if inb (3 * v1) 18 = true then
      if v2 = 0 then
        some (v5, 0, (su σ 33 (3 * v1).toNatClampNeg v3))
      else
        some (v4, 0, (su σ 33 (3 * v1).toNatClampNeg v3))
    else
      none := (unr_R [32, 52] nM_apart k 400 32 _ _ _).trans rfl
theorem eM_apart_52 (k : Nat) (v1 : Int32) (v2 : Int32) (v3 : Int32) (v4 : Int32) (v5 : Int32) (v6 : Int32) (u7 : Value) (u8 : Value) (s0 : Int32) (σ : Sto) : R nM_apart k 52 [.ref 30, .int v1, .int v2, .int v3, .int v4, .int v5, .int v6, u7, u8] [.int s0] σ =
  (C nM_isAlone k [.ref 30, .int v1] σ).bind fun r1 =>
    if r1.1 = 0 then
      R nM_apart k 32 [.ref 30, .int v1, .int v2, .int v3, .int v4, .int v5, .int (v6 + 1), .int s0, .int 0] [] r1.2.2
    else
      if v4 = (-1) then
        R nM_apart k 32 [.ref 30, .int v1, .int v2, .int v3, .int v6, .int s0, .int (v6 + 1), .int s0, .int 1] [] r1.2.2
      else
        if s0 < v5 then
          R nM_apart k 32 [.ref 30, .int v1, .int v2, .int v3, .int v6, .int s0, .int (v6 + 1), .int s0, .int 1] [] r1.2.2
        else
          R nM_apart k 32 [.ref 30, .int v1, .int v2, .int v3, .int v4, .int v5, .int (v6 + 1), .int s0, .int 0] [] r1.2.2 := (unr_R [32, 52] nM_apart k 400 52 _ _ _).trans rfl
-- X5_areAllAlone
theorem eM_areAllAlone (k : Nat) (p1 : Int32) (p2 : Int32) (σ : Sto) : C nM_areAllAlone k [.ref 30, .int p1, .int p2] σ =
  R nM_areAllAlone k 2 [.ref 30, .int p1, .int p2, .int 0, .null] [] σ := (unr_R [2, 47] nM_areAllAlone k 400 0 _ _ _).trans rfl
theorem eM_areAllAlone_2 (k : Nat) (v1 : Int32) (v2 : Int32) (v3 : Int32) (σ : Sto) : R nM_areAllAlone k 2 [.ref 30, .int v1, .int v2, .int v3, .null] [] σ =
  if v3 < (σ 30 0) then
    if ((v1 >>> (v3 &&& 31)) &&& 1) = 1 then
      if inb ((3 * v3) + 1) 18 = true then
        R nM_areAllAlone k 2 [.ref 30, .int v1, .int v2, .int (v3 + 1), .null] [] (su σ 33 ((3 * v3) + 1).toNatClampNeg 1)
      else
        none
    else
      if inb ((3 * v3) + 1) 18 = true then
        if inb ((3 * v3) + 1) 18 = true then
          R nM_areAllAlone k 2 [.ref 30, .int v1, .int v2, .int (v3 + 1), .null] [] (su σ 33 ((3 * v3) + 1).toNatClampNeg (σ 33 ((3 * v3) + 1).toNatClampNeg))
        else
          none
      else
        none
  else
    (C nM_aloneSet k [.ref 30] σ).bind fun r1 =>
      if r1.1 = (v2 &&& (v1 ^^^ (-1))) then
        R nM_areAllAlone k 47 [.ref 30, .int v1, .int v2, .int 1, .int 0] [] r1.2.2
      else
        R nM_areAllAlone k 47 [.ref 30, .int v1, .int v2, .int 0, .int 0] [] r1.2.2 := (unr_R [2, 47] nM_areAllAlone k 400 2 _ _ _).trans rfl
theorem eM_areAllAlone_47 (k : Nat) (v1 : Int32) (v2 : Int32) (v3 : Int32) (v4 : Int32) (σ : Sto) : R nM_areAllAlone k 47 [.ref 30, .int v1, .int v2, .int v3, .int v4] [] σ =
  if v4 < (σ 30 0) then
    if ((v1 >>> (v4 &&& 31)) &&& 1) = 1 then
      if inb ((3 * v4) + 1) 18 = true then
        R nM_areAllAlone k 47 [.ref 30, .int v1, .int v2, .int v3, .int (v4 + 1)] [] (su σ 33 ((3 * v4) + 1).toNatClampNeg 0)
      else
        none
    else
      if inb ((3 * v4) + 1) 18 = true then
        if inb ((3 * v4) + 1) 18 = true then
          R nM_areAllAlone k 47 [.ref 30, .int v1, .int v2, .int v3, .int (v4 + 1)] [] (su σ 33 ((3 * v4) + 1).toNatClampNeg (σ 33 ((3 * v4) + 1).toNatClampNeg))
        else
          none
      else
        none
  else
    if nok 1 v3 = true then
      some (v3, 0, σ)
    else
      none := (unr_R [2, 47] nM_areAllAlone k 400 47 _ _ _).trans rfl
-- X5_breakwater
theorem eM_breakwater (k : Nat) (p1 : Int32) (σ : Sto) : C nM_breakwater k [.ref 30, .int p1] σ =
  (C nM_in k [.int p1, .int 0, .int 1] σ).bind fun r1 =>
    if r1.1 = 0 then
      some ((-2), 0, r1.2.2)
    else
      (C nM_seenSet k [.ref 30] r1.2.2).bind fun r2 =>
        R nM_breakwater k 16 [.ref 30, .int p1, .int r2.1, .int (-1), .int (-1), .int 0, .null, .null] [] r2.2.2 := (unr_R [16, 35] nM_breakwater k 400 0 _ _ _).trans rfl
theorem eM_breakwater_16 (k : Nat) (v1 : Int32) (v2 : Int32) (v3 : Int32) (v4 : Int32) (v5 : Int32) (u6 : Value) (u7 : Value) (σ : Sto) : R nM_breakwater k 16 [.ref 30, .int v1, .int v2, .int v3, .int v4, .int v5, u6, u7] [] σ =
  if v5 < (1 <<< ((σ 30 0) &&& 31)) then
    if (v5 &&& (v2 ^^^ (-1))) = 0 then
      if v3 = (-1) then
        R nM_breakwater k 35 [.ref 30, .int v1, .int v2, .int v3, .int v4, .int v5, u6, u7] [] σ
      else
        (C nM_onesOf k [.int v5] σ).bind fun r1 =>
          if r1.1 < v4 then
            R nM_breakwater k 35 [.ref 30, .int v1, .int v2, .int v3, .int v4, .int v5, u6, u7] [] r1.2.2
          else
            R nM_breakwater k 16 [.ref 30, .int v1, .int v2, .int v3, .int v4, .int (v5 + 1), .int 0, u7] [] r1.2.2
    else
      R nM_breakwater k 16 [.ref 30, .int v1, .int v2, .int v3, .int v4, .int (v5 + 1), .int 0, u7] [] σ
  else
    if v1 = 0 then
      some (v3, 0, σ)
    else
      some (v4, 0, σ) := (unr_R [16, 35] nM_breakwater k 400 16 _ _ _).trans rfl
theorem eM_breakwater_35 (k : Nat) (v1 : Int32) (v2 : Int32) (v3 : Int32) (v4 : Int32) (v5 : Int32) (u6 : Value) (u7 : Value) (σ : Sto) : R nM_breakwater k 35 [.ref 30, .int v1, .int v2, .int v3, .int v4, .int v5, u6, u7] [] σ =
  (C nM_areAllAlone k [.ref 30, .int v5, .int v2] σ).bind fun r1 =>
    if r1.1 = 0 then
      if r1.1 = 0 then
        R nM_breakwater k 16 [.ref 30, .int v1, .int v2, .int v3, .int v4, .int (v5 + 1), .int 1, .int r1.1] [] r1.2.2
      else
        (C nM_onesOf k [.int v5] r1.2.2).bind fun r2 =>
          R nM_breakwater k 16 [.ref 30, .int v1, .int v2, .int v3, .int r2.1, .int (v5 + 1), .int 1, .int r1.1] [] r2.2.2
    else
      if r1.1 = 0 then
        R nM_breakwater k 16 [.ref 30, .int v1, .int v2, .int v5, .int v4, .int (v5 + 1), .int 1, .int r1.1] [] r1.2.2
      else
        (C nM_onesOf k [.int v5] r1.2.2).bind fun r2 =>
          R nM_breakwater k 16 [.ref 30, .int v1, .int v2, .int v5, .int r2.1, .int (v5 + 1), .int 1, .int r1.1] [] r2.2.2 := (unr_R [16, 35] nM_breakwater k 400 35 _ _ _).trans rfl
-- X5_isBetween
theorem eM_isBetween (k : Nat) (p1 : Int32) (p2 : Int32) (σ : Sto) : C nM_isBetween k [.ref 30, .int p1, .int p2] σ =
  R nM_isBetween k 2 [.ref 30, .int p1, .int p2, .int 0] [] σ := (unr_R [2] nM_isBetween k 400 0 _ _ _).trans rfl
theorem eM_isBetween_2 (k : Nat) (v1 : Int32) (v2 : Int32) (v3 : Int32) (σ : Sto) : R nM_isBetween k 2 [.ref 30, .int v1, .int v2, .int v3] [] σ =
  if v3 < (σ 30 0) then
    (C nM_isSeen k [.ref 30, .int v3] σ).bind fun r1 =>
      if r1.1 = 0 then
        R nM_isBetween k 2 [.ref 30, .int v1, .int v2, .int (v3 + 1)] [] r1.2.2
      else
        if inb (3 * v3) 18 = true then
          if inb (3 * v1) 18 = true then
            if (r1.2.2 33 (3 * v1).toNatClampNeg) < (r1.2.2 33 (3 * v3).toNatClampNeg) then
              if inb (3 * v3) 18 = true then
                if inb (3 * v2) 18 = true then
                  if (r1.2.2 33 (3 * v3).toNatClampNeg) < (r1.2.2 33 (3 * v2).toNatClampNeg) then
                    some (1, 0, r1.2.2)
                  else
                    R nM_isBetween k 2 [.ref 30, .int v1, .int v2, .int (v3 + 1)] [] r1.2.2
                else
                  none
              else
                none
            else
              R nM_isBetween k 2 [.ref 30, .int v1, .int v2, .int (v3 + 1)] [] r1.2.2
          else
            none
        else
          none
  else
    some (0, 0, σ) := (unr_R [2] nM_isBetween k 400 2 _ _ _).trans rfl
-- X5_gap
theorem eM_gap (k : Nat) (p1 : Int32) (σ : Sto) : C nM_gap k [.ref 30, .int p1] σ =
  (C nM_in k [.int p1, .int 0, .int 1] σ).bind fun r1 =>
    if r1.1 = 0 then
      some ((-2), 0, r1.2.2)
    else
      R nM_gap k 13 [.ref 30, .int p1, .int (-1), .int (-1), .int 0, .null, .null, .null] [] r1.2.2 := (unr_R [13, 19, 55, 57, 58, 72, 82, 88, 89, 98] nM_gap k 400 0 _ _ _).trans rfl
theorem eM_gap_13 (k : Nat) (v1 : Int32) (v2 : Int32) (v3 : Int32) (v4 : Int32) (u5 : Value) (u6 : Value) (u7 : Value) (σ : Sto) : R nM_gap k 13 [.ref 30, .int v1, .int v2, .int v3, .int v4, u5, u6, u7] [] σ =
  if v4 < (σ 30 0) then
    R nM_gap k 19 [.ref 30, .int v1, .int v2, .int v3, .int v4, .int 0, u6, u7] [] σ
  else
    if v1 = 0 then
      R nM_gap k 98 [.ref 30, .int v1, .int v2, .int v3, .int v4, u5, u6, u7] [.int v2] σ
    else
      R nM_gap k 98 [.ref 30, .int v1, .int v2, .int v3, .int v4, u5, u6, u7] [.int v3] σ := (unr_R [13, 19, 55, 57, 58, 72, 82, 88, 89, 98] nM_gap k 400 13 _ _ _).trans rfl
theorem eM_gap_19 (k : Nat) (v1 : Int32) (v2 : Int32) (v3 : Int32) (v4 : Int32) (v5 : Int32) (u6 : Value) (u7 : Value) (σ : Sto) : R nM_gap k 19 [.ref 30, .int v1, .int v2, .int v3, .int v4, .int v5, u6, u7] [] σ =
  if v5 < (σ 30 0) then
    if inb (3 * v5) 18 = true then
      if inb (3 * v4) 18 = true then
        if v4 = v5 then
          R nM_gap k 57 [.ref 30, .int v1, .int v2, .int v3, .int v4, .int v5, .int ((σ 33 (3 * v5).toNatClampNeg) - (σ 33 (3 * v4).toNatClampNeg)), u7] [] σ
        else
          (C nM_isSeen k [.ref 30, .int v4] σ).bind fun r1 =>
            if r1.1 = 0 then
              R nM_gap k 57 [.ref 30, .int v1, .int v2, .int v3, .int v4, .int v5, .int ((σ 33 (3 * v5).toNatClampNeg) - (σ 33 (3 * v4).toNatClampNeg)), u7] [] r1.2.2
            else
              (C nM_isSeen k [.ref 30, .int v5] r1.2.2).bind fun r2 =>
                if r2.1 = 0 then
                  R nM_gap k 57 [.ref 30, .int v1, .int v2, .int v3, .int v4, .int v5, .int ((σ 33 (3 * v5).toNatClampNeg) - (σ 33 (3 * v4).toNatClampNeg)), u7] [] r2.2.2
                else
                  if 0 < ((σ 33 (3 * v5).toNatClampNeg) - (σ 33 (3 * v4).toNatClampNeg)) then
                    R nM_gap k 55 [.ref 30, .int v1, .int v2, .int v3, .int v4, .int v5, .int ((σ 33 (3 * v5).toNatClampNeg) - (σ 33 (3 * v4).toNatClampNeg)), u7] [] r2.2.2
                  else
                    if ((σ 33 (3 * v5).toNatClampNeg) - (σ 33 (3 * v4).toNatClampNeg)) = 0 then
                      if v4 < v5 then
                        R nM_gap k 55 [.ref 30, .int v1, .int v2, .int v3, .int v4, .int v5, .int ((σ 33 (3 * v5).toNatClampNeg) - (σ 33 (3 * v4).toNatClampNeg)), u7] [] r2.2.2
                      else
                        R nM_gap k 57 [.ref 30, .int v1, .int v2, .int v3, .int v4, .int v5, .int ((σ 33 (3 * v5).toNatClampNeg) - (σ 33 (3 * v4).toNatClampNeg)), u7] [] r2.2.2
                    else
                      R nM_gap k 57 [.ref 30, .int v1, .int v2, .int v3, .int v4, .int v5, .int ((σ 33 (3 * v5).toNatClampNeg) - (σ 33 (3 * v4).toNatClampNeg)), u7] [] r2.2.2
      else
        none
    else
      none
  else
    R nM_gap k 13 [.ref 30, .int v1, .int v2, .int v3, .int (v4 + 1), .int v5, u6, u7] [] σ := (unr_R [13, 19, 55, 57, 58, 72, 82, 88, 89, 98] nM_gap k 400 19 _ _ _).trans rfl
theorem eM_gap_55 (k : Nat) (v1 : Int32) (v2 : Int32) (v3 : Int32) (v4 : Int32) (v5 : Int32) (v6 : Int32) (u7 : Value) (σ : Sto) : R nM_gap k 55 [.ref 30, .int v1, .int v2, .int v3, .int v4, .int v5, .int v6, u7] [] σ =
  R nM_gap k 58 [.ref 30, .int v1, .int v2, .int v3, .int v4, .int v5, .int v6, u7] [.int 1] σ := (unr_R [13, 19, 55, 57, 58, 72, 82, 88, 89, 98] nM_gap k 400 55 _ _ _).trans rfl
theorem eM_gap_57 (k : Nat) (v1 : Int32) (v2 : Int32) (v3 : Int32) (v4 : Int32) (v5 : Int32) (v6 : Int32) (u7 : Value) (σ : Sto) : R nM_gap k 57 [.ref 30, .int v1, .int v2, .int v3, .int v4, .int v5, .int v6, u7] [] σ =
  R nM_gap k 58 [.ref 30, .int v1, .int v2, .int v3, .int v4, .int v5, .int v6, u7] [.int 0] σ := (unr_R [13, 19, 55, 57, 58, 72, 82, 88, 89, 98] nM_gap k 400 57 _ _ _).trans rfl
theorem eM_gap_58 (k : Nat) (v1 : Int32) (v2 : Int32) (v3 : Int32) (v4 : Int32) (v5 : Int32) (v6 : Int32) (u7 : Value) (s0 : Int32) (σ : Sto) : R nM_gap k 58 [.ref 30, .int v1, .int v2, .int v3, .int v4, .int v5, .int v6, u7] [.int s0] σ =
  if s0 = 0 then
    R nM_gap k 89 [.ref 30, .int v1, .int v2, .int v3, .int v4, .int v5, .int v6, .int s0] [] σ
  else
    if v3 < v6 then
      (C nM_isBetween k [.ref 30, .int v4, .int v5] σ).bind fun r1 =>
        if r1.1 = 0 then
          R nM_gap k 72 [.ref 30, .int v1, .int v2, .int v3, .int v4, .int v5, .int v6, .int s0] [.int 1] r1.2.2
        else
          R nM_gap k 72 [.ref 30, .int v1, .int v2, .int v3, .int v4, .int v5, .int v6, .int s0] [.int 0] r1.2.2
    else
      R nM_gap k 89 [.ref 30, .int v1, .int v2, .int v3, .int v4, .int v5, .int v6, .int s0] [] σ := (unr_R [13, 19, 55, 57, 58, 72, 82, 88, 89, 98] nM_gap k 400 58 _ _ _).trans rfl
theorem eM_gap_72 (k : Nat) (v1 : Int32) (v2 : Int32) (v3 : Int32) (v4 : Int32) (v5 : Int32) (v6 : Int32) (v7 : Int32) (s0 : Int32) (σ : Sto) : R nM_gap k 72 [.ref 30, .int v1, .int v2, .int v3, .int v4, .int v5, .int v6, .int v7] [.int s0] σ =
  if s0 = 0 then
    R nM_gap k 82 [.ref 30, .int v1, .int v2, .int v3, .int v4, .int v5, .int v6, .int s0] [.int v2] σ
  else
    R nM_gap k 82 [.ref 30, .int v1, .int v2, .int v3, .int v4, .int v5, .int v6, .int s0] [.int ((10 * v4) + v5)] σ := (unr_R [13, 19, 55, 57, 58, 72, 82, 88, 89, 98] nM_gap k 400 72 _ _ _).trans rfl
theorem eM_gap_82 (k : Nat) (v1 : Int32) (v2 : Int32) (v3 : Int32) (v4 : Int32) (v5 : Int32) (v6 : Int32) (v7 : Int32) (s0 : Int32) (σ : Sto) : R nM_gap k 82 [.ref 30, .int v1, .int v2, .int v3, .int v4, .int v5, .int v6, .int v7] [.int s0] σ =
  if v7 = 0 then
    R nM_gap k 88 [.ref 30, .int v1, .int s0, .int v3, .int v4, .int v5, .int v6, .int v7] [.int v3] σ
  else
    R nM_gap k 88 [.ref 30, .int v1, .int s0, .int v3, .int v4, .int v5, .int v6, .int v7] [.int v6] σ := (unr_R [13, 19, 55, 57, 58, 72, 82, 88, 89, 98] nM_gap k 400 82 _ _ _).trans rfl
theorem eM_gap_88 (k : Nat) (v1 : Int32) (v2 : Int32) (v3 : Int32) (v4 : Int32) (v5 : Int32) (v6 : Int32) (v7 : Int32) (s0 : Int32) (σ : Sto) : R nM_gap k 88 [.ref 30, .int v1, .int v2, .int v3, .int v4, .int v5, .int v6, .int v7] [.int s0] σ =
  R nM_gap k 89 [.ref 30, .int v1, .int v2, .int s0, .int v4, .int v5, .int v6, .int v7] [] σ := (unr_R [13, 19, 55, 57, 58, 72, 82, 88, 89, 98] nM_gap k 400 88 _ _ _).trans rfl
theorem eM_gap_89 (k : Nat) (v1 : Int32) (v2 : Int32) (v3 : Int32) (v4 : Int32) (v5 : Int32) (v6 : Int32) (v7 : Int32) (σ : Sto) : R nM_gap k 89 [.ref 30, .int v1, .int v2, .int v3, .int v4, .int v5, .int v6, .int v7] [] σ =
  R nM_gap k 19 [.ref 30, .int v1, .int v2, .int v3, .int v4, .int (v5 + 1), .int v6, .int v7] [] σ := (unr_R [13, 19, 55, 57, 58, 72, 82, 88, 89, 98] nM_gap k 400 89 _ _ _).trans rfl
theorem eM_gap_98 (k : Nat) (v1 : Int32) (v2 : Int32) (v3 : Int32) (v4 : Int32) (u5 : Value) (u6 : Value) (u7 : Value) (s0 : Int32) (σ : Sto) : R nM_gap k 98 [.ref 30, .int v1, .int v2, .int v3, .int v4, u5, u6, u7] [.int s0] σ =
  some (s0, 0, σ) := (unr_R [13, 19, 55, 57, 58, 72, 82, 88, 89, 98] nM_gap k 400 98 _ _ _).trans rfl
-- X5_lowest
theorem eM_lowest (k : Nat) (p1 : Int64) (p2 : Int64) (p3 : Int32) (σ : Sto) : C nM_lowest k [.long p1, .long p2, .int p3] σ =
  if (lg_cmp p1 0) = 0 then
    some (0, (Int32.toInt64 p3), σ)
  else
    R nM_lowest k 11 [.long p1, .null, .long p2, .null, .int p3, .long p1, .null, .long p2, .null, .null, .null] [] σ := (unr_R [11] nM_lowest k 400 0 _ _ _).trans rfl
theorem eM_lowest_11 (k : Nat) (v0 : Int64) (v2 : Int64) (v4 : Int32) (v5 : Int64) (v7 : Int64) (u9 : Value) (σ : Sto) : R nM_lowest k 11 [.long v0, .null, .long v2, .null, .int v4, .long v5, .null, .long v7, .null, u9, .null] [] σ =
  if (lg_cmp v7 0) = 0 then
    if v4 = 0 then
      if v5 = 0 then
        none
      else
        some (0, (v0 / v5), σ)
    else
      if v5 = 0 then
        none
      else
        some (0, (v2 / v5), σ)
  else
    if v7 = 0 then
      none
    else
      R nM_lowest k 11 [.long v0, .null, .long v2, .null, .int v4, .long v7, .null, .long (v5 - v5 / v7 * v7), .null, .long (v5 - v5 / v7 * v7), .null] [] σ := (unr_R [11] nM_lowest k 400 11 _ _ _).trans rfl
-- X5_middle
theorem eM_middle (k : Nat) (p1 : Int32) (σ : Sto) : C nM_middle k [.ref 30, .int p1] σ =
  R nM_middle k 6 [.ref 30, .int p1, .int 0, .int 0, .int 0] [] σ := (unr_R [6] nM_middle k 400 0 _ _ _).trans rfl
theorem eM_middle_6 (k : Nat) (v1 : Int32) (v2 : Int32) (v3 : Int32) (v4 : Int32) (σ : Sto) : R nM_middle k 6 [.ref 30, .int v1, .int v2, .int v3, .int v4] [] σ =
  if v4 < (σ 30 0) then
    (C nM_isAt k [.ref 30, .int v4] σ).bind fun r1 =>
      if r1.1 = 0 then
        (C nM_isAt k [.ref 30, .int v4] r1.2.2).bind fun r2 =>
          if r2.1 = 0 then
            R nM_middle k 6 [.ref 30, .int v1, .int (v2 + 0), .int (v3 + 0), .int (v4 + 1)] [] r2.2.2
          else
            R nM_middle k 6 [.ref 30, .int v1, .int (v2 + 0), .int (v3 + 1), .int (v4 + 1)] [] r2.2.2
      else
        if inb (3 * v4) 18 = true then
          (C nM_isAt k [.ref 30, .int v4] r1.2.2).bind fun r2 =>
            if r2.1 = 0 then
              R nM_middle k 6 [.ref 30, .int v1, .int (v2 + (r1.2.2 33 (3 * v4).toNatClampNeg)), .int (v3 + 0), .int (v4 + 1)] [] r2.2.2
            else
              R nM_middle k 6 [.ref 30, .int v1, .int (v2 + (r1.2.2 33 (3 * v4).toNatClampNeg)), .int (v3 + 1), .int (v4 + 1)] [] r2.2.2
        else
          none
  else
    (C nM_in k [.int v1, .int 0, .int 1] σ).bind fun r1 =>
      if r1.1 = 0 then
        some (0, (-4611686018427387904), r1.2.2)
      else
        if 0 < v3 then
          (C nM_lowest k [.long (Int32.toInt64 v2), .long (Int32.toInt64 v3), .int v1] r1.2.2).bind fun r2 =>
            some (0, r2.2.1, r2.2.2)
        else
          some (0, (-4611686018427387904), r1.2.2) := (unr_R [6] nM_middle k 400 6 _ _ _).trans rfl
-- X5_sheetWrong
theorem eM_sheetWrong (k : Nat) (p1 : Int32) (σ : Sto) : C nM_sheetWrong k [.ref 30, .int p1] σ =
  (C nM_in k [.int p1, .int 0, .int 3] σ).bind fun r1 =>
    if r1.1 = 0 then
      some ((-2), 0, r1.2.2)
    else
      if inb p1 4 = true then
        if (r1.2.2 40 p1.toNatClampNeg) = (-1) then
          some ((-11), 0, r1.2.2)
        else
          if inb p1 4 = true then
            if 24 < (r1.2.2 41 p1.toNatClampNeg) then
              some ((-2), 0, r1.2.2)
            else
              some (0, 0, r1.2.2)
          else
            none
      else
        none := (unr_R [] nM_sheetWrong k 400 0 _ _ _).trans rfl
-- X5_unlike
theorem eM_unlike (k : Nat) (p1 : Int32) (σ : Sto) : C nM_unlike k [.ref 30, .int p1] σ =
  (C nM_keeps k [.ref 30] σ).bind fun r1 =>
    R nM_unlike k 6 [.ref 30, .int p1, .int (-1), .int 0] [] r1.2.2 := (unr_R [6] nM_unlike k 400 0 _ _ _).trans rfl
theorem eM_unlike_6 (k : Nat) (v1 : Int32) (v2 : Int32) (v3 : Int32) (σ : Sto) : R nM_unlike k 6 [.ref 30, .int v1, .int v2, .int v3] [] σ =
  if inb v1 4 = true then
    if v3 < (σ 41 v1.toNatClampNeg) then
      if v2 = (-1) then
        if inb ((40 * v1) + v3) 160 = true then
          (C nM_hourOf k [.ref 30] σ).bind fun r1 =>
            if (σ 42 ((40 * v1) + v3).toNatClampNeg) = (r1.1 + 1) then
              R nM_unlike k 6 [.ref 30, .int v1, .int (-1), .int (v3 + 1)] [] r1.2.2
            else
              R nM_unlike k 6 [.ref 30, .int v1, .int v3, .int (v3 + 1)] [] r1.2.2
        else
          none
      else
        (C nM_lays k [.ref 30] σ).bind fun r1 =>
          some (v2, 0, r1.2.2)
    else
      (C nM_lays k [.ref 30] σ).bind fun r1 =>
        some (v2, 0, r1.2.2)
  else
    none := (unr_R [6] nM_unlike k 400 6 _ _ _).trans rfl
-- X5_judge
theorem eM_judge (k : Nat) (p1 : Int32) (σ : Sto) : C nM_judge k [.ref 30, .int p1] σ =
  (C nM_sheetWrong k [.ref 30, .int p1] σ).bind fun r1 =>
    if r1.1 = 0 then
      (C nM_unlike k [.ref 30, .int p1] r1.2.2).bind fun r2 =>
        some (r2.1, 0, r2.2.2)
    else
      some (r1.1, 0, r1.2.2) := (unr_R [] nM_judge k 400 0 _ _ _).trans rfl
-- X5_kinds
theorem eM_kinds (k : Nat) (p1 : Int32) (p2 : Int32) (p3 : Int32) (σ : Sto) : C nM_kinds k [.ref 30, .int p1, .int p2, .int p3] σ =
  (C nM_sheetWrong k [.ref 30, .int p1] σ).bind fun r1 =>
    if r1.1 = 0 then
      (C nM_isOne k [.ref 30, .int p2] r1.2.2).bind fun r2 =>
        if r2.1 = 0 then
          some ((-5), 0, r2.2.2)
        else
          (C nM_in k [.int p3, .int 0, .int 1] r2.2.2).bind fun r3 =>
            if r3.1 = 0 then
              some ((-7), 0, r3.2.2)
            else
              if inb p2 6 = true then
                if inb p2 6 = true then
                  R nM_kinds k 35 [.ref 30, .int p1, .int p2, .int p3, .int r1.1, .int (r3.2.2 31 p2.toNatClampNeg), .int (r3.2.2 32 p2.toNatClampNeg), .int 0, .int 0] [] r3.2.2
                else
                  none
              else
                none
    else
      some (r1.1, 0, r1.2.2) := (unr_R [35, 50] nM_kinds k 400 0 _ _ _).trans rfl
theorem eM_kinds_35 (k : Nat) (v1 : Int32) (v2 : Int32) (v3 : Int32) (v4 : Int32) (v5 : Int32) (v6 : Int32) (v7 : Int32) (v8 : Int32) (σ : Sto) : R nM_kinds k 35 [.ref 30, .int v1, .int v2, .int v3, .int v4, .int v5, .int v6, .int v7, .int v8] [] σ =
  if v3 = 0 then
    if v8 < 6 then
      if v3 = 0 then
        R nM_kinds k 50 [.ref 30, .int v1, .int v2, .int v3, .int v4, .int v5, .int v6, .int v7, .int v8] [.int v8, .int v2, .ref 31] σ
      else
        R nM_kinds k 50 [.ref 30, .int v1, .int v2, .int v3, .int v4, .int v5, .int v6, .int v7, .int v8] [.int v5, .int v2, .ref 31] σ
    else
      if inb v2 6 = true then
        if inb v2 6 = true then
          some (v7, 0, (su (su σ 31 v2.toNatClampNeg v5) 32 v2.toNatClampNeg v6))
        else
          none
      else
        none
  else
    if v8 < 10 then
      if v3 = 0 then
        R nM_kinds k 50 [.ref 30, .int v1, .int v2, .int v3, .int v4, .int v5, .int v6, .int v7, .int v8] [.int v8, .int v2, .ref 31] σ
      else
        R nM_kinds k 50 [.ref 30, .int v1, .int v2, .int v3, .int v4, .int v5, .int v6, .int v7, .int v8] [.int v5, .int v2, .ref 31] σ
    else
      if inb v2 6 = true then
        if inb v2 6 = true then
          some (v7, 0, (su (su σ 31 v2.toNatClampNeg v5) 32 v2.toNatClampNeg v6))
        else
          none
      else
        none := (unr_R [35, 50] nM_kinds k 400 35 _ _ _).trans rfl
theorem eM_kinds_50 (k : Nat) (v1 : Int32) (v2 : Int32) (v3 : Int32) (v4 : Int32) (v5 : Int32) (v6 : Int32) (v7 : Int32) (v8 : Int32) (s0 : Int32) (s1 : Int32) (σ : Sto) : R nM_kinds k 50 [.ref 30, .int v1, .int v2, .int v3, .int v4, .int v5, .int v6, .int v7, .int v8] [.int s0, .int s1, .ref 31] σ =
  if inb s1 6 = true then
    if v3 = 1 then
      if inb v2 6 = true then
        (C nM_unlike k [.ref 30, .int v1] (su (su σ 31 s1.toNatClampNeg s0) 32 v2.toNatClampNeg v8)).bind fun r1 =>
          if r1.1 = (-1) then
            R nM_kinds k 35 [.ref 30, .int v1, .int v2, .int v3, .int v4, .int v5, .int v6, .int (v7 ||| (1 <<< (v8 &&& 31))), .int (v8 + 1)] [] r1.2.2
          else
            R nM_kinds k 35 [.ref 30, .int v1, .int v2, .int v3, .int v4, .int v5, .int v6, .int (v7 ||| 0), .int (v8 + 1)] [] r1.2.2
      else
        none
    else
      if inb v2 6 = true then
        (C nM_unlike k [.ref 30, .int v1] (su (su σ 31 s1.toNatClampNeg s0) 32 v2.toNatClampNeg v6)).bind fun r1 =>
          if r1.1 = (-1) then
            R nM_kinds k 35 [.ref 30, .int v1, .int v2, .int v3, .int v4, .int v5, .int v6, .int (v7 ||| (1 <<< (v8 &&& 31))), .int (v8 + 1)] [] r1.2.2
          else
            R nM_kinds k 35 [.ref 30, .int v1, .int v2, .int v3, .int v4, .int v5, .int v6, .int (v7 ||| 0), .int (v8 + 1)] [] r1.2.2
      else
        none
  else
    none := (unr_R [35, 50] nM_kinds k 400 50 _ _ _).trans rfl
-- X5_places
theorem eM_places (k : Nat) (p1 : Int32) (p2 : Int32) (σ : Sto) : C nM_places k [.ref 30, .int p1, .int p2] σ =
  (C nM_sheetWrong k [.ref 30, .int p1] σ).bind fun r1 =>
    if r1.1 = 0 then
      (C nM_isOne k [.ref 30, .int p2] r1.2.2).bind fun r2 =>
        if r2.1 = 0 then
          some (0, (-4611686018427387904), r2.2.2)
        else
          if inb (3 * p2) 18 = true then
            if (r2.2.2 33 (3 * p2).toNatClampNeg) = (-1) then
              some (0, (-4611686018427387904), r2.2.2)
            else
              R nM_places k 26 [.ref 30, .int p1, .int p2, .int (r2.2.2 33 (3 * p2).toNatClampNeg), .long 0, .null, .int 0] [] r2.2.2
          else
            none
    else
      some (0, (-4611686018427387904), r1.2.2) := (unr_R [26] nM_places k 400 0 _ _ _).trans rfl
theorem eM_places_26 (k : Nat) (v1 : Int32) (v2 : Int32) (v3 : Int32) (v4 : Int64) (v6 : Int32) (σ : Sto) : R nM_places k 26 [.ref 30, .int v1, .int v2, .int v3, .long v4, .null, .int v6] [] σ =
  if v6 < 64 then
    if inb (3 * v2) 18 = true then
      (C nM_unlike k [.ref 30, .int v1] (su σ 33 (3 * v2).toNatClampNeg v6)).bind fun r1 =>
        if r1.1 = (-1) then
          R nM_places k 26 [.ref 30, .int v1, .int v2, .int v3, .long (v4 ||| (1 <<< (Int32.toInt64 v6 &&& 63))), .null, .int (v6 + 1)] [] r1.2.2
        else
          R nM_places k 26 [.ref 30, .int v1, .int v2, .int v3, .long (v4 ||| 0), .null, .int (v6 + 1)] [] r1.2.2
    else
      none
  else
    if inb (3 * v2) 18 = true then
      some (0, v4, (su σ 33 (3 * v2).toNatClampNeg v3))
    else
      none := (unr_R [26] nM_places k 400 26 _ _ _).trans rfl
-- X5_turned
theorem eM_turned (k : Nat) (p1 : Int32) (σ : Sto) : C nM_turned k [.ref 30, .int p1] σ =
  (C nM_sheetWrong k [.ref 30, .int p1] σ).bind fun r1 =>
    if r1.1 = 0 then
      R nM_turned k 12 [.ref 30, .int p1, .int r1.1, .int 0, .int 0] [] r1.2.2
    else
      some (r1.1, 0, r1.2.2) := (unr_R [12] nM_turned k 400 0 _ _ _).trans rfl
theorem eM_turned_12 (k : Nat) (v1 : Int32) (v2 : Int32) (v3 : Int32) (v4 : Int32) (σ : Sto) : R nM_turned k 12 [.ref 30, .int v1, .int v2, .int v3, .int v4] [] σ =
  if v4 < (σ 30 0) then
    if inb ((3 * v4) + 1) 18 = true then
      if inb ((3 * v4) + 1) 18 = true then
        (C nM_unlike k [.ref 30, .int v1] (su σ 33 ((3 * v4) + 1).toNatClampNeg (1 - (σ 33 ((3 * v4) + 1).toNatClampNeg)))).bind fun r1 =>
          if r1.1 = (-1) then
            if inb ((3 * v4) + 1) 18 = true then
              if inb ((3 * v4) + 1) 18 = true then
                R nM_turned k 12 [.ref 30, .int v1, .int v2, .int (v3 ||| (1 <<< (v4 &&& 31))), .int (v4 + 1)] [] (su r1.2.2 33 ((3 * v4) + 1).toNatClampNeg (1 - (r1.2.2 33 ((3 * v4) + 1).toNatClampNeg)))
              else
                none
            else
              none
          else
            if inb ((3 * v4) + 1) 18 = true then
              if inb ((3 * v4) + 1) 18 = true then
                R nM_turned k 12 [.ref 30, .int v1, .int v2, .int (v3 ||| 0), .int (v4 + 1)] [] (su r1.2.2 33 ((3 * v4) + 1).toNatClampNeg (1 - (r1.2.2 33 ((3 * v4) + 1).toNatClampNeg)))
              else
                none
            else
              none
      else
        none
    else
      none
  else
    some (v3, 0, σ) := (unr_R [12] nM_turned k 400 12 _ _ _).trans rfl
-- X5_waits
theorem eM_waits (k : Nat) (p1 : Int32) (p2 : Int32) (p3 : Int32) (σ : Sto) : C nM_waits k [.ref 30, .int p1, .int p2, .int p3] σ =
  (C nM_sheetWrong k [.ref 30, .int p1] σ).bind fun r1 =>
    if r1.1 = 0 then
      (C nM_isOne k [.ref 30, .int p2] r1.2.2).bind fun r2 =>
        if r2.1 = 0 then
          some ((-5), 0, r2.2.2)
        else
          (C nM_in k [.int p3, .int 0, .int 1] r2.2.2).bind fun r3 =>
            if r3.1 = 0 then
              some ((-7), 0, r3.2.2)
            else
              if inb ((3 * p2) + 2) 18 = true then
                R nM_waits k 36 [.ref 30, .int p1, .int p2, .int p3, .int r1.1, .int (r3.2.2 33 ((3 * p2) + 2).toNatClampNeg), .int 0, .int (-1), .int 0, .null] [] r3.2.2
              else
                none
    else
      some (r1.1, 0, r1.2.2) := (unr_R [36] nM_waits k 400 0 _ _ _).trans rfl
theorem eM_waits_36 (k : Nat) (v1 : Int32) (v2 : Int32) (v3 : Int32) (v4 : Int32) (v5 : Int32) (v6 : Int32) (v7 : Int32) (v8 : Int32) (u9 : Value) (σ : Sto) : R nM_waits k 36 [.ref 30, .int v1, .int v2, .int v3, .int v4, .int v5, .int v6, .int v7, .int v8, u9] [] σ =
  if 99 < v8 then
    if inb ((3 * v2) + 2) 18 = true then
      if v3 = 0 then
        some (v6, 0, (su σ 33 ((3 * v2) + 2).toNatClampNeg v5))
      else
        some (v7, 0, (su σ 33 ((3 * v2) + 2).toNatClampNeg v5))
    else
      none
  else
    if inb ((3 * v2) + 2) 18 = true then
      (C nM_unlike k [.ref 30, .int v1] (su σ 33 ((3 * v2) + 2).toNatClampNeg v8)).bind fun r1 =>
        if r1.1 = (-1) then
          if v7 = (-1) then
            R nM_waits k 36 [.ref 30, .int v1, .int v2, .int v3, .int v4, .int v5, .int (v6 + 1), .int v8, .int (v8 + 1), .int 1] [] r1.2.2
          else
            R nM_waits k 36 [.ref 30, .int v1, .int v2, .int v3, .int v4, .int v5, .int (v6 + 1), .int v7, .int (v8 + 1), .int 1] [] r1.2.2
        else
          R nM_waits k 36 [.ref 30, .int v1, .int v2, .int v3, .int v4, .int v5, .int (v6 + 0), .int v7, .int (v8 + 1), .int 0] [] r1.2.2
    else
      none := (unr_R [36] nM_waits k 400 36 _ _ _).trans rfl
-- X5_laws
theorem eM_laws (k : Nat) (p1 : Int32) (σ : Sto) : C nM_laws k [.ref 30, .int p1] σ =
  (C nM_sheetWrong k [.ref 30, .int p1] σ).bind fun r1 =>
    if r1.1 = 0 then
      R nM_laws k 15 [.ref 30, .int p1, .int r1.1, .int (r1.2.2 30 10), .int 0, .int 0] [] r1.2.2
    else
      some (r1.1, 0, r1.2.2) := (unr_R [15] nM_laws k 400 0 _ _ _).trans rfl
theorem eM_laws_15 (k : Nat) (v1 : Int32) (v2 : Int32) (v3 : Int32) (v4 : Int32) (v5 : Int32) (σ : Sto) : R nM_laws k 15 [.ref 30, .int v1, .int v2, .int v3, .int v4, .int v5] [] σ =
  if v5 < (σ 30 9) then
    (C nM_unlike k [.ref 30, .int v1] (su σ 30 10 v5)).bind fun r1 =>
      if r1.1 = (-1) then
        R nM_laws k 15 [.ref 30, .int v1, .int v2, .int v3, .int (v4 ||| (1 <<< (v5 &&& 31))), .int (v5 + 1)] [] r1.2.2
      else
        R nM_laws k 15 [.ref 30, .int v1, .int v2, .int v3, .int (v4 ||| 0), .int (v5 + 1)] [] r1.2.2
  else
    some (v4, 0, (su σ 30 10 v3)) := (unr_R [15] nM_laws k 400 15 _ _ _).trans rfl
-- X5_film
theorem eM_film (k : Nat) (p1 : Int32) (p2 : Int32) (σ : Sto) : C nM_film k [.ref 30, .int p1, .int p2] σ =
  (C nM_in k [.int p1, .int 0, .int 3] σ).bind fun r1 =>
    if r1.1 = 0 then
      some ((-2), 0, r1.2.2)
    else
      (C nM_in k [.int p2, .int 0, .int 24] r1.2.2).bind fun r2 =>
        if r2.1 = 0 then
          some ((-7), 0, r2.2.2)
        else
          if inb p1 4 = true then
            if inb p1 4 = true then
              (C nM_keeps k [.ref 30] (su (su r2.2.2 40 p1.toNatClampNeg 0) 41 p1.toNatClampNeg p2)).bind fun r3 =>
                R nM_film k 28 [.ref 30, .int p1, .int p2, .int 0] [] r3.2.2
            else
              none
          else
            none := (unr_R [28] nM_film k 400 0 _ _ _).trans rfl
theorem eM_film_28 (k : Nat) (v1 : Int32) (v2 : Int32) (v3 : Int32) (σ : Sto) : R nM_film k 28 [.ref 30, .int v1, .int v2, .int v3] [] σ =
  if v3 < 40 then
    if v3 < v2 then
      (C nM_hourOf k [.ref 30] σ).bind fun r1 =>
        if inb ((40 * v1) + v3) 160 = true then
          R nM_film k 28 [.ref 30, .int v1, .int v2, .int (v3 + 1)] [] (su r1.2.2 42 ((40 * v1) + v3).toNatClampNeg (r1.1 + 1))
        else
          none
    else
      if inb ((40 * v1) + v3) 160 = true then
        R nM_film k 28 [.ref 30, .int v1, .int v2, .int (v3 + 1)] [] (su σ 42 ((40 * v1) + v3).toNatClampNeg 0)
      else
        none
  else
    (C nM_lays k [.ref 30] σ).bind fun r1 =>
      some (v2, 0, r1.2.2) := (unr_R [28] nM_film k 400 28 _ _ _).trans rfl
-- X5_gulls
theorem eM_gulls (k : Nat) (p1 : Int32) (σ : Sto) : C nM_gulls k [.ref 30, .int p1] σ =
  (C nM_keeps k [.ref 30] σ).bind fun r1 =>
    R nM_gulls k 11 [.ref 30, .int p1, .long ((Int32.toInt64 p1) + 1), .null, .int 0, .int 0, .null] [] r1.2.2 := (unr_R [11, 20, 25, 31] nM_gulls k 400 0 _ _ _).trans rfl
theorem eM_gulls_11 (k : Nat) (v1 : Int32) (v2 : Int64) (v4 : Int32) (v5 : Int32) (u6 : Value) (σ : Sto) : R nM_gulls k 11 [.ref 30, .int v1, .long v2, .null, .int v4, .int v5, u6] [] σ =
  if v5 < 12 then
    R nM_gulls k 20 [.ref 30, .int v1, .long ((v2 * 48271) - (v2 * 48271) / 2147483647 * 2147483647), .null, .int v4, .int v5, u6] [] σ
  else
    (C nM_overSet k [.ref 30] σ).bind fun r1 =>
      (C nM_lays k [.ref 30] (su r1.2.2 30 31 r1.1)).bind fun r2 =>
        some (v4, 0, r2.2.2) := (unr_R [11, 20, 25, 31] nM_gulls k 400 11 _ _ _).trans rfl
theorem eM_gulls_20 (k : Nat) (v1 : Int32) (v2 : Int64) (v4 : Int32) (v5 : Int32) (u6 : Value) (σ : Sto) : R nM_gulls k 20 [.ref 30, .int v1, .long v2, .null, .int v4, .int v5, u6] [] σ =
  R nM_gulls k 25 [.ref 30, .int v1, .long v2, .null, .int v4, .int v5, .int (Int64.toInt32 (v2 - v2 / 6 * 6))] [] σ := (unr_R [11, 20, 25, 31] nM_gulls k 400 20 _ _ _).trans rfl
theorem eM_gulls_25 (k : Nat) (v1 : Int32) (v2 : Int64) (v4 : Int32) (v5 : Int32) (v6 : Int32) (σ : Sto) : R nM_gulls k 25 [.ref 30, .int v1, .long v2, .null, .int v4, .int v5, .int v6] [] σ =
  R nM_gulls k 31 [.ref 30, .int v1, .long ((v2 * 48271) - (v2 * 48271) / 2147483647 * 2147483647), .null, .int v4, .int v5, .int v6] [] σ := (unr_R [11, 20, 25, 31] nM_gulls k 400 25 _ _ _).trans rfl
theorem eM_gulls_31 (k : Nat) (v1 : Int32) (v2 : Int64) (v4 : Int32) (v5 : Int32) (v6 : Int32) (σ : Sto) : R nM_gulls k 31 [.ref 30, .int v1, .long v2, .null, .int v4, .int v5, .int v6] [] σ =
  if v6 < (σ 30 0) then
    (C nM_isAt k [.ref 30, .int v6] σ).bind fun r1 =>
      if r1.1 = 0 then
        if inb (3 * v6) 18 = true then
          (C nM_hourOf k [.ref 30] (su r1.2.2 33 (3 * v6).toNatClampNeg (-1))).bind fun r2 =>
            if r2.1 = (-1) then
              R nM_gulls k 11 [.ref 30, .int v1, .long v2, .null, .int (v4 + 0), .int (v5 + 1), .int v6] [] r2.2.2
            else
              R nM_gulls k 11 [.ref 30, .int v1, .long v2, .null, .int (v4 + 1), .int (v5 + 1), .int v6] [] r2.2.2
        else
          none
      else
        if inb (3 * v6) 18 = true then
          (C nM_hourOf k [.ref 30] (su r1.2.2 33 (3 * v6).toNatClampNeg (Int64.toInt32 (v2 - v2 / 64 * 64)))).bind fun r2 =>
            if r2.1 = (-1) then
              R nM_gulls k 11 [.ref 30, .int v1, .long v2, .null, .int (v4 + 0), .int (v5 + 1), .int v6] [] r2.2.2
            else
              R nM_gulls k 11 [.ref 30, .int v1, .long v2, .null, .int (v4 + 1), .int (v5 + 1), .int v6] [] r2.2.2
        else
          none
  else
    (C nM_hourOf k [.ref 30] σ).bind fun r1 =>
      if r1.1 = (-1) then
        R nM_gulls k 11 [.ref 30, .int v1, .long v2, .null, .int (v4 + 0), .int (v5 + 1), .int v6] [] r1.2.2
      else
        R nM_gulls k 11 [.ref 30, .int v1, .long v2, .null, .int (v4 + 1), .int (v5 + 1), .int v6] [] r1.2.2 := (unr_R [11, 20, 25, 31] nM_gulls k 400 31 _ _ _).trans rfl
-- X5_drawn
theorem eM_drawn (k : Nat) (p1 : Int32) (p2 : Int32) (σ : Sto) : C nM_drawn k [.ref 30, .int p1, .int p2] σ =
  (C nM_in k [.int p1, .int 0, .int 99999] σ).bind fun r1 =>
    if r1.1 = 0 then
      some ((-2), 0, r1.2.2)
    else
      (C nM_in k [.int p2, .int 0, .int 1] r1.2.2).bind fun r2 =>
        if r2.1 = 0 then
          some ((-2), 0, r2.2.2)
        else
          (C nM_gulls k [.ref 30, .int p1] r2.2.2).bind fun r3 =>
            if p2 = 0 then
              some (r3.1, 0, r3.2.2)
            else
              some ((r3.2.2 30 31), 0, r3.2.2) := (unr_R [] nM_drawn k 400 0 _ _ _).trans rfl
-- X5_odds
theorem eM_odds (k : Nat) (p1 : Int32) (p2 : Int32) (p3 : Int32) (p4 : Int32) (σ : Sto) : C nM_odds k [.ref 30, .int p1, .int p2, .int p3, .int p4] σ =
  (C nM_in k [.int p1, .int 0, .int 99999] σ).bind fun r1 =>
    if r1.1 = 0 then
      some (0, (-4611686018427387904), r1.2.2)
    else
      (C nM_in k [.int p2, .int 1, .int 40] r1.2.2).bind fun r2 =>
        if r2.1 = 0 then
          some (0, (-4611686018427387904), r2.2.2)
        else
          (C nM_in k [.int p3, .int 0, .int 12] r2.2.2).bind fun r3 =>
            if r3.1 = 0 then
              some (0, (-4611686018427387904), r3.2.2)
            else
              (C nM_in k [.int p4, .int 0, .int 1] r3.2.2).bind fun r4 =>
                if r4.1 = 0 then
                  some (0, (-4611686018427387904), r4.2.2)
                else
                  R nM_odds k 26 [.ref 30, .int p1, .int p2, .int p3, .int p4, .long 0, .null, .int 0] [] r4.2.2 := (unr_R [26] nM_odds k 400 0 _ _ _).trans rfl
theorem eM_odds_26 (k : Nat) (v1 : Int32) (v2 : Int32) (v3 : Int32) (v4 : Int32) (v5 : Int64) (v7 : Int32) (σ : Sto) : R nM_odds k 26 [.ref 30, .int v1, .int v2, .int v3, .int v4, .long v5, .null, .int v7] [] σ =
  if v7 < v2 then
    (C nM_gulls k [.ref 30, .int (v1 + v7)] σ).bind fun r1 =>
      if r1.1 < v3 then
        R nM_odds k 26 [.ref 30, .int v1, .int v2, .int v3, .int v4, .long (v5 + 0), .null, .int (v7 + 1)] [] r1.2.2
      else
        R nM_odds k 26 [.ref 30, .int v1, .int v2, .int v3, .int v4, .long (v5 + 1), .null, .int (v7 + 1)] [] r1.2.2
  else
    (C nM_lowest k [.long v5, .long (Int32.toInt64 v2), .int v4] σ).bind fun r1 =>
      some (0, r1.2.1, r1.2.2) := (unr_R [26] nM_odds k 400 26 _ _ _).trans rfl
-- X5_image
theorem eM_image (k : Nat) (σ : Sto) : C nM_image k [.ref 30] σ =
  R nM_image k 5 [.ref 30, .int 0] [] (su σ 30 11 1) := (unr_R [5, 20] nM_image k 400 0 _ _ _).trans rfl
theorem eM_image_5 (k : Nat) (v1 : Int32) (σ : Sto) : R nM_image k 5 [.ref 30, .int v1] [] σ =
  if v1 < 18 then
    if inb v1 18 = true then
      if inb v1 22 = true then
        R nM_image k 5 [.ref 30, .int (v1 + 1)] [] (su σ 38 v1.toNatClampNeg (σ 33 v1.toNatClampNeg))
      else
        none
    else
      none
  else
    R nM_image k 20 [.ref 30, .int 0] [] σ := (unr_R [5, 20] nM_image k 400 5 _ _ _).trans rfl
theorem eM_image_20 (k : Nat) (v1 : Int32) (σ : Sto) : R nM_image k 20 [.ref 30, .int v1] [] σ =
  if v1 < 4 then
    if inb v1 4 = true then
      if inb (18 + v1) 22 = true then
        R nM_image k 20 [.ref 30, .int (v1 + 1)] [] (su σ 38 (18 + v1).toNatClampNeg (σ 34 v1.toNatClampNeg))
      else
        none
    else
      none
  else
    some (((su (su σ 39 (0 : Int32).toNatClampNeg (σ 30 0)) 39 (1 : Int32).toNatClampNeg ((su σ 39 (0 : Int32).toNatClampNeg (σ 30 0)) 30 10)) 30 0), 0, (su (su σ 39 (0 : Int32).toNatClampNeg (σ 30 0)) 39 (1 : Int32).toNatClampNeg ((su σ 39 (0 : Int32).toNatClampNeg (σ 30 0)) 30 10))) := (unr_R [5, 20] nM_image k 400 20 _ _ _).trans rfl
-- X5_back
theorem eM_back (k : Nat) (σ : Sto) : C nM_back k [.ref 30] σ =
  if (σ 30 11) = 0 then
    some ((-3), 0, σ)
  else
    R nM_back k 7 [.ref 30, .int 0] [] σ := (unr_R [7, 22] nM_back k 400 0 _ _ _).trans rfl
theorem eM_back_7 (k : Nat) (v1 : Int32) (σ : Sto) : R nM_back k 7 [.ref 30, .int v1] [] σ =
  if v1 < 18 then
    if inb v1 22 = true then
      if inb v1 18 = true then
        R nM_back k 7 [.ref 30, .int (v1 + 1)] [] (su σ 33 v1.toNatClampNeg (σ 38 v1.toNatClampNeg))
      else
        none
    else
      none
  else
    R nM_back k 22 [.ref 30, .int 0] [] σ := (unr_R [7, 22] nM_back k 400 7 _ _ _).trans rfl
theorem eM_back_22 (k : Nat) (v1 : Int32) (σ : Sto) : R nM_back k 22 [.ref 30, .int v1] [] σ =
  if v1 < 4 then
    if inb (18 + v1) 22 = true then
      if inb v1 4 = true then
        R nM_back k 22 [.ref 30, .int (v1 + 1)] [] (su σ 34 v1.toNatClampNeg (σ 38 (18 + v1).toNatClampNeg))
      else
        none
    else
      none
  else
    some (((su (su σ 30 0 (σ 39 (0 : Int32).toNatClampNeg)) 30 10 ((su σ 30 0 (σ 39 (0 : Int32).toNatClampNeg)) 39 (1 : Int32).toNatClampNeg)) 30 0), 0, (su (su σ 30 0 (σ 39 (0 : Int32).toNatClampNeg)) 30 10 ((su σ 30 0 (σ 39 (0 : Int32).toNatClampNeg)) 39 (1 : Int32).toNatClampNeg))) := (unr_R [7, 22] nM_back k 400 22 _ _ _).trans rfl
-- X5_sheet
theorem eM_sheet (k : Nat) (p1 : Int32) (p2 : Int32) (p3 : Int32) (σ : Sto) : C nM_sheet k [.ref 30, .int p1, .int p2, .int p3] σ =
  (C nM_in k [.int p1, .int 0, .int 3] σ).bind fun r1 =>
    if r1.1 = 0 then
      some ((-2), 0, r1.2.2)
    else
      (C nM_in k [.int p2, .int (-1), .int 2] r1.2.2).bind fun r2 =>
        if r2.1 = 0 then
          some ((-2), 0, r2.2.2)
        else
          if p2 = (-1) then
            if p2 = (-1) then
              R nM_sheet k 25 [.ref 30, .int p1, .int p2, .int p3, .null] [] r2.2.2
            else
              if p3 < 0 then
                some ((-14), 0, r2.2.2)
              else
                R nM_sheet k 25 [.ref 30, .int p1, .int p2, .int p3, .null] [] r2.2.2
          else
            if 40 < p3 then
              some ((-2), 0, r2.2.2)
            else
              if p2 = (-1) then
                R nM_sheet k 25 [.ref 30, .int p1, .int p2, .int p3, .null] [] r2.2.2
              else
                if p3 < 0 then
                  some ((-14), 0, r2.2.2)
                else
                  R nM_sheet k 25 [.ref 30, .int p1, .int p2, .int p3, .null] [] r2.2.2 := (unr_R [25, 42] nM_sheet k 400 0 _ _ _).trans rfl
theorem eM_sheet_25 (k : Nat) (v1 : Int32) (v2 : Int32) (v3 : Int32) (σ : Sto) : R nM_sheet k 25 [.ref 30, .int v1, .int v2, .int v3, .null] [] σ =
  if inb v1 4 = true then
    if v2 = (-1) then
      if inb v1 4 = true then
        R nM_sheet k 42 [.ref 30, .int v1, .int v2, .int v3, .int 0] [] (su (su σ 40 v1.toNatClampNeg v2) 41 v1.toNatClampNeg 0)
      else
        none
    else
      if inb v1 4 = true then
        R nM_sheet k 42 [.ref 30, .int v1, .int v2, .int v3, .int 0] [] (su (su σ 40 v1.toNatClampNeg v2) 41 v1.toNatClampNeg v3)
      else
        none
  else
    none := (unr_R [25, 42] nM_sheet k 400 25 _ _ _).trans rfl
theorem eM_sheet_42 (k : Nat) (v1 : Int32) (v2 : Int32) (v3 : Int32) (v4 : Int32) (σ : Sto) : R nM_sheet k 42 [.ref 30, .int v1, .int v2, .int v3, .int v4] [] σ =
  if v4 < 40 then
    if inb ((40 * v1) + v4) 160 = true then
      R nM_sheet k 42 [.ref 30, .int v1, .int v2, .int v3, .int (v4 + 1)] [] (su σ 42 ((40 * v1) + v4).toNatClampNeg 0)
    else
      none
  else
    some (1, 0, σ) := (unr_R [25, 42] nM_sheet k 400 42 _ _ _).trans rfl
-- X5_cell
set_option maxRecDepth 1000000 in
theorem eM_cell (k : Nat) (p1 : Int32) (p2 : Int32) (p3 : Int32) (σ : Sto) : C nM_cell k [.ref 30, .int p1, .int p2, .int p3] σ =
  (C nM_in k [.int p1, .int 0, .int 3] σ).bind fun r1 =>
    if r1.1 = 0 then
      some ((-2), 0, r1.2.2)
    else
      if inb p1 4 = true then
        if (r1.2.2 40 p1.toNatClampNeg) = (-1) then
          some ((-11), 0, r1.2.2)
        else
          if inb p1 4 = true then
            (C nM_in k [.int p2, .int 0, .int ((r1.2.2 41 p1.toNatClampNeg) - 1)] r1.2.2).bind fun r2 =>
              if r2.1 = 0 then
                some ((-12), 0, r2.2.2)
              else
                if inb p1 4 = true then
                  if (r2.2.2 40 p1.toNatClampNeg) = 0 then
                    if inb ((40 * p1) + p2) 160 = true then
                      some (1, 0, (su r2.2.2 42 ((40 * p1) + p2).toNatClampNeg ((Int32.toInt8 p3).toInt32)))
                    else
                      none
                  else
                    if inb p1 4 = true then
                      if (r2.2.2 40 p1.toNatClampNeg) = 1 then
                        if inb ((40 * p1) + p2) 160 = true then
                          some (1, 0, (su r2.2.2 42 ((40 * p1) + p2).toNatClampNeg ((Int32.toInt16 p3).toInt32)))
                        else
                          none
                      else
                        if inb ((40 * p1) + p2) 160 = true then
                          some (1, 0, (su r2.2.2 42 ((40 * p1) + p2).toNatClampNeg p3))
                        else
                          none
                    else
                      none
                else
                  none
          else
            none
      else
        none := (unr_R [] nM_cell k 400 0 _ _ _).trans rfl
-- X5_copy
set_option maxRecDepth 1000000 in
theorem eM_copy (k : Nat) (p1 : Int32) (p2 : Int32) (p3 : Int32) (p4 : Int32) (p5 : Int32) (σ : Sto) : C nM_copy k [.ref 30, .int p1, .int p2, .int p3, .int p4, .int p5] σ =
  (C nM_in k [.int p1, .int 0, .int 3] σ).bind fun r1 =>
    if r1.1 = 0 then
      R nM_copy k 10 [.ref 30, .int p1, .int p2, .int p3, .int p4, .int p5, .null, .null, .null, .null] [] r1.2.2
    else
      (C nM_in k [.int p3, .int 0, .int 3] r1.2.2).bind fun r2 =>
        if r2.1 = 0 then
          R nM_copy k 10 [.ref 30, .int p1, .int p2, .int p3, .int p4, .int p5, .null, .null, .null, .null] [] r2.2.2
        else
          if inb p1 4 = true then
            if (r2.2.2 40 p1.toNatClampNeg) = (-1) then
              R nM_copy k 24 [.ref 30, .int p1, .int p2, .int p3, .int p4, .int p5, .null, .null, .null, .null] [] r2.2.2
            else
              if inb p3 4 = true then
                if (r2.2.2 40 p3.toNatClampNeg) = (-1) then
                  R nM_copy k 24 [.ref 30, .int p1, .int p2, .int p3, .int p4, .int p5, .null, .null, .null, .null] [] r2.2.2
                else
                  if inb p1 4 = true then
                    if inb p3 4 = true then
                      if (r2.2.2 40 p1.toNatClampNeg) = (r2.2.2 40 p3.toNatClampNeg) then
                        if p5 < 0 then
                          R nM_copy k 71 [.ref 30, .int p1, .int p2, .int p3, .int p4, .int p5, .null, .null, .null, .null] [] r2.2.2
                        else
                          if p2 < 0 then
                            R nM_copy k 71 [.ref 30, .int p1, .int p2, .int p3, .int p4, .int p5, .null, .null, .null, .null] [] r2.2.2
                          else
                            if p4 < 0 then
                              R nM_copy k 71 [.ref 30, .int p1, .int p2, .int p3, .int p4, .int p5, .null, .null, .null, .null] [] r2.2.2
                            else
                              if inb p1 4 = true then
                                if (r2.2.2 41 p1.toNatClampNeg) < p2 then
                                  R nM_copy k 71 [.ref 30, .int p1, .int p2, .int p3, .int p4, .int p5, .null, .null, .null, .null] [] r2.2.2
                                else
                                  if inb p3 4 = true then
                                    if (r2.2.2 41 p3.toNatClampNeg) < p4 then
                                      R nM_copy k 71 [.ref 30, .int p1, .int p2, .int p3, .int p4, .int p5, .null, .null, .null, .null] [] r2.2.2
                                    else
                                      if inb p1 4 = true then
                                        if ((r2.2.2 41 p1.toNatClampNeg) - p2) < p5 then
                                          R nM_copy k 71 [.ref 30, .int p1, .int p2, .int p3, .int p4, .int p5, .null, .null, .null, .null] [] r2.2.2
                                        else
                                          if inb p3 4 = true then
                                            if ((r2.2.2 41 p3.toNatClampNeg) - p4) < p5 then
                                              R nM_copy k 71 [.ref 30, .int p1, .int p2, .int p3, .int p4, .int p5, .null, .null, .null, .null] [] r2.2.2
                                            else
                                              R nM_copy k 87 [.ref 30, .int p1, .int p2, .int p3, .int p4, .int p5, .int ((40 * p1) + p2), .int ((40 * p3) + p4), .int 0, .null] [] r2.2.2
                                          else
                                            none
                                      else
                                        none
                                  else
                                    none
                              else
                                none
                      else
                        some ((-13), 0, r2.2.2)
                    else
                      none
                  else
                    none
              else
                none
          else
            none := (unr_R [10, 24, 71, 87, 100] nM_copy k 400 0 _ _ _).trans rfl
theorem eM_copy_10 (k : Nat) (v1 : Int32) (v2 : Int32) (v3 : Int32) (v4 : Int32) (v5 : Int32) (σ : Sto) : R nM_copy k 10 [.ref 30, .int v1, .int v2, .int v3, .int v4, .int v5, .null, .null, .null, .null] [] σ =
  some ((-2), 0, σ) := (unr_R [10, 24, 71, 87, 100] nM_copy k 400 10 _ _ _).trans rfl
theorem eM_copy_24 (k : Nat) (v1 : Int32) (v2 : Int32) (v3 : Int32) (v4 : Int32) (v5 : Int32) (σ : Sto) : R nM_copy k 24 [.ref 30, .int v1, .int v2, .int v3, .int v4, .int v5, .null, .null, .null, .null] [] σ =
  some ((-11), 0, σ) := (unr_R [10, 24, 71, 87, 100] nM_copy k 400 24 _ _ _).trans rfl
theorem eM_copy_71 (k : Nat) (v1 : Int32) (v2 : Int32) (v3 : Int32) (v4 : Int32) (v5 : Int32) (σ : Sto) : R nM_copy k 71 [.ref 30, .int v1, .int v2, .int v3, .int v4, .int v5, .null, .null, .null, .null] [] σ =
  some ((-12), 0, σ) := (unr_R [10, 24, 71, 87, 100] nM_copy k 400 71 _ _ _).trans rfl
theorem eM_copy_87 (k : Nat) (v1 : Int32) (v2 : Int32) (v3 : Int32) (v4 : Int32) (v5 : Int32) (v6 : Int32) (v7 : Int32) (v8 : Int32) (u9 : Value) (σ : Sto) : R nM_copy k 87 [.ref 30, .int v1, .int v2, .int v3, .int v4, .int v5, .int v6, .int v7, .int v8, u9] [] σ =
  if v8 < v5 then
    if v6 < v7 then
      R nM_copy k 100 [.ref 30, .int v1, .int v2, .int v3, .int v4, .int v5, .int v6, .int v7, .int v8, u9] [.int ((v5 - 1) - v8)] σ
    else
      R nM_copy k 100 [.ref 30, .int v1, .int v2, .int v3, .int v4, .int v5, .int v6, .int v7, .int v8, u9] [.int v8] σ
  else
    some (v5, 0, σ) := (unr_R [10, 24, 71, 87, 100] nM_copy k 400 87 _ _ _).trans rfl
theorem eM_copy_100 (k : Nat) (v1 : Int32) (v2 : Int32) (v3 : Int32) (v4 : Int32) (v5 : Int32) (v6 : Int32) (v7 : Int32) (v8 : Int32) (u9 : Value) (s0 : Int32) (σ : Sto) : R nM_copy k 100 [.ref 30, .int v1, .int v2, .int v3, .int v4, .int v5, .int v6, .int v7, .int v8, u9] [.int s0] σ =
  if inb (v6 + s0) 160 = true then
    if inb (v7 + s0) 160 = true then
      R nM_copy k 87 [.ref 30, .int v1, .int v2, .int v3, .int v4, .int v5, .int v6, .int v7, .int (v8 + 1), .int s0] [] (su σ 42 (v7 + s0).toNatClampNeg (σ 42 (v6 + s0).toNatClampNeg))
    else
      none
  else
    none := (unr_R [10, 24, 71, 87, 100] nM_copy k 400 100 _ _ _).trans rfl
-- X5_peopleBy
theorem eM_peopleBy (k : Nat) (p1 : Int32) (p2 : Int32) (p3 : Int32) (p4 : Int32) (σ : Sto) : C nM_peopleBy k [.ref 30, .int p1, .int p2, .int p3, .int p4] σ =
  (C nM_in k [.int p1, .int 0, .int 3] σ).bind fun r1 =>
    if r1.1 = 0 then
      some ((-2), 0, r1.2.2)
    else
      (C nM_in k [.int p2, .int 0, .int 2] r1.2.2).bind fun r2 =>
        if r2.1 = 0 then
          some ((-2), 0, r2.2.2)
        else
          (C nM_in k [.int p4, .int 0, .int 6] r2.2.2).bind fun r3 =>
            if r3.1 = 0 then
              some ((-2), 0, r3.2.2)
            else
              if inb p1 4 = true then
                if (r3.2.2 40 p1.toNatClampNeg) = (-1) then
                  some ((-11), 0, r3.2.2)
                else
                  if inb p1 4 = true then
                    if (r3.2.2 40 p1.toNatClampNeg) = p2 then
                      R nM_peopleBy k 37 [.ref 30, .int p1, .int p2, .int p3, .int p4, .int 0, .int 0, .null, .null] [] r3.2.2
                    else
                      some ((-13), 0, r3.2.2)
                  else
                    none
              else
                none := (unr_R [37] nM_peopleBy k 400 0 _ _ _).trans rfl
theorem eM_peopleBy_37 (k : Nat) (v1 : Int32) (v2 : Int32) (v3 : Int32) (v4 : Int32) (v5 : Int32) (v6 : Int32) (u7 : Value) (u8 : Value) (σ : Sto) : R nM_peopleBy k 37 [.ref 30, .int v1, .int v2, .int v3, .int v4, .int v5, .int v6, u7, u8] [] σ =
  if v6 < v4 then
    if v3 < 0 then
      some ((-12), 0, σ)
    else
      if (v3 + (2 * v6)) < v3 then
        some ((-12), 0, σ)
      else
        if inb v1 4 = true then
          if ((σ 41 v1.toNatClampNeg) - 2) < (v3 + (2 * v6)) then
            some ((-12), 0, σ)
          else
            if inb ((40 * v1) + (v3 + (2 * v6))) 160 = true then
              if inb (((40 * v1) + (v3 + (2 * v6))) + 1) 160 = true then
                (C nM_traveller k [.ref 30, .int (σ 42 ((40 * v1) + (v3 + (2 * v6))).toNatClampNeg), .int (σ 42 (((40 * v1) + (v3 + (2 * v6))) + 1).toNatClampNeg)] σ).bind fun r1 =>
                  if r1.1 < 0 then
                    R nM_peopleBy k 37 [.ref 30, .int v1, .int v2, .int v3, .int v4, .int (v5 + 0), .int (v6 + 1), .int (v3 + (2 * v6)), .int ((40 * v1) + (v3 + (2 * v6)))] [] r1.2.2
                  else
                    R nM_peopleBy k 37 [.ref 30, .int v1, .int v2, .int v3, .int v4, .int (v5 + 1), .int (v6 + 1), .int (v3 + (2 * v6)), .int ((40 * v1) + (v3 + (2 * v6)))] [] r1.2.2
              else
                none
            else
              none
        else
          none
  else
    some (v5, 0, σ) := (unr_R [37] nM_peopleBy k 400 37 _ _ _).trans rfl
-- X5_isUnder
theorem eM_isUnder (k : Nat) (p1 : Int32) (p2 : Int32) (σ : Sto) : C nM_isUnder k [.int p1, .int p2] σ =
  if p2 = 0 then
    some (1, 0, σ)
  else
    if p1 = p2 then
      some (1, 0, σ)
    else
      if p2 = 1 then
        if p1 = 3 then
          some (1, 0, σ)
        else
          if p2 = 2 then
            if p1 = 4 then
              some (1, 0, σ)
            else
              some (0, 0, σ)
          else
            some (0, 0, σ)
      else
        if p2 = 2 then
          if p1 = 4 then
            some (1, 0, σ)
          else
            some (0, 0, σ)
        else
          some (0, 0, σ) := (unr_R [] nM_isUnder k 400 0 _ _ _).trans rfl
-- X5_taken
theorem eM_taken (k : Nat) (p1 : Int32) (p2 : Int32) (σ : Sto) : C nM_taken k [.ref 30, .int p1, .int p2] σ =
  (C nM_in k [.int p2, .int 0, .int 6] σ).bind fun r1 =>
    if r1.1 = 0 then
      some ((-2), 0, r1.2.2)
    else
      (C nM_in k [.int p1, .int 0, .int 11] r1.2.2).bind fun r2 =>
        if r2.1 = 0 then
          some ((-12), 0, r2.2.2)
        else
          if (p1 - p1 / 6 * 6) < (r2.2.2 30 0) then
            if p1 < 6 then
              if p2 < 6 then
                if inb p1 6 = true then
                  (C nM_isUnder k [.int (r2.2.2 31 p1.toNatClampNeg), .int p2] r2.2.2).bind fun r3 =>
                    if r3.1 = 0 then
                      some ((-13), 0, r3.2.2)
                    else
                      some (p1, 0, r3.2.2)
                else
                  none
              else
                some ((-13), 0, r2.2.2)
            else
              if p2 = 6 then
                if inb ((3 * (p1 - 6)) + 2) 18 = true then
                  some ((r2.2.2 33 ((3 * (p1 - 6)) + 2).toNatClampNeg), 0, r2.2.2)
                else
                  none
              else
                some ((-13), 0, r2.2.2)
          else
            some ((-11), 0, r2.2.2) := (unr_R [] nM_taken k 400 0 _ _ _).trans rfl
end
section
/-! EQUATIONS of the methods 185 .. 185 -/
-- L_law
set_option maxRecDepth 1000000 in
theorem eL_law_10 (k : Nat) (v3 : Int32) (σ : Sto) : R nL_law k 10 [.ref 99, .ref 0, .ref 30, .int v3] [] σ =
  if ((σ 98 0) - 7) < v3 then
    some (1, 0, σ)
  else
    if inb v3 (σ 98 0).toNatClampNeg = true then
      if ((σ 99 v3.toNatClampNeg) &&& 63) = 0 then
        R nL_law k 22 [.ref 99, .ref 0, .ref 30, .int v3] [] σ
      else
        if ((σ 99 v3.toNatClampNeg) &&& 63) = 1 then
          R nL_law k 39 [.ref 99, .ref 0, .ref 30, .int v3] [] σ
        else
          if ((σ 99 v3.toNatClampNeg) &&& 63) = 2 then
            R nL_law k 66 [.ref 99, .ref 0, .ref 30, .int v3] [] σ
          else
            if ((σ 99 v3.toNatClampNeg) &&& 63) = 3 then
              R nL_law k 83 [.ref 99, .ref 0, .ref 30, .int v3] [] σ
            else
              if ((σ 99 v3.toNatClampNeg) &&& 63) = 4 then
                R nL_law k 150 [.ref 99, .ref 0, .ref 30, .int v3] [] σ
              else
                if ((σ 99 v3.toNatClampNeg) &&& 63) = 5 then
                  R nL_law k 157 [.ref 99, .ref 0, .ref 30, .int v3] [] σ
                else
                  if ((σ 99 v3.toNatClampNeg) &&& 63) = 6 then
                    R nL_law k 174 [.ref 99, .ref 0, .ref 30, .int v3] [] σ
                  else
                    if ((σ 99 v3.toNatClampNeg) &&& 63) = 7 then
                      R nL_law k 201 [.ref 99, .ref 0, .ref 30, .int v3] [] σ
                    else
                      if ((σ 99 v3.toNatClampNeg) &&& 63) = 8 then
                        R nL_law k 228 [.ref 99, .ref 0, .ref 30, .int v3] [] σ
                      else
                        if ((σ 99 v3.toNatClampNeg) &&& 63) = 9 then
                          R nL_law k 265 [.ref 99, .ref 0, .ref 30, .int v3] [] σ
                        else
                          if ((σ 99 v3.toNatClampNeg) &&& 63) = 10 then
                            R nL_law k 292 [.ref 99, .ref 0, .ref 30, .int v3] [] σ
                          else
                            if ((σ 99 v3.toNatClampNeg) &&& 63) = 11 then
                              R nL_law k 299 [.ref 99, .ref 0, .ref 30, .int v3] [] σ
                            else
                              if ((σ 99 v3.toNatClampNeg) &&& 63) = 12 then
                                R nL_law k 326 [.ref 99, .ref 0, .ref 30, .int v3] [] σ
                              else
                                if ((σ 99 v3.toNatClampNeg) &&& 63) = 13 then
                                  R nL_law k 353 [.ref 99, .ref 0, .ref 30, .int v3] [] σ
                                else
                                  if ((σ 99 v3.toNatClampNeg) &&& 63) = 14 then
                                    R nL_law k 380 [.ref 99, .ref 0, .ref 30, .int v3] [] σ
                                  else
                                    if ((σ 99 v3.toNatClampNeg) &&& 63) = 15 then
                                      R nL_law k 407 [.ref 99, .ref 0, .ref 30, .int v3] [] σ
                                    else
                                      if ((σ 99 v3.toNatClampNeg) &&& 63) = 16 then
                                        R nL_law k 434 [.ref 99, .ref 0, .ref 30, .int v3] [] σ
                                      else
                                        if ((σ 99 v3.toNatClampNeg) &&& 63) = 17 then
                                          R nL_law k 461 [.ref 99, .ref 0, .ref 30, .int v3] [] σ
                                        else
                                          if ((σ 99 v3.toNatClampNeg) &&& 63) = 18 then
                                            R nL_law k 478 [.ref 99, .ref 0, .ref 30, .int v3] [] σ
                                          else
                                            if ((σ 99 v3.toNatClampNeg) &&& 63) = 19 then
                                              R nL_law k 495 [.ref 99, .ref 0, .ref 30, .int v3] [] σ
                                            else
                                              if ((σ 99 v3.toNatClampNeg) &&& 63) = 20 then
                                                R nL_law k 513 [.ref 99, .ref 0, .ref 30, .int v3] [] σ
                                              else
                                                if ((σ 99 v3.toNatClampNeg) &&& 63) = 21 then
                                                  R nL_law k 530 [.ref 99, .ref 0, .ref 30, .int v3] [] σ
                                                else
                                                  if ((σ 99 v3.toNatClampNeg) &&& 63) = 22 then
                                                    R nL_law k 567 [.ref 99, .ref 0, .ref 30, .int v3] [] σ
                                                  else
                                                    if ((σ 99 v3.toNatClampNeg) &&& 63) = 23 then
                                                      R nL_law k 595 [.ref 99, .ref 0, .ref 30, .int v3] [] σ
                                                    else
                                                      if ((σ 99 v3.toNatClampNeg) &&& 63) = 24 then
                                                        R nL_law k 612 [.ref 99, .ref 0, .ref 30, .int v3] [] σ
                                                      else
                                                        if ((σ 99 v3.toNatClampNeg) &&& 63) = 25 then
                                                          R nL_law k 649 [.ref 99, .ref 0, .ref 30, .int v3] [] σ
                                                        else
                                                          if ((σ 99 v3.toNatClampNeg) &&& 63) = 26 then
                                                            R nL_law k 666 [.ref 99, .ref 0, .ref 30, .int v3] [] σ
                                                          else
                                                            if ((σ 99 v3.toNatClampNeg) &&& 63) = 27 then
                                                              R nL_law k 693 [.ref 99, .ref 0, .ref 30, .int v3] [] σ
                                                            else
                                                              if ((σ 99 v3.toNatClampNeg) &&& 63) = 28 then
                                                                R nL_law k 720 [.ref 99, .ref 0, .ref 30, .int v3] [] σ
                                                              else
                                                                if ((σ 99 v3.toNatClampNeg) &&& 63) = 29 then
                                                                  R nL_law k 768 [.ref 99, .ref 0, .ref 30, .int v3] [] σ
                                                                else
                                                                  if ((σ 99 v3.toNatClampNeg) &&& 63) = 30 then
                                                                    R nL_law k 775 [.ref 99, .ref 0, .ref 30, .int v3] [] σ
                                                                  else
                                                                    if ((σ 99 v3.toNatClampNeg) &&& 63) = 31 then
                                                                      R nL_law k 782 [.ref 99, .ref 0, .ref 30, .int v3] [] σ
                                                                    else
                                                                      if ((σ 99 v3.toNatClampNeg) &&& 63) = 32 then
                                                                        R nL_law k 819 [.ref 99, .ref 0, .ref 30, .int v3] [] σ
                                                                      else
                                                                        if ((σ 99 v3.toNatClampNeg) &&& 63) = 33 then
                                                                          R nL_law k 856 [.ref 99, .ref 0, .ref 30, .int v3] [] σ
                                                                        else
                                                                          if ((σ 99 v3.toNatClampNeg) &&& 63) = 34 then
                                                                            R nL_law k 913 [.ref 99, .ref 0, .ref 30, .int v3] [] σ
                                                                          else
                                                                            if ((σ 99 v3.toNatClampNeg) &&& 63) = 35 then
                                                                              R nL_law k 960 [.ref 99, .ref 0, .ref 30, .int v3] [] σ
                                                                            else
                                                                              R nL_law k 987 [.ref 99, .ref 0, .ref 30, .int v3] [] σ
    else
      none := (unr_R [10, 22, 39, 66, 83, 150, 157, 174, 201, 228, 265, 292, 299, 326, 353, 380, 407, 434, 461, 478, 495, 513, 530, 567, 595, 612, 649, 666, 693, 720, 768, 775, 782, 819, 856, 913, 960, 987] nL_law k 400 10 _ _ _).trans rfl
theorem eL_law_22 (k : Nat) (v3 : Int32) (σ : Sto) : R nL_law k 22 [.ref 99, .ref 0, .ref 30, .int v3] [] σ =
  if inb (v3 + 1) (σ 98 0).toNatClampNeg = true then
    (C nF_count k [.ref 0, .int (σ 99 (v3 + 1).toNatClampNeg)] σ).bind fun r1 =>
      if inb (v3 + 1) (r1.2.2 98 0).toNatClampNeg = true then
        (C nM_count k [.ref 30, .int (r1.2.2 99 (v3 + 1).toNatClampNeg)] r1.2.2).bind fun r2 =>
          if r1.1 = r2.1 then
            R nL_law k 987 [.ref 99, .ref 0, .ref 30, .int v3] [] r2.2.2
          else
            some (0, 0, r2.2.2)
      else
        none
  else
    none := (unr_R [10, 22, 39, 66, 83, 150, 157, 174, 201, 228, 265, 292, 299, 326, 353, 380, 407, 434, 461, 478, 495, 513, 530, 567, 595, 612, 649, 666, 693, 720, 768, 775, 782, 819, 856, 913, 960, 987] nL_law k 400 22 _ _ _).trans rfl
theorem eL_law_39 (k : Nat) (v3 : Int32) (σ : Sto) : R nL_law k 39 [.ref 99, .ref 0, .ref 30, .int v3] [] σ =
  if inb (v3 + 1) (σ 98 0).toNatClampNeg = true then
    if inb (v3 + 2) (σ 98 0).toNatClampNeg = true then
      (C nF_bay k [.ref 0, .int (σ 99 (v3 + 1).toNatClampNeg), .int (σ 99 (v3 + 2).toNatClampNeg)] σ).bind fun r1 =>
        if inb (v3 + 1) (r1.2.2 98 0).toNatClampNeg = true then
          if inb (v3 + 2) (r1.2.2 98 0).toNatClampNeg = true then
            (C nM_bay k [.ref 30, .int (r1.2.2 99 (v3 + 1).toNatClampNeg), .int (r1.2.2 99 (v3 + 2).toNatClampNeg)] r1.2.2).bind fun r2 =>
              if r1.1 = r2.1 then
                R nL_law k 987 [.ref 99, .ref 0, .ref 30, .int v3] [] r2.2.2
              else
                some (0, 0, r2.2.2)
          else
            none
        else
          none
    else
      none
  else
    none := (unr_R [10, 22, 39, 66, 83, 150, 157, 174, 201, 228, 265, 292, 299, 326, 353, 380, 407, 434, 461, 478, 495, 513, 530, 567, 595, 612, 649, 666, 693, 720, 768, 775, 782, 819, 856, 913, 960, 987] nL_law k 400 39 _ _ _).trans rfl
theorem eL_law_66 (k : Nat) (v3 : Int32) (σ : Sto) : R nL_law k 66 [.ref 99, .ref 0, .ref 30, .int v3] [] σ =
  if inb (v3 + 1) (σ 98 0).toNatClampNeg = true then
    (C nF_ferry k [.ref 0, .int (σ 99 (v3 + 1).toNatClampNeg)] σ).bind fun r1 =>
      if inb (v3 + 1) (r1.2.2 98 0).toNatClampNeg = true then
        (C nM_ferry k [.ref 30, .int (r1.2.2 99 (v3 + 1).toNatClampNeg)] r1.2.2).bind fun r2 =>
          if r1.1 = r2.1 then
            R nL_law k 987 [.ref 99, .ref 0, .ref 30, .int v3] [] r2.2.2
          else
            some (0, 0, r2.2.2)
      else
        none
  else
    none := (unr_R [10, 22, 39, 66, 83, 150, 157, 174, 201, 228, 265, 292, 299, 326, 353, 380, 407, 434, 461, 478, 495, 513, 530, 567, 595, 612, 649, 666, 693, 720, 768, 775, 782, 819, 856, 913, 960, 987] nL_law k 400 66 _ _ _).trans rfl
set_option maxRecDepth 1000000 in
theorem eL_law_83 (k : Nat) (v3 : Int32) (σ : Sto) : R nL_law k 83 [.ref 99, .ref 0, .ref 30, .int v3] [] σ =
  if inb (v3 + 1) (σ 98 0).toNatClampNeg = true then
    if inb (v3 + 2) (σ 98 0).toNatClampNeg = true then
      if inb (v3 + 3) (σ 98 0).toNatClampNeg = true then
        if inb (v3 + 4) (σ 98 0).toNatClampNeg = true then
          if inb (v3 + 5) (σ 98 0).toNatClampNeg = true then
            if inb (v3 + 6) (σ 98 0).toNatClampNeg = true then
              (C nF_feed k [.ref 0, .int (σ 99 (v3 + 1).toNatClampNeg), .int (σ 99 (v3 + 2).toNatClampNeg), .int (σ 99 (v3 + 3).toNatClampNeg), .int (σ 99 (v3 + 4).toNatClampNeg), .int (σ 99 (v3 + 5).toNatClampNeg), .int (σ 99 (v3 + 6).toNatClampNeg)] σ).bind fun r1 =>
                if inb (v3 + 1) (r1.2.2 98 0).toNatClampNeg = true then
                  if inb (v3 + 2) (r1.2.2 98 0).toNatClampNeg = true then
                    if inb (v3 + 3) (r1.2.2 98 0).toNatClampNeg = true then
                      if inb (v3 + 4) (r1.2.2 98 0).toNatClampNeg = true then
                        if inb (v3 + 5) (r1.2.2 98 0).toNatClampNeg = true then
                          if inb (v3 + 6) (r1.2.2 98 0).toNatClampNeg = true then
                            (C nM_feed k [.ref 30, .int (r1.2.2 99 (v3 + 1).toNatClampNeg), .int (r1.2.2 99 (v3 + 2).toNatClampNeg), .int (r1.2.2 99 (v3 + 3).toNatClampNeg), .int (r1.2.2 99 (v3 + 4).toNatClampNeg), .int (r1.2.2 99 (v3 + 5).toNatClampNeg), .int (r1.2.2 99 (v3 + 6).toNatClampNeg)] r1.2.2).bind fun r2 =>
                              if r1.1 = r2.1 then
                                R nL_law k 987 [.ref 99, .ref 0, .ref 30, .int v3] [] r2.2.2
                              else
                                some (0, 0, r2.2.2)
                          else
                            none
                        else
                          none
                      else
                        none
                    else
                      none
                  else
                    none
                else
                  none
            else
              none
          else
            none
        else
          none
      else
        none
    else
      none
  else
    none := (unr_R [10, 22, 39, 66, 83, 150, 157, 174, 201, 228, 265, 292, 299, 326, 353, 380, 407, 434, 461, 478, 495, 513, 530, 567, 595, 612, 649, 666, 693, 720, 768, 775, 782, 819, 856, 913, 960, 987] nL_law k 400 83 _ _ _).trans rfl
theorem eL_law_150 (k : Nat) (v3 : Int32) (σ : Sto) : R nL_law k 150 [.ref 99, .ref 0, .ref 30, .int v3] [] σ =
  (C nF_text k [.ref 0] σ).bind fun r1 =>
    (C nM_text k [.ref 30] r1.2.2).bind fun r2 =>
      if r1.1 = r2.1 then
        R nL_law k 987 [.ref 99, .ref 0, .ref 30, .int v3] [] r2.2.2
      else
        some (0, 0, r2.2.2) := (unr_R [10, 22, 39, 66, 83, 150, 157, 174, 201, 228, 265, 292, 299, 326, 353, 380, 407, 434, 461, 478, 495, 513, 530, 567, 595, 612, 649, 666, 693, 720, 768, 775, 782, 819, 856, 913, 960, 987] nL_law k 400 150 _ _ _).trans rfl
theorem eL_law_157 (k : Nat) (v3 : Int32) (σ : Sto) : R nL_law k 157 [.ref 99, .ref 0, .ref 30, .int v3] [] σ =
  if inb (v3 + 1) (σ 98 0).toNatClampNeg = true then
    (C nF_force k [.ref 0, .int (σ 99 (v3 + 1).toNatClampNeg)] σ).bind fun r1 =>
      if inb (v3 + 1) (r1.2.2 98 0).toNatClampNeg = true then
        (C nM_force k [.ref 30, .int (r1.2.2 99 (v3 + 1).toNatClampNeg)] r1.2.2).bind fun r2 =>
          if r1.1 = r2.1 then
            R nL_law k 987 [.ref 99, .ref 0, .ref 30, .int v3] [] r2.2.2
          else
            some (0, 0, r2.2.2)
      else
        none
  else
    none := (unr_R [10, 22, 39, 66, 83, 150, 157, 174, 201, 228, 265, 292, 299, 326, 353, 380, 407, 434, 461, 478, 495, 513, 530, 567, 595, 612, 649, 666, 693, 720, 768, 775, 782, 819, 856, 913, 960, 987] nL_law k 400 157 _ _ _).trans rfl
theorem eL_law_174 (k : Nat) (v3 : Int32) (σ : Sto) : R nL_law k 174 [.ref 99, .ref 0, .ref 30, .int v3] [] σ =
  if inb (v3 + 1) (σ 98 0).toNatClampNeg = true then
    if inb (v3 + 2) (σ 98 0).toNatClampNeg = true then
      (C nF_asks k [.ref 0, .int (σ 99 (v3 + 1).toNatClampNeg), .int (σ 99 (v3 + 2).toNatClampNeg)] σ).bind fun r1 =>
        if inb (v3 + 1) (r1.2.2 98 0).toNatClampNeg = true then
          if inb (v3 + 2) (r1.2.2 98 0).toNatClampNeg = true then
            (C nM_asks k [.ref 30, .int (r1.2.2 99 (v3 + 1).toNatClampNeg), .int (r1.2.2 99 (v3 + 2).toNatClampNeg)] r1.2.2).bind fun r2 =>
              if r1.1 = r2.1 then
                R nL_law k 987 [.ref 99, .ref 0, .ref 30, .int v3] [] r2.2.2
              else
                some (0, 0, r2.2.2)
          else
            none
        else
          none
    else
      none
  else
    none := (unr_R [10, 22, 39, 66, 83, 150, 157, 174, 201, 228, 265, 292, 299, 326, 353, 380, 407, 434, 461, 478, 495, 513, 530, 567, 595, 612, 649, 666, 693, 720, 768, 775, 782, 819, 856, 913, 960, 987] nL_law k 400 174 _ _ _).trans rfl
theorem eL_law_201 (k : Nat) (v3 : Int32) (σ : Sto) : R nL_law k 201 [.ref 99, .ref 0, .ref 30, .int v3] [] σ =
  if inb (v3 + 1) (σ 98 0).toNatClampNeg = true then
    if inb (v3 + 2) (σ 98 0).toNatClampNeg = true then
      (C nF_traveller k [.ref 0, .int (σ 99 (v3 + 1).toNatClampNeg), .int (σ 99 (v3 + 2).toNatClampNeg)] σ).bind fun r1 =>
        if inb (v3 + 1) (r1.2.2 98 0).toNatClampNeg = true then
          if inb (v3 + 2) (r1.2.2 98 0).toNatClampNeg = true then
            (C nM_traveller k [.ref 30, .int (r1.2.2 99 (v3 + 1).toNatClampNeg), .int (r1.2.2 99 (v3 + 2).toNatClampNeg)] r1.2.2).bind fun r2 =>
              if r1.1 = r2.1 then
                R nL_law k 987 [.ref 99, .ref 0, .ref 30, .int v3] [] r2.2.2
              else
                some (0, 0, r2.2.2)
          else
            none
        else
          none
    else
      none
  else
    none := (unr_R [10, 22, 39, 66, 83, 150, 157, 174, 201, 228, 265, 292, 299, 326, 353, 380, 407, 434, 461, 478, 495, 513, 530, 567, 595, 612, 649, 666, 693, 720, 768, 775, 782, 819, 856, 913, 960, 987] nL_law k 400 201 _ _ _).trans rfl
theorem eL_law_228 (k : Nat) (v3 : Int32) (σ : Sto) : R nL_law k 228 [.ref 99, .ref 0, .ref 30, .int v3] [] σ =
  if inb (v3 + 1) (σ 98 0).toNatClampNeg = true then
    if inb (v3 + 2) (σ 98 0).toNatClampNeg = true then
      if inb (v3 + 3) (σ 98 0).toNatClampNeg = true then
        (C nF_put k [.ref 0, .int (σ 99 (v3 + 1).toNatClampNeg), .int (σ 99 (v3 + 2).toNatClampNeg), .int (σ 99 (v3 + 3).toNatClampNeg)] σ).bind fun r1 =>
          if inb (v3 + 1) (r1.2.2 98 0).toNatClampNeg = true then
            if inb (v3 + 2) (r1.2.2 98 0).toNatClampNeg = true then
              if inb (v3 + 3) (r1.2.2 98 0).toNatClampNeg = true then
                (C nM_put k [.ref 30, .int (r1.2.2 99 (v3 + 1).toNatClampNeg), .int (r1.2.2 99 (v3 + 2).toNatClampNeg), .int (r1.2.2 99 (v3 + 3).toNatClampNeg)] r1.2.2).bind fun r2 =>
                  if r1.1 = r2.1 then
                    R nL_law k 987 [.ref 99, .ref 0, .ref 30, .int v3] [] r2.2.2
                  else
                    some (0, 0, r2.2.2)
              else
                none
            else
              none
          else
            none
      else
        none
    else
      none
  else
    none := (unr_R [10, 22, 39, 66, 83, 150, 157, 174, 201, 228, 265, 292, 299, 326, 353, 380, 407, 434, 461, 478, 495, 513, 530, 567, 595, 612, 649, 666, 693, 720, 768, 775, 782, 819, 856, 913, 960, 987] nL_law k 400 228 _ _ _).trans rfl
theorem eL_law_265 (k : Nat) (v3 : Int32) (σ : Sto) : R nL_law k 265 [.ref 99, .ref 0, .ref 30, .int v3] [] σ =
  if inb (v3 + 1) (σ 98 0).toNatClampNeg = true then
    if inb (v3 + 2) (σ 98 0).toNatClampNeg = true then
      (C nF_told k [.ref 0, .int (σ 99 (v3 + 1).toNatClampNeg), .int (σ 99 (v3 + 2).toNatClampNeg)] σ).bind fun r1 =>
        if inb (v3 + 1) (r1.2.2 98 0).toNatClampNeg = true then
          if inb (v3 + 2) (r1.2.2 98 0).toNatClampNeg = true then
            (C nM_told k [.ref 30, .int (r1.2.2 99 (v3 + 1).toNatClampNeg), .int (r1.2.2 99 (v3 + 2).toNatClampNeg)] r1.2.2).bind fun r2 =>
              if r1.1 = r2.1 then
                R nL_law k 987 [.ref 99, .ref 0, .ref 30, .int v3] [] r2.2.2
              else
                some (0, 0, r2.2.2)
          else
            none
        else
          none
    else
      none
  else
    none := (unr_R [10, 22, 39, 66, 83, 150, 157, 174, 201, 228, 265, 292, 299, 326, 353, 380, 407, 434, 461, 478, 495, 513, 530, 567, 595, 612, 649, 666, 693, 720, 768, 775, 782, 819, 856, 913, 960, 987] nL_law k 400 265 _ _ _).trans rfl
theorem eL_law_292 (k : Nat) (v3 : Int32) (σ : Sto) : R nL_law k 292 [.ref 99, .ref 0, .ref 30, .int v3] [] σ =
  (C nF_hour k [.ref 0] σ).bind fun r1 =>
    (C nM_hour k [.ref 30] r1.2.2).bind fun r2 =>
      if r1.1 = r2.1 then
        R nL_law k 987 [.ref 99, .ref 0, .ref 30, .int v3] [] r2.2.2
      else
        some (0, 0, r2.2.2) := (unr_R [10, 22, 39, 66, 83, 150, 157, 174, 201, 228, 265, 292, 299, 326, 353, 380, 407, 434, 461, 478, 495, 513, 530, 567, 595, 612, 649, 666, 693, 720, 768, 775, 782, 819, 856, 913, 960, 987] nL_law k 400 292 _ _ _).trans rfl
theorem eL_law_299 (k : Nat) (v3 : Int32) (σ : Sto) : R nL_law k 299 [.ref 99, .ref 0, .ref 30, .int v3] [] σ =
  if inb (v3 + 1) (σ 98 0).toNatClampNeg = true then
    if inb (v3 + 2) (σ 98 0).toNatClampNeg = true then
      (C nF_walk k [.ref 0, .int (σ 99 (v3 + 1).toNatClampNeg), .int (σ 99 (v3 + 2).toNatClampNeg)] σ).bind fun r1 =>
        if inb (v3 + 1) (r1.2.2 98 0).toNatClampNeg = true then
          if inb (v3 + 2) (r1.2.2 98 0).toNatClampNeg = true then
            (C nM_walk k [.ref 30, .int (r1.2.2 99 (v3 + 1).toNatClampNeg), .int (r1.2.2 99 (v3 + 2).toNatClampNeg)] r1.2.2).bind fun r2 =>
              if r1.1 = r2.1 then
                R nL_law k 987 [.ref 99, .ref 0, .ref 30, .int v3] [] r2.2.2
              else
                some (0, 0, r2.2.2)
          else
            none
        else
          none
    else
      none
  else
    none := (unr_R [10, 22, 39, 66, 83, 150, 157, 174, 201, 228, 265, 292, 299, 326, 353, 380, 407, 434, 461, 478, 495, 513, 530, 567, 595, 612, 649, 666, 693, 720, 768, 775, 782, 819, 856, 913, 960, 987] nL_law k 400 299 _ _ _).trans rfl
theorem eL_law_326 (k : Nat) (v3 : Int32) (σ : Sto) : R nL_law k 326 [.ref 99, .ref 0, .ref 30, .int v3] [] σ =
  if inb (v3 + 1) (σ 98 0).toNatClampNeg = true then
    if inb (v3 + 2) (σ 98 0).toNatClampNeg = true then
      (C nF_run k [.ref 0, .int (σ 99 (v3 + 1).toNatClampNeg), .int (σ 99 (v3 + 2).toNatClampNeg)] σ).bind fun r1 =>
        if inb (v3 + 1) (r1.2.2 98 0).toNatClampNeg = true then
          if inb (v3 + 2) (r1.2.2 98 0).toNatClampNeg = true then
            (C nM_run k [.ref 30, .int (r1.2.2 99 (v3 + 1).toNatClampNeg), .int (r1.2.2 99 (v3 + 2).toNatClampNeg)] r1.2.2).bind fun r2 =>
              if r1.1 = r2.1 then
                R nL_law k 987 [.ref 99, .ref 0, .ref 30, .int v3] [] r2.2.2
              else
                some (0, 0, r2.2.2)
          else
            none
        else
          none
    else
      none
  else
    none := (unr_R [10, 22, 39, 66, 83, 150, 157, 174, 201, 228, 265, 292, 299, 326, 353, 380, 407, 434, 461, 478, 495, 513, 530, 567, 595, 612, 649, 666, 693, 720, 768, 775, 782, 819, 856, 913, 960, 987] nL_law k 400 326 _ _ _).trans rfl
theorem eL_law_353 (k : Nat) (v3 : Int32) (σ : Sto) : R nL_law k 353 [.ref 99, .ref 0, .ref 30, .int v3] [] σ =
  if inb (v3 + 1) (σ 98 0).toNatClampNeg = true then
    if inb (v3 + 2) (σ 98 0).toNatClampNeg = true then
      (C nF_when k [.ref 0, .int (σ 99 (v3 + 1).toNatClampNeg), .int (σ 99 (v3 + 2).toNatClampNeg)] σ).bind fun r1 =>
        if inb (v3 + 1) (r1.2.2 98 0).toNatClampNeg = true then
          if inb (v3 + 2) (r1.2.2 98 0).toNatClampNeg = true then
            (C nM_when k [.ref 30, .int (r1.2.2 99 (v3 + 1).toNatClampNeg), .int (r1.2.2 99 (v3 + 2).toNatClampNeg)] r1.2.2).bind fun r2 =>
              if r1.1 = r2.1 then
                R nL_law k 987 [.ref 99, .ref 0, .ref 30, .int v3] [] r2.2.2
              else
                some (0, 0, r2.2.2)
          else
            none
        else
          none
    else
      none
  else
    none := (unr_R [10, 22, 39, 66, 83, 150, 157, 174, 201, 228, 265, 292, 299, 326, 353, 380, 407, 434, 461, 478, 495, 513, 530, 567, 595, 612, 649, 666, 693, 720, 768, 775, 782, 819, 856, 913, 960, 987] nL_law k 400 353 _ _ _).trans rfl
theorem eL_law_380 (k : Nat) (v3 : Int32) (σ : Sto) : R nL_law k 380 [.ref 99, .ref 0, .ref 30, .int v3] [] σ =
  if inb (v3 + 1) (σ 98 0).toNatClampNeg = true then
    if inb (v3 + 2) (σ 98 0).toNatClampNeg = true then
      (C nF_hide k [.ref 0, .int (σ 99 (v3 + 1).toNatClampNeg), .int (σ 99 (v3 + 2).toNatClampNeg)] σ).bind fun r1 =>
        if inb (v3 + 1) (r1.2.2 98 0).toNatClampNeg = true then
          if inb (v3 + 2) (r1.2.2 98 0).toNatClampNeg = true then
            (C nM_hide k [.ref 30, .int (r1.2.2 99 (v3 + 1).toNatClampNeg), .int (r1.2.2 99 (v3 + 2).toNatClampNeg)] r1.2.2).bind fun r2 =>
              if r1.1 = r2.1 then
                R nL_law k 987 [.ref 99, .ref 0, .ref 30, .int v3] [] r2.2.2
              else
                some (0, 0, r2.2.2)
          else
            none
        else
          none
    else
      none
  else
    none := (unr_R [10, 22, 39, 66, 83, 150, 157, 174, 201, 228, 265, 292, 299, 326, 353, 380, 407, 434, 461, 478, 495, 513, 530, 567, 595, 612, 649, 666, 693, 720, 768, 775, 782, 819, 856, 913, 960, 987] nL_law k 400 380 _ _ _).trans rfl
theorem eL_law_407 (k : Nat) (v3 : Int32) (σ : Sto) : R nL_law k 407 [.ref 99, .ref 0, .ref 30, .int v3] [] σ =
  if inb (v3 + 1) (σ 98 0).toNatClampNeg = true then
    if inb (v3 + 2) (σ 98 0).toNatClampNeg = true then
      (C nF_stand k [.ref 0, .int (σ 99 (v3 + 1).toNatClampNeg), .int (σ 99 (v3 + 2).toNatClampNeg)] σ).bind fun r1 =>
        if inb (v3 + 1) (r1.2.2 98 0).toNatClampNeg = true then
          if inb (v3 + 2) (r1.2.2 98 0).toNatClampNeg = true then
            (C nM_stand k [.ref 30, .int (r1.2.2 99 (v3 + 1).toNatClampNeg), .int (r1.2.2 99 (v3 + 2).toNatClampNeg)] r1.2.2).bind fun r2 =>
              if r1.1 = r2.1 then
                R nL_law k 987 [.ref 99, .ref 0, .ref 30, .int v3] [] r2.2.2
              else
                some (0, 0, r2.2.2)
          else
            none
        else
          none
    else
      none
  else
    none := (unr_R [10, 22, 39, 66, 83, 150, 157, 174, 201, 228, 265, 292, 299, 326, 353, 380, 407, 434, 461, 478, 495, 513, 530, 567, 595, 612, 649, 666, 693, 720, 768, 775, 782, 819, 856, 913, 960, 987] nL_law k 400 407 _ _ _).trans rfl
theorem eL_law_434 (k : Nat) (v3 : Int32) (σ : Sto) : R nL_law k 434 [.ref 99, .ref 0, .ref 30, .int v3] [] σ =
  if inb (v3 + 1) (σ 98 0).toNatClampNeg = true then
    if inb (v3 + 2) (σ 98 0).toNatClampNeg = true then
      (C nF_apart k [.ref 0, .int (σ 99 (v3 + 1).toNatClampNeg), .int (σ 99 (v3 + 2).toNatClampNeg)] σ).bind fun r1 =>
        if inb (v3 + 1) (r1.2.2 98 0).toNatClampNeg = true then
          if inb (v3 + 2) (r1.2.2 98 0).toNatClampNeg = true then
            (C nM_apart k [.ref 30, .int (r1.2.2 99 (v3 + 1).toNatClampNeg), .int (r1.2.2 99 (v3 + 2).toNatClampNeg)] r1.2.2).bind fun r2 =>
              if r1.1 = r2.1 then
                R nL_law k 987 [.ref 99, .ref 0, .ref 30, .int v3] [] r2.2.2
              else
                some (0, 0, r2.2.2)
          else
            none
        else
          none
    else
      none
  else
    none := (unr_R [10, 22, 39, 66, 83, 150, 157, 174, 201, 228, 265, 292, 299, 326, 353, 380, 407, 434, 461, 478, 495, 513, 530, 567, 595, 612, 649, 666, 693, 720, 768, 775, 782, 819, 856, 913, 960, 987] nL_law k 400 434 _ _ _).trans rfl
theorem eL_law_461 (k : Nat) (v3 : Int32) (σ : Sto) : R nL_law k 461 [.ref 99, .ref 0, .ref 30, .int v3] [] σ =
  if inb (v3 + 1) (σ 98 0).toNatClampNeg = true then
    (C nF_breakwater k [.ref 0, .int (σ 99 (v3 + 1).toNatClampNeg)] σ).bind fun r1 =>
      if inb (v3 + 1) (r1.2.2 98 0).toNatClampNeg = true then
        (C nM_breakwater k [.ref 30, .int (r1.2.2 99 (v3 + 1).toNatClampNeg)] r1.2.2).bind fun r2 =>
          if r1.1 = r2.1 then
            R nL_law k 987 [.ref 99, .ref 0, .ref 30, .int v3] [] r2.2.2
          else
            some (0, 0, r2.2.2)
      else
        none
  else
    none := (unr_R [10, 22, 39, 66, 83, 150, 157, 174, 201, 228, 265, 292, 299, 326, 353, 380, 407, 434, 461, 478, 495, 513, 530, 567, 595, 612, 649, 666, 693, 720, 768, 775, 782, 819, 856, 913, 960, 987] nL_law k 400 461 _ _ _).trans rfl
theorem eL_law_478 (k : Nat) (v3 : Int32) (σ : Sto) : R nL_law k 478 [.ref 99, .ref 0, .ref 30, .int v3] [] σ =
  if inb (v3 + 1) (σ 98 0).toNatClampNeg = true then
    (C nF_gap k [.ref 0, .int (σ 99 (v3 + 1).toNatClampNeg)] σ).bind fun r1 =>
      if inb (v3 + 1) (r1.2.2 98 0).toNatClampNeg = true then
        (C nM_gap k [.ref 30, .int (r1.2.2 99 (v3 + 1).toNatClampNeg)] r1.2.2).bind fun r2 =>
          if r1.1 = r2.1 then
            R nL_law k 987 [.ref 99, .ref 0, .ref 30, .int v3] [] r2.2.2
          else
            some (0, 0, r2.2.2)
      else
        none
  else
    none := (unr_R [10, 22, 39, 66, 83, 150, 157, 174, 201, 228, 265, 292, 299, 326, 353, 380, 407, 434, 461, 478, 495, 513, 530, 567, 595, 612, 649, 666, 693, 720, 768, 775, 782, 819, 856, 913, 960, 987] nL_law k 400 478 _ _ _).trans rfl
theorem eL_law_495 (k : Nat) (v3 : Int32) (σ : Sto) : R nL_law k 495 [.ref 99, .ref 0, .ref 30, .int v3] [] σ =
  if inb (v3 + 1) (σ 98 0).toNatClampNeg = true then
    (C nF_middle k [.ref 0, .int (σ 99 (v3 + 1).toNatClampNeg)] σ).bind fun r1 =>
      if inb (v3 + 1) (r1.2.2 98 0).toNatClampNeg = true then
        (C nM_middle k [.ref 30, .int (r1.2.2 99 (v3 + 1).toNatClampNeg)] r1.2.2).bind fun r2 =>
          if (lg_cmp r1.2.1 r2.2.1) = 0 then
            R nL_law k 987 [.ref 99, .ref 0, .ref 30, .int v3] [] r2.2.2
          else
            some (0, 0, r2.2.2)
      else
        none
  else
    none := (unr_R [10, 22, 39, 66, 83, 150, 157, 174, 201, 228, 265, 292, 299, 326, 353, 380, 407, 434, 461, 478, 495, 513, 530, 567, 595, 612, 649, 666, 693, 720, 768, 775, 782, 819, 856, 913, 960, 987] nL_law k 400 495 _ _ _).trans rfl
theorem eL_law_513 (k : Nat) (v3 : Int32) (σ : Sto) : R nL_law k 513 [.ref 99, .ref 0, .ref 30, .int v3] [] σ =
  if inb (v3 + 1) (σ 98 0).toNatClampNeg = true then
    (C nF_judge k [.ref 0, .int (σ 99 (v3 + 1).toNatClampNeg)] σ).bind fun r1 =>
      if inb (v3 + 1) (r1.2.2 98 0).toNatClampNeg = true then
        (C nM_judge k [.ref 30, .int (r1.2.2 99 (v3 + 1).toNatClampNeg)] r1.2.2).bind fun r2 =>
          if r1.1 = r2.1 then
            R nL_law k 987 [.ref 99, .ref 0, .ref 30, .int v3] [] r2.2.2
          else
            some (0, 0, r2.2.2)
      else
        none
  else
    none := (unr_R [10, 22, 39, 66, 83, 150, 157, 174, 201, 228, 265, 292, 299, 326, 353, 380, 407, 434, 461, 478, 495, 513, 530, 567, 595, 612, 649, 666, 693, 720, 768, 775, 782, 819, 856, 913, 960, 987] nL_law k 400 513 _ _ _).trans rfl
theorem eL_law_530 (k : Nat) (v3 : Int32) (σ : Sto) : R nL_law k 530 [.ref 99, .ref 0, .ref 30, .int v3] [] σ =
  if inb (v3 + 1) (σ 98 0).toNatClampNeg = true then
    if inb (v3 + 2) (σ 98 0).toNatClampNeg = true then
      if inb (v3 + 3) (σ 98 0).toNatClampNeg = true then
        (C nF_kinds k [.ref 0, .int (σ 99 (v3 + 1).toNatClampNeg), .int (σ 99 (v3 + 2).toNatClampNeg), .int (σ 99 (v3 + 3).toNatClampNeg)] σ).bind fun r1 =>
          if inb (v3 + 1) (r1.2.2 98 0).toNatClampNeg = true then
            if inb (v3 + 2) (r1.2.2 98 0).toNatClampNeg = true then
              if inb (v3 + 3) (r1.2.2 98 0).toNatClampNeg = true then
                (C nM_kinds k [.ref 30, .int (r1.2.2 99 (v3 + 1).toNatClampNeg), .int (r1.2.2 99 (v3 + 2).toNatClampNeg), .int (r1.2.2 99 (v3 + 3).toNatClampNeg)] r1.2.2).bind fun r2 =>
                  if r1.1 = r2.1 then
                    R nL_law k 987 [.ref 99, .ref 0, .ref 30, .int v3] [] r2.2.2
                  else
                    some (0, 0, r2.2.2)
              else
                none
            else
              none
          else
            none
      else
        none
    else
      none
  else
    none := (unr_R [10, 22, 39, 66, 83, 150, 157, 174, 201, 228, 265, 292, 299, 326, 353, 380, 407, 434, 461, 478, 495, 513, 530, 567, 595, 612, 649, 666, 693, 720, 768, 775, 782, 819, 856, 913, 960, 987] nL_law k 400 530 _ _ _).trans rfl
theorem eL_law_567 (k : Nat) (v3 : Int32) (σ : Sto) : R nL_law k 567 [.ref 99, .ref 0, .ref 30, .int v3] [] σ =
  if inb (v3 + 1) (σ 98 0).toNatClampNeg = true then
    if inb (v3 + 2) (σ 98 0).toNatClampNeg = true then
      (C nF_places k [.ref 0, .int (σ 99 (v3 + 1).toNatClampNeg), .int (σ 99 (v3 + 2).toNatClampNeg)] σ).bind fun r1 =>
        if inb (v3 + 1) (r1.2.2 98 0).toNatClampNeg = true then
          if inb (v3 + 2) (r1.2.2 98 0).toNatClampNeg = true then
            (C nM_places k [.ref 30, .int (r1.2.2 99 (v3 + 1).toNatClampNeg), .int (r1.2.2 99 (v3 + 2).toNatClampNeg)] r1.2.2).bind fun r2 =>
              if (lg_cmp r1.2.1 r2.2.1) = 0 then
                R nL_law k 987 [.ref 99, .ref 0, .ref 30, .int v3] [] r2.2.2
              else
                some (0, 0, r2.2.2)
          else
            none
        else
          none
    else
      none
  else
    none := (unr_R [10, 22, 39, 66, 83, 150, 157, 174, 201, 228, 265, 292, 299, 326, 353, 380, 407, 434, 461, 478, 495, 513, 530, 567, 595, 612, 649, 666, 693, 720, 768, 775, 782, 819, 856, 913, 960, 987] nL_law k 400 567 _ _ _).trans rfl
theorem eL_law_595 (k : Nat) (v3 : Int32) (σ : Sto) : R nL_law k 595 [.ref 99, .ref 0, .ref 30, .int v3] [] σ =
  if inb (v3 + 1) (σ 98 0).toNatClampNeg = true then
    (C nF_turned k [.ref 0, .int (σ 99 (v3 + 1).toNatClampNeg)] σ).bind fun r1 =>
      if inb (v3 + 1) (r1.2.2 98 0).toNatClampNeg = true then
        (C nM_turned k [.ref 30, .int (r1.2.2 99 (v3 + 1).toNatClampNeg)] r1.2.2).bind fun r2 =>
          if r1.1 = r2.1 then
            R nL_law k 987 [.ref 99, .ref 0, .ref 30, .int v3] [] r2.2.2
          else
            some (0, 0, r2.2.2)
      else
        none
  else
    none := (unr_R [10, 22, 39, 66, 83, 150, 157, 174, 201, 228, 265, 292, 299, 326, 353, 380, 407, 434, 461, 478, 495, 513, 530, 567, 595, 612, 649, 666, 693, 720, 768, 775, 782, 819, 856, 913, 960, 987] nL_law k 400 595 _ _ _).trans rfl
theorem eL_law_612 (k : Nat) (v3 : Int32) (σ : Sto) : R nL_law k 612 [.ref 99, .ref 0, .ref 30, .int v3] [] σ =
  if inb (v3 + 1) (σ 98 0).toNatClampNeg = true then
    if inb (v3 + 2) (σ 98 0).toNatClampNeg = true then
      if inb (v3 + 3) (σ 98 0).toNatClampNeg = true then
        (C nF_waits k [.ref 0, .int (σ 99 (v3 + 1).toNatClampNeg), .int (σ 99 (v3 + 2).toNatClampNeg), .int (σ 99 (v3 + 3).toNatClampNeg)] σ).bind fun r1 =>
          if inb (v3 + 1) (r1.2.2 98 0).toNatClampNeg = true then
            if inb (v3 + 2) (r1.2.2 98 0).toNatClampNeg = true then
              if inb (v3 + 3) (r1.2.2 98 0).toNatClampNeg = true then
                (C nM_waits k [.ref 30, .int (r1.2.2 99 (v3 + 1).toNatClampNeg), .int (r1.2.2 99 (v3 + 2).toNatClampNeg), .int (r1.2.2 99 (v3 + 3).toNatClampNeg)] r1.2.2).bind fun r2 =>
                  if r1.1 = r2.1 then
                    R nL_law k 987 [.ref 99, .ref 0, .ref 30, .int v3] [] r2.2.2
                  else
                    some (0, 0, r2.2.2)
              else
                none
            else
              none
          else
            none
      else
        none
    else
      none
  else
    none := (unr_R [10, 22, 39, 66, 83, 150, 157, 174, 201, 228, 265, 292, 299, 326, 353, 380, 407, 434, 461, 478, 495, 513, 530, 567, 595, 612, 649, 666, 693, 720, 768, 775, 782, 819, 856, 913, 960, 987] nL_law k 400 612 _ _ _).trans rfl
theorem eL_law_649 (k : Nat) (v3 : Int32) (σ : Sto) : R nL_law k 649 [.ref 99, .ref 0, .ref 30, .int v3] [] σ =
  if inb (v3 + 1) (σ 98 0).toNatClampNeg = true then
    (C nF_laws k [.ref 0, .int (σ 99 (v3 + 1).toNatClampNeg)] σ).bind fun r1 =>
      if inb (v3 + 1) (r1.2.2 98 0).toNatClampNeg = true then
        (C nM_laws k [.ref 30, .int (r1.2.2 99 (v3 + 1).toNatClampNeg)] r1.2.2).bind fun r2 =>
          if r1.1 = r2.1 then
            R nL_law k 987 [.ref 99, .ref 0, .ref 30, .int v3] [] r2.2.2
          else
            some (0, 0, r2.2.2)
      else
        none
  else
    none := (unr_R [10, 22, 39, 66, 83, 150, 157, 174, 201, 228, 265, 292, 299, 326, 353, 380, 407, 434, 461, 478, 495, 513, 530, 567, 595, 612, 649, 666, 693, 720, 768, 775, 782, 819, 856, 913, 960, 987] nL_law k 400 649 _ _ _).trans rfl
theorem eL_law_666 (k : Nat) (v3 : Int32) (σ : Sto) : R nL_law k 666 [.ref 99, .ref 0, .ref 30, .int v3] [] σ =
  if inb (v3 + 1) (σ 98 0).toNatClampNeg = true then
    if inb (v3 + 2) (σ 98 0).toNatClampNeg = true then
      (C nF_film k [.ref 0, .int (σ 99 (v3 + 1).toNatClampNeg), .int (σ 99 (v3 + 2).toNatClampNeg)] σ).bind fun r1 =>
        if inb (v3 + 1) (r1.2.2 98 0).toNatClampNeg = true then
          if inb (v3 + 2) (r1.2.2 98 0).toNatClampNeg = true then
            (C nM_film k [.ref 30, .int (r1.2.2 99 (v3 + 1).toNatClampNeg), .int (r1.2.2 99 (v3 + 2).toNatClampNeg)] r1.2.2).bind fun r2 =>
              if r1.1 = r2.1 then
                R nL_law k 987 [.ref 99, .ref 0, .ref 30, .int v3] [] r2.2.2
              else
                some (0, 0, r2.2.2)
          else
            none
        else
          none
    else
      none
  else
    none := (unr_R [10, 22, 39, 66, 83, 150, 157, 174, 201, 228, 265, 292, 299, 326, 353, 380, 407, 434, 461, 478, 495, 513, 530, 567, 595, 612, 649, 666, 693, 720, 768, 775, 782, 819, 856, 913, 960, 987] nL_law k 400 666 _ _ _).trans rfl
theorem eL_law_693 (k : Nat) (v3 : Int32) (σ : Sto) : R nL_law k 693 [.ref 99, .ref 0, .ref 30, .int v3] [] σ =
  if inb (v3 + 1) (σ 98 0).toNatClampNeg = true then
    if inb (v3 + 2) (σ 98 0).toNatClampNeg = true then
      (C nF_drawn k [.ref 0, .int (σ 99 (v3 + 1).toNatClampNeg), .int (σ 99 (v3 + 2).toNatClampNeg)] σ).bind fun r1 =>
        if inb (v3 + 1) (r1.2.2 98 0).toNatClampNeg = true then
          if inb (v3 + 2) (r1.2.2 98 0).toNatClampNeg = true then
            (C nM_drawn k [.ref 30, .int (r1.2.2 99 (v3 + 1).toNatClampNeg), .int (r1.2.2 99 (v3 + 2).toNatClampNeg)] r1.2.2).bind fun r2 =>
              if r1.1 = r2.1 then
                R nL_law k 987 [.ref 99, .ref 0, .ref 30, .int v3] [] r2.2.2
              else
                some (0, 0, r2.2.2)
          else
            none
        else
          none
    else
      none
  else
    none := (unr_R [10, 22, 39, 66, 83, 150, 157, 174, 201, 228, 265, 292, 299, 326, 353, 380, 407, 434, 461, 478, 495, 513, 530, 567, 595, 612, 649, 666, 693, 720, 768, 775, 782, 819, 856, 913, 960, 987] nL_law k 400 693 _ _ _).trans rfl
theorem eL_law_720 (k : Nat) (v3 : Int32) (σ : Sto) : R nL_law k 720 [.ref 99, .ref 0, .ref 30, .int v3] [] σ =
  if inb (v3 + 1) (σ 98 0).toNatClampNeg = true then
    if inb (v3 + 2) (σ 98 0).toNatClampNeg = true then
      if inb (v3 + 3) (σ 98 0).toNatClampNeg = true then
        if inb (v3 + 4) (σ 98 0).toNatClampNeg = true then
          (C nF_odds k [.ref 0, .int (σ 99 (v3 + 1).toNatClampNeg), .int (σ 99 (v3 + 2).toNatClampNeg), .int (σ 99 (v3 + 3).toNatClampNeg), .int (σ 99 (v3 + 4).toNatClampNeg)] σ).bind fun r1 =>
            if inb (v3 + 1) (r1.2.2 98 0).toNatClampNeg = true then
              if inb (v3 + 2) (r1.2.2 98 0).toNatClampNeg = true then
                if inb (v3 + 3) (r1.2.2 98 0).toNatClampNeg = true then
                  if inb (v3 + 4) (r1.2.2 98 0).toNatClampNeg = true then
                    (C nM_odds k [.ref 30, .int (r1.2.2 99 (v3 + 1).toNatClampNeg), .int (r1.2.2 99 (v3 + 2).toNatClampNeg), .int (r1.2.2 99 (v3 + 3).toNatClampNeg), .int (r1.2.2 99 (v3 + 4).toNatClampNeg)] r1.2.2).bind fun r2 =>
                      if (lg_cmp r1.2.1 r2.2.1) = 0 then
                        R nL_law k 987 [.ref 99, .ref 0, .ref 30, .int v3] [] r2.2.2
                      else
                        some (0, 0, r2.2.2)
                  else
                    none
                else
                  none
              else
                none
            else
              none
        else
          none
      else
        none
    else
      none
  else
    none := (unr_R [10, 22, 39, 66, 83, 150, 157, 174, 201, 228, 265, 292, 299, 326, 353, 380, 407, 434, 461, 478, 495, 513, 530, 567, 595, 612, 649, 666, 693, 720, 768, 775, 782, 819, 856, 913, 960, 987] nL_law k 400 720 _ _ _).trans rfl
theorem eL_law_768 (k : Nat) (v3 : Int32) (σ : Sto) : R nL_law k 768 [.ref 99, .ref 0, .ref 30, .int v3] [] σ =
  (C nF_image k [.ref 0] σ).bind fun r1 =>
    (C nM_image k [.ref 30] r1.2.2).bind fun r2 =>
      if r1.1 = r2.1 then
        R nL_law k 987 [.ref 99, .ref 0, .ref 30, .int v3] [] r2.2.2
      else
        some (0, 0, r2.2.2) := (unr_R [10, 22, 39, 66, 83, 150, 157, 174, 201, 228, 265, 292, 299, 326, 353, 380, 407, 434, 461, 478, 495, 513, 530, 567, 595, 612, 649, 666, 693, 720, 768, 775, 782, 819, 856, 913, 960, 987] nL_law k 400 768 _ _ _).trans rfl
theorem eL_law_775 (k : Nat) (v3 : Int32) (σ : Sto) : R nL_law k 775 [.ref 99, .ref 0, .ref 30, .int v3] [] σ =
  (C nF_back k [.ref 0] σ).bind fun r1 =>
    (C nM_back k [.ref 30] r1.2.2).bind fun r2 =>
      if r1.1 = r2.1 then
        R nL_law k 987 [.ref 99, .ref 0, .ref 30, .int v3] [] r2.2.2
      else
        some (0, 0, r2.2.2) := (unr_R [10, 22, 39, 66, 83, 150, 157, 174, 201, 228, 265, 292, 299, 326, 353, 380, 407, 434, 461, 478, 495, 513, 530, 567, 595, 612, 649, 666, 693, 720, 768, 775, 782, 819, 856, 913, 960, 987] nL_law k 400 775 _ _ _).trans rfl
theorem eL_law_782 (k : Nat) (v3 : Int32) (σ : Sto) : R nL_law k 782 [.ref 99, .ref 0, .ref 30, .int v3] [] σ =
  if inb (v3 + 1) (σ 98 0).toNatClampNeg = true then
    if inb (v3 + 2) (σ 98 0).toNatClampNeg = true then
      if inb (v3 + 3) (σ 98 0).toNatClampNeg = true then
        (C nF_sheet k [.ref 0, .int (σ 99 (v3 + 1).toNatClampNeg), .int (σ 99 (v3 + 2).toNatClampNeg), .int (σ 99 (v3 + 3).toNatClampNeg)] σ).bind fun r1 =>
          if inb (v3 + 1) (r1.2.2 98 0).toNatClampNeg = true then
            if inb (v3 + 2) (r1.2.2 98 0).toNatClampNeg = true then
              if inb (v3 + 3) (r1.2.2 98 0).toNatClampNeg = true then
                (C nM_sheet k [.ref 30, .int (r1.2.2 99 (v3 + 1).toNatClampNeg), .int (r1.2.2 99 (v3 + 2).toNatClampNeg), .int (r1.2.2 99 (v3 + 3).toNatClampNeg)] r1.2.2).bind fun r2 =>
                  if r1.1 = r2.1 then
                    R nL_law k 987 [.ref 99, .ref 0, .ref 30, .int v3] [] r2.2.2
                  else
                    some (0, 0, r2.2.2)
              else
                none
            else
              none
          else
            none
      else
        none
    else
      none
  else
    none := (unr_R [10, 22, 39, 66, 83, 150, 157, 174, 201, 228, 265, 292, 299, 326, 353, 380, 407, 434, 461, 478, 495, 513, 530, 567, 595, 612, 649, 666, 693, 720, 768, 775, 782, 819, 856, 913, 960, 987] nL_law k 400 782 _ _ _).trans rfl
theorem eL_law_819 (k : Nat) (v3 : Int32) (σ : Sto) : R nL_law k 819 [.ref 99, .ref 0, .ref 30, .int v3] [] σ =
  if inb (v3 + 1) (σ 98 0).toNatClampNeg = true then
    if inb (v3 + 2) (σ 98 0).toNatClampNeg = true then
      if inb (v3 + 3) (σ 98 0).toNatClampNeg = true then
        (C nF_cell k [.ref 0, .int (σ 99 (v3 + 1).toNatClampNeg), .int (σ 99 (v3 + 2).toNatClampNeg), .int (σ 99 (v3 + 3).toNatClampNeg)] σ).bind fun r1 =>
          if inb (v3 + 1) (r1.2.2 98 0).toNatClampNeg = true then
            if inb (v3 + 2) (r1.2.2 98 0).toNatClampNeg = true then
              if inb (v3 + 3) (r1.2.2 98 0).toNatClampNeg = true then
                (C nM_cell k [.ref 30, .int (r1.2.2 99 (v3 + 1).toNatClampNeg), .int (r1.2.2 99 (v3 + 2).toNatClampNeg), .int (r1.2.2 99 (v3 + 3).toNatClampNeg)] r1.2.2).bind fun r2 =>
                  if r1.1 = r2.1 then
                    R nL_law k 987 [.ref 99, .ref 0, .ref 30, .int v3] [] r2.2.2
                  else
                    some (0, 0, r2.2.2)
              else
                none
            else
              none
          else
            none
      else
        none
    else
      none
  else
    none := (unr_R [10, 22, 39, 66, 83, 150, 157, 174, 201, 228, 265, 292, 299, 326, 353, 380, 407, 434, 461, 478, 495, 513, 530, 567, 595, 612, 649, 666, 693, 720, 768, 775, 782, 819, 856, 913, 960, 987] nL_law k 400 819 _ _ _).trans rfl
set_option maxRecDepth 1000000 in
theorem eL_law_856 (k : Nat) (v3 : Int32) (σ : Sto) : R nL_law k 856 [.ref 99, .ref 0, .ref 30, .int v3] [] σ =
  if inb (v3 + 1) (σ 98 0).toNatClampNeg = true then
    if inb (v3 + 2) (σ 98 0).toNatClampNeg = true then
      if inb (v3 + 3) (σ 98 0).toNatClampNeg = true then
        if inb (v3 + 4) (σ 98 0).toNatClampNeg = true then
          if inb (v3 + 5) (σ 98 0).toNatClampNeg = true then
            (C nF_copy k [.ref 0, .int (σ 99 (v3 + 1).toNatClampNeg), .int (σ 99 (v3 + 2).toNatClampNeg), .int (σ 99 (v3 + 3).toNatClampNeg), .int (σ 99 (v3 + 4).toNatClampNeg), .int (σ 99 (v3 + 5).toNatClampNeg)] σ).bind fun r1 =>
              if inb (v3 + 1) (r1.2.2 98 0).toNatClampNeg = true then
                if inb (v3 + 2) (r1.2.2 98 0).toNatClampNeg = true then
                  if inb (v3 + 3) (r1.2.2 98 0).toNatClampNeg = true then
                    if inb (v3 + 4) (r1.2.2 98 0).toNatClampNeg = true then
                      if inb (v3 + 5) (r1.2.2 98 0).toNatClampNeg = true then
                        (C nM_copy k [.ref 30, .int (r1.2.2 99 (v3 + 1).toNatClampNeg), .int (r1.2.2 99 (v3 + 2).toNatClampNeg), .int (r1.2.2 99 (v3 + 3).toNatClampNeg), .int (r1.2.2 99 (v3 + 4).toNatClampNeg), .int (r1.2.2 99 (v3 + 5).toNatClampNeg)] r1.2.2).bind fun r2 =>
                          if r1.1 = r2.1 then
                            R nL_law k 987 [.ref 99, .ref 0, .ref 30, .int v3] [] r2.2.2
                          else
                            some (0, 0, r2.2.2)
                      else
                        none
                    else
                      none
                  else
                    none
                else
                  none
              else
                none
          else
            none
        else
          none
      else
        none
    else
      none
  else
    none := (unr_R [10, 22, 39, 66, 83, 150, 157, 174, 201, 228, 265, 292, 299, 326, 353, 380, 407, 434, 461, 478, 495, 513, 530, 567, 595, 612, 649, 666, 693, 720, 768, 775, 782, 819, 856, 913, 960, 987] nL_law k 400 856 _ _ _).trans rfl
theorem eL_law_913 (k : Nat) (v3 : Int32) (σ : Sto) : R nL_law k 913 [.ref 99, .ref 0, .ref 30, .int v3] [] σ =
  if inb (v3 + 1) (σ 98 0).toNatClampNeg = true then
    if inb (v3 + 2) (σ 98 0).toNatClampNeg = true then
      if inb (v3 + 3) (σ 98 0).toNatClampNeg = true then
        if inb (v3 + 4) (σ 98 0).toNatClampNeg = true then
          (C nF_peopleBy k [.ref 0, .int (σ 99 (v3 + 1).toNatClampNeg), .int (σ 99 (v3 + 2).toNatClampNeg), .int (σ 99 (v3 + 3).toNatClampNeg), .int (σ 99 (v3 + 4).toNatClampNeg)] σ).bind fun r1 =>
            if inb (v3 + 1) (r1.2.2 98 0).toNatClampNeg = true then
              if inb (v3 + 2) (r1.2.2 98 0).toNatClampNeg = true then
                if inb (v3 + 3) (r1.2.2 98 0).toNatClampNeg = true then
                  if inb (v3 + 4) (r1.2.2 98 0).toNatClampNeg = true then
                    (C nM_peopleBy k [.ref 30, .int (r1.2.2 99 (v3 + 1).toNatClampNeg), .int (r1.2.2 99 (v3 + 2).toNatClampNeg), .int (r1.2.2 99 (v3 + 3).toNatClampNeg), .int (r1.2.2 99 (v3 + 4).toNatClampNeg)] r1.2.2).bind fun r2 =>
                      if r1.1 = r2.1 then
                        R nL_law k 987 [.ref 99, .ref 0, .ref 30, .int v3] [] r2.2.2
                      else
                        some (0, 0, r2.2.2)
                  else
                    none
                else
                  none
              else
                none
            else
              none
        else
          none
      else
        none
    else
      none
  else
    none := (unr_R [10, 22, 39, 66, 83, 150, 157, 174, 201, 228, 265, 292, 299, 326, 353, 380, 407, 434, 461, 478, 495, 513, 530, 567, 595, 612, 649, 666, 693, 720, 768, 775, 782, 819, 856, 913, 960, 987] nL_law k 400 913 _ _ _).trans rfl
theorem eL_law_960 (k : Nat) (v3 : Int32) (σ : Sto) : R nL_law k 960 [.ref 99, .ref 0, .ref 30, .int v3] [] σ =
  if inb (v3 + 1) (σ 98 0).toNatClampNeg = true then
    if inb (v3 + 2) (σ 98 0).toNatClampNeg = true then
      (C nF_taken k [.ref 0, .int (σ 99 (v3 + 1).toNatClampNeg), .int (σ 99 (v3 + 2).toNatClampNeg)] σ).bind fun r1 =>
        if inb (v3 + 1) (r1.2.2 98 0).toNatClampNeg = true then
          if inb (v3 + 2) (r1.2.2 98 0).toNatClampNeg = true then
            (C nM_taken k [.ref 30, .int (r1.2.2 99 (v3 + 1).toNatClampNeg), .int (r1.2.2 99 (v3 + 2).toNatClampNeg)] r1.2.2).bind fun r2 =>
              if r1.1 = r2.1 then
                R nL_law k 987 [.ref 99, .ref 0, .ref 30, .int v3] [] r2.2.2
              else
                some (0, 0, r2.2.2)
          else
            none
        else
          none
    else
      none
  else
    none := (unr_R [10, 22, 39, 66, 83, 150, 157, 174, 201, 228, 265, 292, 299, 326, 353, 380, 407, 434, 461, 478, 495, 513, 530, 567, 595, 612, 649, 666, 693, 720, 768, 775, 782, 819, 856, 913, 960, 987] nL_law k 400 960 _ _ _).trans rfl
theorem eL_law_987 (k : Nat) (v3 : Int32) (σ : Sto) : R nL_law k 987 [.ref 99, .ref 0, .ref 30, .int v3] [] σ =
  R nL_law k 10 [.ref 99, .ref 0, .ref 30, .int (v3 + 7)] [] σ := (unr_R [10, 22, 39, 66, 83, 150, 157, 174, 201, 228, 265, 292, 299, 326, 353, 380, 407, 434, 461, 478, 495, 513, 530, 567, 595, 612, 649, 666, 693, 720, 768, 775, 782, 819, 856, 913, 960, 987] nL_law k 400 987 _ _ _).trans rfl
end
section
/-! numbers -/
theorem i_lt {a b : Int32} : a < b ↔ a.toInt < b.toInt := Int32.lt_iff_toInt_lt
theorem i_eq {a b : Int32} : a = b ↔ a.toInt = b.toInt := Int32.toInt_inj.symm
theorem i_add {a b : Int32} (h1 : -2147483648 ≤ a.toInt + b.toInt) (h2 : a.toInt + b.toInt < 2147483648) : (a + b).toInt = a.toInt + b.toInt := by
  rw [Int32.toInt_add, Int.bmod_eq_of_le (by omega) (by omega)]
theorem i_sub {a b : Int32} (h1 : -2147483648 ≤ a.toInt - b.toInt) (h2 : a.toInt - b.toInt < 2147483648) : (a - b).toInt = a.toInt - b.toInt := by
  rw [Int32.toInt_sub, Int.bmod_eq_of_le (by omega) (by omega)]
theorem i_mul {a b : Int32} (h1 : -2147483648 ≤ a.toInt * b.toInt) (h2 : a.toInt * b.toInt < 2147483648) : (a * b).toInt = a.toInt * b.toInt := by
  rw [Int32.toInt_mul, Int.bmod_eq_of_le (by omega) (by omega)]
theorem i_neg {a : Int32} (h1 : -2147483648 < a.toInt) : (-a).toInt = -a.toInt := by
  have h2 := Int32.toInt_lt a
  rw [Int32.toInt_neg, Int.bmod_eq_of_le (by omega) (by omega)]
theorem ix {p n : Nat} (h : p < n) (hn : n < 2 ^ 31) : (nI p).toNatClampNeg = p := nI_clamp (Nat.lt_trans h hn)
theorem ib {p n : Nat} (h : p < n) (hn : n < 2 ^ 31) : inb (nI p) n = true := by
  unfold inb
  rw [nI_toInt (Nat.lt_trans h hn), Bool.and_eq_true, decide_eq_true_eq, decide_eq_true_eq]
  omega
theorem inb_iff {x : Int32} {n : Nat} : inb x n = true ↔ 0 ≤ x.toInt ∧ x.toInt < n := by
  unfold inb
  rw [Bool.and_eq_true, decide_eq_true_eq, decide_eq_true_eq]
theorem inb_of {x : Int32} {n : Nat} (h : inb x n = true) (hn : n < 2 ^ 31) : ∃ j, j < n ∧ x = nI j := by
  obtain ⟨h1, h2⟩ := inb_iff.mp h
  refine ⟨x.toInt.toNat, by omega, Int32.toInt_inj.mp ?_⟩
  rw [nI_toInt (by omega)]
  omega
theorem nI_inj {a b : Nat} (ha : a < 2 ^ 31) (hb : b < 2 ^ 31) (h : nI a = nI b) : a = b := (nI_eq ha hb).mp h
theorem nI_nm {a : Nat} (ha : a < 2 ^ 31) : ¬ nI a = -1 := by
  rw [i_eq, nI_toInt ha]
  have : (-1 : Int32).toInt = -1 := by decide
  omega
def b2 (b : Bool) : Int32 := if b then 1 else 0
theorem b2_0 {b : Bool} : b2 b = 0 ↔ b = false := by cases b <;> decide
theorem b2_zb {b : Bool} : zb (b2 b) = true := by cases b <;> decide
theorem b2_nok {b : Bool} : nok 1 (b2 b) = true := by cases b <;> decide
theorem b2_t {p : Prop} [Decidable p] (h : p) : b2 (decide p) = 1 := by simp [b2, h]
/-- frames: all cells but some are as they were -/
def Fr (l : List Nat) (σ σ' : Sto) : Prop := ∀ c, c ∉ l → σ' c = σ c
theorem Fr.rf {l : List Nat} {σ : Sto} : Fr l σ σ := fun _ _ => rfl
theorem Fr.tr {l : List Nat} {σ σ1 σ2 : Sto} (h1 : Fr l σ σ1) (h2 : Fr l σ1 σ2) : Fr l σ σ2 := fun c hc => (h2 c hc).trans (h1 c hc)
theorem Fr.mono {l l' : List Nat} {σ σ' : Sto} (h : Fr l σ σ') (hl : ∀ c, c ∈ l → c ∈ l') : Fr l' σ σ' := fun c hc => h c (fun z => hc (hl c z))
theorem Fr.su {l : List Nat} {σ σ' : Sto} (h : Fr l σ σ') {c i : Nat} {v : Int32} (hc : c ∈ l) : Fr l σ (su σ' c i v) := fun c' hc' => (su_ne (fun (e : c' = c) => hc' (by rw [e]; exact hc))).trans (h c' hc')
theorem su_e {σ : Sto} {c i : Nat} {v : Int32} : su σ c i v c i = v := by rw [su_row, upd_s]
theorem su_o {σ : Sto} {c i j : Nat} {v : Int32} (h : j ≠ i) : su σ c i v c j = σ c j := by rw [su_row, upd_n h]
theorem su_at {σ : Sto} {c i : Nat} {v : Int32} (c' j : Nat) : su σ c i v c' j = if c' = c ∧ j = i then v else σ c' j := by
  by_cases h : c' = c
  · subst h
    by_cases h2 : j = i
    · subst h2; simp [su_e]
    · simp [su_o h2, h2]
  · simp [su_ne h, h]
theorem bs {a : Rs} {f : Rs → Option Rs} : (some a).bind f = f a := rfl
theorem n10 : ¬ (1 : Int32) = 0 := by decide
theorem b2F : b2 false = 0 := rfl
theorem b2T : b2 true = 1 := rfl
theorem ib6 {p : Nat} (h : p < 6) : inb (nI p) 6 = true := ib h (by decide)
theorem ix6 {p : Nat} (h : p < 6) : (nI p).toNatClampNeg = p := ix h (by decide)
end
section
/-! THE STRAND, as numbers: how many people, the hour, out, in the boat, fetched, the law; then rows: kind, more, place, hidden, waited -/
abbrev Rw : Type := Nat → Int32
abbrev St : Type := (Nat × Int32 × Int32 × Int32 × Int32 × Nat) × Rw × Rw × Rw × Rw × Rw
def sN (t : St) : Nat := t.1.1
def sH (t : St) : Int32 := t.1.2.1
def sO (t : St) : Int32 := t.1.2.2.1
def sB (t : St) : Int32 := t.1.2.2.2.1
def sF (t : St) : Int32 := t.1.2.2.2.2.1
def sL (t : St) : Nat := t.1.2.2.2.2.2
def rK (t : St) : Rw := t.2.1
def rM (t : St) : Rw := t.2.2.1
def rP (t : St) : Rw := t.2.2.2.1
def rD (t : St) : Rw := t.2.2.2.2.1
def rW (t : St) : Rw := t.2.2.2.2.2
def pK (t : St) (f : Rw) : St := (t.1, f, t.2.2)
def pM (t : St) (f : Rw) : St := (t.1, t.2.1, f, t.2.2.2)
def pP (t : St) (f : Rw) : St := (t.1, t.2.1, t.2.2.1, f, t.2.2.2.2)
def pD (t : St) (f : Rw) : St := (t.1, t.2.1, t.2.2.1, t.2.2.2.1, f, t.2.2.2.2.2)
def pW (t : St) (f : Rw) : St := (t.1, t.2.1, t.2.2.1, t.2.2.2.1, t.2.2.2.2.1, f)
def uH (t : St) (v : Int32) : St := ((sN t, v, sO t, sB t, sF t, sL t), t.2)
def uO (t : St) (v : Int32) : St := ((sN t, sH t, v, sB t, sF t, sL t), t.2)
def uB (t : St) (v : Int32) : St := ((sN t, sH t, sO t, v, sF t, sL t), t.2)
def uF (t : St) (v : Int32) : St := ((sN t, sH t, sO t, sB t, v, sL t), t.2)
def uL (t : St) (v : Nat) : St := ((sN t, sH t, sO t, sB t, sF t, v), t.2)
def uN (t : St) (v : Nat) : St := ((v, sH t, sO t, sB t, sF t, sL t), t.2)
/-- the texts: of each its three parts, as they are reckoned: what is below -6 joins or turns what was before, the rest is put down -/
abbrev TXT : Type := Nat → Nat → List Int32
def seenS (t : St) (p : Nat) : Bool := decide (¬ rP t p = -1) && decide (rD t p = 0)
def cntS (t : St) : Nat → Nat
  | 0 => 0
  | m + 1 => if seenS t m = true then cntS t m + 1 else cntS t m
def envS (t : St) (p : Nat) (c : Int32) : Int32 :=
  if c = -6 then rM t p else if c = -5 then sF t else if c = -4 then nI (cntS t (sN t)) else if c = -3 then sH t else if c = -2 then rW t p
  else if c = -1 then (if rP t p = -1 then 0 else rP t p) else nI (cntS t (sN t))
def joinS (c x y : Int32) : Int32 :=
  if c = -15 then x * y else if c = -14 then x - y else if c = -13 then x + y else if c = -12 then (if x = y then 1 else 0) else if c = -11 then (if x < y then 1 else 0)
  else if c = -10 then (if x = 0 then 0 else if y = 0 then 0 else 1) else if c = -9 then (if x = 0 then (if y = 0 then 0 else 1) else 1) else 0
def stepC (env : Int32 → Int32) (c : Int32) (st : List Int32) : List Int32 :=
  if c < -6 then (if c < -8 then (match st with
      | y :: x :: r => joinS c x y :: r
      | _ => []) else (match st with
      | x :: r => (if c = -7 then -x else if x = 0 then 1 else 0) :: r
      | _ => []))
  else (if c < 0 then env c else c) :: st
def evC (env : Int32 → Int32) : List Int32 → List Int32 → List Int32
  | [], st => st
  | c :: cs, st => evC env cs (stepC env c st)
def headI (l : List Int32) : Int32 := match l with
  | x :: _ => x
  | [] => 0
def clampS (lo v : Int32) : Int32 := maxI lo (minI 99 v)
def saysS (TX : TXT) (t : St) (part p : Nat) : Int32 := clampS (if part = 0 then 0 else -99) (headI (evC (envS t p) (TX (sL t) part) []))
/-- how many numbers lie there behind a text's reckoning, if it never wants one -/
def wfL : Nat → List Int32 → Option Nat
  | d, [] => some d
  | d, c :: cs => if c < -6 then (if c < -8 then (match d with
      | d + 2 => wfL (d + 1) cs
      | _ => none) else (match d with
      | d + 1 => wfL (d + 1) cs
      | _ => none)) else wfL (d + 1) cs
def gapS (TX : TXT) (t : St) (p : Nat) : Int32 :=
  if rK t p = 1 then saysS TX t 0 p / 2 else if rK t p = 2 then saysS TX t 0 p + rM t p else if rK t p = 3 then saysS TX t 0 p / 2 else if rK t p = 4 then saysS TX t 0 p + rM t p
  else if rK t p = 5 then 0 else saysS TX t 0 p
def modS (x m : Int32) : Int32 := x - x / m * m
def likedS (TX : TXT) (t : St) (p : Nat) : Int32 :=
  if rK t p = 1 then saysS TX t 1 p - rM t p else if rK t p = 2 then saysS TX t 1 p else if rK t p = 3 then (if modS (sH t) 4 = 0 then 99 else saysS TX t 1 p - rM t p)
  else if rK t p = 4 then -saysS TX t 1 p else if rK t p = 5 then 10 * rM t p else saysS TX t 1 p
def distS (t : St) (q p : Nat) : Int32 := absI (rP t q - rP t p)
def nearS (t : St) (p : Nat) (g : Int32) : Nat → Bool
  | 0 => false
  | m + 1 => nearS t p g m || (decide (m ≠ p) && seenS t m && decide (distS t m p < g))
def aloneS (TX : TXT) (t : St) (p : Nat) : Bool := seenS t p && !nearS t p (gapS TX t p) (sN t)
def farS (t : St) (p : Nat) : Nat → Int32
  | 0 => -1
  | m + 1 => if m = p then farS t p m else if seenS t m = false then farS t p m else if rP t p = -1 then farS t p m
    else if farS t p m = -1 then distS t m p else minI (farS t p m) (distS t m p)
def walksS (TX : TXT) (t : St) (p : Nat) : Int32 :=
  if rK t p = 2 then saysS TX t 2 p + b2 (aloneS TX t p) else if rK t p = 3 then (if aloneS TX t p = true then 0 else -1 - saysS TX t 2 p)
  else if rK t p = 4 then (if modS (sH t) 2 = 0 then rM t p else -rM t p) else saysS TX t 2 p
def overS (t : St) (p : Nat) : Bool := decide (rP t p = -1) && decide (¬ sB t = nI p)
/-- who of the first m is chosen, and how he is liked -/
def choS (TX : TXT) (t : St) : Nat → Int32 × Int32
  | 0 => (-1, 0)
  | m + 1 => if aloneS TX t m = false then choS TX t m else if (choS TX t m).1 = -1 then (nI m, likedS TX t m) else if (choS TX t m).2 < likedS TX t m then (nI m, likedS TX t m) else choS TX t m
def choiceS (TX : TXT) (t : St) : Int32 := (choS TX t (sN t)).1
def goOnS (t : St) (p : Nat) (far : Int32) : St := pP t (upd (rP t) p (maxI 0 (minI 63 (rP t p + far))))
def waitS (t : St) (p : Nat) : St := pW t (upd (rW t) p (minI 99 (rW t p + 1)))
def fetchS (t : St) (p : Nat) : St := uF (uB (pP (uO t (1 + absI (2 * rP t p - 63) / 20)) (upd (rP t) p (-1))) (nI p)) (minI 9999 (sF t + 1))
def walk1S (TX : TXT) (t : St) (p : Nat) : St := if rP t p = -1 then t else waitS (goOnS t p (walksS TX t p)) p
def walkS (TX : TXT) (t : St) : Nat → St
  | 0 => t
  | m + 1 => walk1S TX (walkS TX t m) m
/-- the hour's first half: who is fetched -/
def whoS (TX : TXT) (t : St) : Int32 := if 0 < sO t then -1 else choiceS TX t
def ferryS (TX : TXT) (t : St) : St := if 0 < sO t then (if sO t - 1 = 0 then uB (uO t (sO t - 1)) (-1) else uO t (sO t - 1)) else if choiceS TX t = -1 then t else fetchS t (choiceS TX t).toNatClampNeg
def hourS (TX : TXT) (t : St) : St := uH (walkS TX (ferryS TX t) (sN t)) (sH t + 1)
/-- the first m whose f holds, as bits -/
def bitsS (f : Nat → Bool) : Nat → Int32
  | 0 => 0
  | m + 1 => if f m = true then bitsS f m ||| (1 <<< (nI m &&& 31)) else bitsS f m
/-! what is well: numbers within their bounds -/
def okP (t : St) (i : Nat) : Prop := (0 ≤ (rK t i).toInt ∧ (rK t i).toInt ≤ 5) ∧ (0 ≤ (rM t i).toInt ∧ (rM t i).toInt ≤ 9) ∧ (-1 ≤ (rP t i).toInt ∧ (rP t i).toInt ≤ 63) ∧ (rD t i = 0 ∨ rD t i = 1) ∧ (0 ≤ (rW t i).toInt ∧ (rW t i).toInt ≤ 99)
def Wf (t : St) : Prop := sN t ≤ 6 ∧ sL t < 6 ∧ (0 ≤ (sF t).toInt ∧ (sF t).toInt ≤ 9999) ∧ ∀ i, i < sN t → okP t i
def wfT (TX : TXT) (K : Nat) : Prop := K ≤ 6 ∧ ∀ l, l < K → ∀ part, part < 3 → wfL 0 (TX l part) = some 1 ∧ (TX l part).length ≤ 160 ∧ ∀ x ∈ TX l part, -15 ≤ x.toInt ∧ x.toInt ≤ 9999
/-! THE COMPONENT'S CELLS -/
def RepS (σ : Sto) (c : Nat) (t : St) : Prop := (σ c 6 = nI (sN t) ∧ σ c 7 = sH t ∧ σ c 8 = sO t ∧ σ c 9 = sB t ∧ σ c 10 = sF t ∧ σ c 11 = nI (sL t)) ∧
  ∀ i, i < sN t → σ (c + 1) i = rK t i ∧ σ (c + 2) i = rM t i ∧ σ (c + 3) i = rP t i ∧ σ (c + 4) i = rD t i ∧ σ (c + 5) i = rW t i
def TxS (σ : Sto) (TX : TXT) (K : Nat) : Prop := ∀ l, l < K → ∀ part, part < 3 → ∃ b, b + (TX l part).length ≤ 960 ∧ σ 4 (3 * l + part) = nI b ∧ σ 5 (3 * l + part) = nI (b + (TX l part).length) ∧ ∀ j x, (TX l part)[j]? = some x → σ 3 (b + j) = x
theorem RepS.fr {l : List Nat} {σ σ' : Sto} {c : Nat} {t : St} (h : RepS σ c t) (hf : Fr l σ σ') (h0 : ∀ j, j < 6 → c + j ∉ l) : RepS σ' c t := by
  have e0 : σ' c = σ c := hf c (h0 0 (by omega))
  have e1 := hf (c + 1) (h0 1 (by omega))
  have e2 := hf (c + 2) (h0 2 (by omega))
  have e3 := hf (c + 3) (h0 3 (by omega))
  have e4 := hf (c + 4) (h0 4 (by omega))
  have e5 := hf (c + 5) (h0 5 (by omega))
  refine ⟨by rw [e0]; exact h.1, fun i hi => ?_⟩
  rw [e1, e2, e3, e4, e5]
  exact h.2 i hi
theorem TxS.fr {l : List Nat} {σ σ' : Sto} {TX : TXT} {K : Nat} (h : TxS σ TX K) (hf : Fr l σ σ') (h3 : 3 ∉ l) (h4 : 4 ∉ l) (h5 : 5 ∉ l) : TxS σ' TX K := by
  intro a ha part hp
  rw [hf 3 h3, hf 4 h4, hf 5 h5]
  exact h a ha part hp
theorem RepS.congr {σ : Sto} {c : Nat} {t t' : St} (h : RepS σ c t) (h1 : t'.1 = t.1) (h2 : ∀ i, i < sN t → rK t' i = rK t i ∧ rM t' i = rM t i ∧ rP t' i = rP t i ∧ rD t' i = rD t i ∧ rW t' i = rW t i) : RepS σ c t' := by
  have e1 : sN t' = sN t := congrArg (·.1) h1
  refine ⟨?_, fun i hi => ?_⟩
  · unfold sN sH sO sB sF sL
    rw [h1]
    exact h.1
  · rw [e1] at hi
    obtain ⟨a1, a2, a3, a4, a5⟩ := h2 i hi
    rw [a1, a2, a3, a4, a5]
    exact h.2 i hi
end
section
/-! THE COMPONENT: what is asked of a strand -/
theorem RepS.n {σ : Sto} {c : Nat} {t : St} (h : RepS σ c t) : σ c 6 = nI (sN t) := h.1.1
theorem RepS.H {σ : Sto} {c : Nat} {t : St} (h : RepS σ c t) : σ c 7 = sH t := h.1.2.1
theorem RepS.O {σ : Sto} {c : Nat} {t : St} (h : RepS σ c t) : σ c 8 = sO t := h.1.2.2.1
theorem RepS.B {σ : Sto} {c : Nat} {t : St} (h : RepS σ c t) : σ c 9 = sB t := h.1.2.2.2.1
theorem RepS.F {σ : Sto} {c : Nat} {t : St} (h : RepS σ c t) : σ c 10 = sF t := h.1.2.2.2.2.1
theorem RepS.L {σ : Sto} {c : Nat} {t : St} (h : RepS σ c t) : σ c 11 = nI (sL t) := h.1.2.2.2.2.2
theorem RepS.K {σ : Sto} {c : Nat} {t : St} (h : RepS σ c t) {p : Nat} (hp : p < sN t) : σ (c + 1) p = rK t p := (h.2 p hp).1
theorem RepS.M {σ : Sto} {c : Nat} {t : St} (h : RepS σ c t) {p : Nat} (hp : p < sN t) : σ (c + 2) p = rM t p := (h.2 p hp).2.1
theorem RepS.P {σ : Sto} {c : Nat} {t : St} (h : RepS σ c t) {p : Nat} (hp : p < sN t) : σ (c + 3) p = rP t p := (h.2 p hp).2.2.1
theorem RepS.D {σ : Sto} {c : Nat} {t : St} (h : RepS σ c t) {p : Nat} (hp : p < sN t) : σ (c + 4) p = rD t p := (h.2 p hp).2.2.2.1
theorem RepS.W {σ : Sto} {c : Nat} {t : St} (h : RepS σ c t) {p : Nat} (hp : p < sN t) : σ (c + 5) p = rW t p := (h.2 p hp).2.2.2.2
theorem RepS.f6 {σ σ' : Sto} {c : Nat} {t : St} (h : RepS σ c t) (hc : c = 12 ∨ c = 18 ∨ c = 24) (hf : Fr [6] σ σ') : RepS σ' c t := by
  refine h.fr hf fun j hj hm => ?_
  rw [List.mem_singleton] at hm
  omega
theorem TxS.f6 {σ σ' : Sto} {TX : TXT} {K : Nat} (h : TxS σ TX K) (hf : Fr [6] σ σ') : TxS σ' TX K := h.fr hf (by decide) (by decide) (by decide)
theorem c_seen {k c : Nat} (hc : c = 12 ∨ c = 18 ∨ c = 24) {σ : Sto} {t : St} (hr : RepS σ c t) (hN : sN t ≤ 6) {p : Nat} (hp : p < sN t) : C nS_isSeen k [.ref c, .int (nI p)] σ = some (b2 (seenS t p), 0, σ) := by
  have h6 : p < 6 := by omega
  rw [eS_isSeen k c hc]
  simp only [ib6 h6, ix6 h6, hr.P hp, hr.D hp, ↓reduceIte]
  unfold seenS
  by_cases h1 : rP t p = -1
  · simp [h1, b2]
  · by_cases h2 : rD t p = 0 <;> simp [h1, h2, b2]
theorem c_over {k c : Nat} (hc : c = 12 ∨ c = 18 ∨ c = 24) {σ : Sto} {t : St} (hr : RepS σ c t) (hN : sN t ≤ 6) {p : Nat} (hp : p < sN t) : C nS_isOver k [.ref c, .int (nI p)] σ = some (b2 (overS t p), 0, σ) := by
  have h6 : p < 6 := by omega
  rw [eS_isOver k c hc]
  simp only [ib6 h6, ix6 h6, hr.P hp, hr.B, ↓reduceIte]
  unfold overS
  by_cases h1 : rP t p = -1
  · by_cases h2 : sB t = nI p <;> simp [h1, h2, b2]
  · simp [h1, b2]
theorem c_cnt {k c : Nat} (hc : c = 12 ∨ c = 18 ∨ c = 24) {σ : Sto} {t : St} (hr : RepS σ c t) (hN : sN t ≤ 6) {v1 v2 : Int32} : ∀ d m, m + d = sN t →
    R nS_valueOf k 35 [.ref c, .int v1, .int v2, .int (nI (cntS t m)), .int (nI m)] [] σ = some (nI (cntS t (sN t)), 0, σ) := by
  intro d
  induction d with
  | zero =>
    intro m hm
    rw [eS_valueOf_35 k c hc, hr.n, if_neg (nI_nlt (by omega) (by omega)), show m = sN t by omega]
  | succ d ih =>
    intro m hm
    have h1 : m < sN t := by omega
    have h6 : m < 6 := by omega
    have h2 := ih (m + 1) (by omega)
    have h3 : cntS t (m + 1) = if seenS t m = true then cntS t m + 1 else cntS t m := rfl
    rw [eS_valueOf_35 k c hc, hr.n, if_pos (nI_lt h1 (by omega))]
    simp only [ib6 h6, ix6 h6, hr.P h1, hr.D h1, ↓reduceIte, nI_1]
    rw [h3] at h2
    unfold seenS at h2
    by_cases h4 : rP t m = -1
    · simp [h4] at h2 ⊢
      exact h2
    · by_cases h5 : rD t m = 0
      · simp [h4, h5] at h2 ⊢
        exact h2
      · simp [h4, h5] at h2 ⊢
        exact h2
theorem c_val {k c : Nat} (hc : c = 12 ∨ c = 18 ∨ c = 24) {σ : Sto} {t : St} (hr : RepS σ c t) (hN : sN t ≤ 6) {p : Nat} (hp : p < sN t) (x : Int32) : C nS_valueOf k [.ref c, .int x, .int (nI p)] σ = some (envS t p x, 0, σ) := by
  have h6 : p < 6 := by omega
  have h0 : R nS_valueOf k 35 [.ref c, .int x, .int (nI p), .int 0, .int 0] [] σ = some (nI (cntS t (sN t)), 0, σ) := c_cnt hc hr hN (sN t) 0 (Nat.zero_add _)
  rw [eS_valueOf k c hc]
  simp only [ib6 h6, ix6 h6, hr.P hp, hr.M hp, hr.W hp, hr.F, hr.H, h0, ↓reduceIte]
  unfold envS
  by_cases h1 : x = -6
  · rw [if_pos h1, if_pos h1]
  rw [if_neg h1, if_neg h1]
  by_cases h1 : x = -5
  · rw [if_pos h1, if_pos h1]
  rw [if_neg h1, if_neg h1]
  by_cases h1 : x = -4
  · rw [if_pos h1, if_pos h1]
  rw [if_neg h1, if_neg h1]
  by_cases h1 : x = -3
  · rw [if_pos h1, if_pos h1]
  rw [if_neg h1, if_neg h1]
  by_cases h1 : x = -2
  · rw [if_pos h1, if_pos h1]
  rw [if_neg h1, if_neg h1]
  by_cases h1 : x = -1
  · rw [if_pos h1, if_pos h1]
    split <;> rfl
  rw [if_neg h1, if_neg h1]
theorem c_joined {k : Nat} (c x y : Int32) (σ : Sto) : C nT_joined k [.int c, .int x, .int y] σ = some (joinS c x y, 0, σ) := by
  rw [eT_joined k]
  unfold joinS
  by_cases h1 : c = -15
  · rw [if_pos h1, if_pos h1]
  rw [if_neg h1, if_neg h1]
  by_cases h1 : c = -14
  · rw [if_pos h1, if_pos h1]
  rw [if_neg h1, if_neg h1]
  by_cases h1 : c = -13
  · rw [if_pos h1, if_pos h1]
  rw [if_neg h1, if_neg h1]
  by_cases h1 : c = -12
  · rw [if_pos h1, if_pos h1]
    split <;> rfl
  rw [if_neg h1, if_neg h1]
  by_cases h1 : c = -11
  · rw [if_pos h1, if_pos h1]
    split <;> rfl
  rw [if_neg h1, if_neg h1]
  by_cases h1 : c = -10
  · rw [if_pos h1, if_pos h1]
    split
    · rfl
    · split <;> rfl
  rw [if_neg h1, if_neg h1]
  by_cases h1 : c = -9
  · rw [if_pos h1, if_pos h1]
    split
    · split <;> rfl
    · rfl
  rw [if_neg h1, if_neg h1]
def PileR (r : Rw) : List Int32 → Prop
  | [] => True
  | x :: l => r l.length = x ∧ PileR r l
theorem PileR.up {r : Rw} {v : Int32} {i : Nat} : ∀ {l : List Int32}, PileR r l → l.length ≤ i → PileR (upd r i v) l := by
  intro l
  induction l with
  | nil => intro _ _; trivial
  | cons x l ih =>
    intro h hi
    rw [List.length_cons] at hi
    exact ⟨by rw [upd_n (by omega)]; exact h.1, ih h.2 (by omega)⟩
theorem PileR.push {r : Rw} {v : Int32} {l : List Int32} (h : PileR r l) : PileR (upd r l.length v) (v :: l) := ⟨upd_s, h.up (Nat.le_refl _)⟩
def tp : Nat → Int32
  | 0 => -1
  | n + 1 => nI n
theorem tp_1 (n : Nat) : tp n + 1 = nI n := by
  cases n with
  | zero => decide
  | succ n => exact nI_1 n
theorem tp_m (n : Nat) : tp (n + 1) + (-1) = tp n := by
  cases n with
  | zero => decide
  | succ n =>
    show nI (n + 1) + -1 = nI n
    rw [← nI_pred n, Int32.sub_eq_add_neg]
theorem tp_neg : tp 0 < 0 := by decide
theorem su6 {σ : Sto} {i : Nat} {v : Int32} : su σ 6 i v 6 = upd (σ 6) i v := su_row
theorem c_saysL {k c : Nat} (hc : c = 12 ∨ c = 18 ∨ c = 24) {t : St} (hN : sN t ≤ 6) {p part q : Nat} (hp : p < sN t) (hpart : part < 3) (hq : q < 18) : ∀ (cs st : List Int32) (σ : Sto) (m : Nat) (u : Value), PileR (σ 6) st → RepS σ c t →
    σ 5 q = nI (m + cs.length) → (∀ j x, cs[j]? = some x → σ 3 (m + j) = x) → m + cs.length ≤ 960 → st.length + cs.length ≤ 160 → wfL st.length cs = some 1 →
    ∃ σ', R nT_says k 14 [.ref 2, .int (nI part), .ref c, .int (nI p), .int (nI q), .int (tp st.length), .int (nI m), u] [] σ = some (clampS (if part = 0 then 0 else -99) (headI (evC (envS t p) cs st)), 0, σ') ∧ Fr [6] σ σ' := by
  intro cs
  induction cs with
  | nil =>
    intro st σ m u hP hr h5 h3 hm hl hw
    have hq1 : inb (nI q) 18 = true := ib hq (by decide)
    have hq2 : (nI q).toNatClampNeg = q := ix hq (by decide)
    have e0 : ([] : List Int32).length = 0 := rfl
    rw [e0, Nat.add_zero] at h5
    rw [eT_says_14 k c hc, if_pos hq1, hq2, h5, if_neg (nI_nlt (Nat.le_refl _) (by omega)), eT_says_99 k c hc]
    have hd : st.length = 1 := Option.some.inj hw
    match st, hd, hP with
    | [x], _, hP =>
      have h6 : σ 6 0 = x := hP.1
      have e1 : tp [x].length = nI 0 := rfl
      rw [e1, if_neg (by decide : ¬ nI 0 < 0), if_pos (by decide : inb (nI 0) 160 = true)]
      have e2 : (nI 0).toNatClampNeg = 0 := by decide
      rw [e2, h6]
      refine ⟨σ, ?_, Fr.rf⟩
      by_cases h0 : part = 0
      · subst h0
        rw [if_pos (by decide : nI 0 = 0)]
        rfl
      · have h01 : ¬ nI part = 0 := nI_ne0 (by omega) (by omega)
        rw [if_neg h01, if_neg h0]
        rfl
  | cons z cs ih =>
    intro st σ m u hP hr h5 h3 hm hl hw
    rw [List.length_cons] at h5 hm hl
    have hq1 : inb (nI q) 18 = true := ib hq (by decide)
    have hq2 : (nI q).toNatClampNeg = q := ix hq (by decide)
    have hm1 : inb (nI m) 960 = true := ib (by omega) (by decide)
    have hm2 : (nI m).toNatClampNeg = m := ix (n := 960) (by omega) (by decide)
    have hz : σ 3 m = z := h3 0 z rfl
    have h3' : ∀ j x, cs[j]? = some x → σ 3 (m + 1 + j) = x := by
      intro j x hj
      have := h3 (j + 1) x (by rw [List.getElem?_cons_succ]; exact hj)
      rw [← this]
      congr 1
      omega
    have h5' : σ 5 q = nI (m + 1 + cs.length) := by
      rw [h5]
      congr 1
      omega
    rw [eT_says_14 k c hc, if_pos hq1, hq2, h5, if_pos (nI_lt (by omega) (by omega)), eT_says_20 k c hc, if_pos hm1, hm2, hz]
    by_cases hz6 : z < -6
    · rw [if_pos hz6, eT_says_47 k c hc]
      by_cases hz8 : z < -8
      · rw [if_pos hz8]
        match st, hP, hl, hw with
        | y :: x :: st, hP, hl, hw =>
          have hw' : wfL (st.length + 1) cs = some 1 := by
            have h0 : wfL (st.length + 2) (z :: cs) = if z < -6 then (if z < -8 then wfL (st.length + 1) cs else wfL (st.length + 2) cs) else wfL (st.length + 3) cs := rfl
            have h1 : wfL (st.length + 2) (z :: cs) = some 1 := hw
            rw [h0, if_pos hz6, if_pos hz8] at h1
            exact h1
          rw [List.length_cons, List.length_cons] at hl
          rw [List.length_cons, List.length_cons, tp_m, eT_says_77 k c hc]
          have e1 : tp (st.length + 1) = nI st.length := rfl
          have i1 : inb (nI st.length) 160 = true := ib (by omega) (by decide)
          have i2 : inb (nI (st.length + 1)) 160 = true := ib (by omega) (by decide)
          have i3 : (nI st.length).toNatClampNeg = st.length := ix (n := 160) (by omega) (by decide)
          have i4 : (nI (st.length + 1)).toNatClampNeg = st.length + 1 := ix (n := 160) (by omega) (by decide)
          have p1 : σ 6 (st.length + 1) = y := hP.1
          have p2 : σ 6 st.length = x := hP.2.1
          rw [e1, if_neg (nI_pos (by omega)), if_pos i1, nI_1, if_pos i2, i3, i4, p1, p2, c_joined, bs]
          simp only [i1, ↓reduceIte, nI_1]
          obtain ⟨σ', e, f⟩ := ih (joinS z x y :: st) (su σ 6 st.length (joinS z x y)) (m + 1) (.int z) (by rw [su6]; exact hP.2.2.push) (hr.f6 hc (Fr.rf.su (List.mem_singleton.mpr rfl)))
            (by rw [su_ne (by decide)]; exact h5') (by rw [su_ne (by decide)]; exact h3') (by omega) (by rw [List.length_cons]; omega) hw'
          refine ⟨σ', ?_, (Fr.rf.su (List.mem_singleton.mpr rfl)).tr f⟩
          have e3 : evC (envS t p) (z :: cs) (y :: x :: st) = evC (envS t p) cs (joinS z x y :: st) := by
            show evC (envS t p) cs (stepC (envS t p) z (y :: x :: st)) = _
            unfold stepC
            rw [if_pos hz6, if_pos hz8]
          rw [e3]
          exact e
        | [x], hP, hl, hw =>
          have h0 : wfL 1 (z :: cs) = if z < -6 then (if z < -8 then none else wfL 1 cs) else wfL 2 cs := rfl
          have h1 : wfL 1 (z :: cs) = some 1 := hw
          rw [h0, if_pos hz6, if_pos hz8] at h1
          cases h1
        | [], hP, hl, hw =>
          have h0 : wfL 0 (z :: cs) = if z < -6 then (if z < -8 then none else none) else wfL 1 cs := rfl
          have h1 : wfL 0 (z :: cs) = some 1 := hw
          rw [h0, if_pos hz6, if_pos hz8] at h1
          cases h1
      · rw [if_neg hz8]
        match st, hP, hl, hw with
        | [], hP, hl, hw =>
          have h0 : wfL 0 (z :: cs) = if z < -6 then (if z < -8 then none else none) else wfL 1 cs := rfl
          have h1 : wfL 0 (z :: cs) = some 1 := hw
          rw [h0, if_pos hz6, if_neg hz8] at h1
          cases h1
        | x :: st, hP, hl, hw =>
          have hw' : wfL (st.length + 1) cs = some 1 := by
            have h1 : wfL (st.length + 1) (z :: cs) = some 1 := hw
            have h0 : ∀ d, wfL (d + 1) (z :: cs) = if z < -6 then (if z < -8 then (match d + 1 with | d + 2 => wfL (d + 1) cs | _ => none) else wfL (d + 1) cs) else wfL (d + 2) cs := fun _ => rfl
            rw [h0, if_pos hz6, if_neg hz8] at h1
            exact h1
          rw [List.length_cons] at hl
          have e1 : tp (x :: st).length = nI st.length := rfl
          have i1 : inb (nI st.length) 160 = true := ib (by omega) (by decide)
          have i3 : (nI st.length).toNatClampNeg = st.length := ix (n := 160) (by omega) (by decide)
          have p1 : σ 6 st.length = x := hP.1
          have p2 : PileR (σ 6) st := hP.2
          have fin : ∀ v, v = (if z = -7 then -x else if x = 0 then 1 else 0) → ∃ σ', R nT_says k 14 [.ref 2, .int (nI part), .ref c, .int (nI p), .int (nI q), .int (nI st.length), .int (nI (m + 1)), .int z] [] (su σ 6 st.length v) =
              some (clampS (if part = 0 then 0 else -99) (headI (evC (envS t p) (z :: cs) (x :: st))), 0, σ') ∧ Fr [6] σ σ' := by
            intro v hv
            obtain ⟨σ', e, f⟩ := ih (v :: st) (su σ 6 st.length v) (m + 1) (.int z) (by rw [su6]; exact p2.push) (hr.f6 hc (Fr.rf.su (List.mem_singleton.mpr rfl)))
              (by rw [su_ne (by decide)]; exact h5') (by rw [su_ne (by decide)]; exact h3') (by omega) (by rw [List.length_cons]; omega) hw'
            refine ⟨σ', ?_, (Fr.rf.su (List.mem_singleton.mpr rfl)).tr f⟩
            have e3 : evC (envS t p) (z :: cs) (x :: st) = evC (envS t p) cs (v :: st) := by
              show evC (envS t p) cs (stepC (envS t p) z (x :: st)) = _
              unfold stepC
              rw [if_pos hz6, if_neg hz8, hv]
            rw [e3]
            exact e
          rw [e1, if_neg (nI_pos (by omega))]
          simp only [i1, i3, p1, ↓reduceIte, nI_1]
          by_cases hz7 : z = -7
          · rw [if_pos hz7]
            exact fin _ (by rw [if_pos hz7])
          · rw [if_neg hz7]
            by_cases hx : x = 0
            · rw [if_pos hx]
              exact fin _ (by rw [if_neg hz7, if_pos hx])
            · rw [if_neg hx]
              exact fin _ (by rw [if_neg hz7, if_neg hx])
    · rw [if_neg hz6, eT_says_28 k c hc, tp_1]
      have i1 : inb (nI st.length) 160 = true := ib (by omega) (by decide)
      have i3 : (nI st.length).toNatClampNeg = st.length := ix (n := 160) (by omega) (by decide)
      have hw' : wfL (st.length + 1) cs = some 1 := by
        have h0 : ∀ d, wfL d (z :: cs) = if z < -6 then (if z < -8 then (match d with | d + 2 => wfL (d + 1) cs | _ => none) else (match d with | d + 1 => wfL (d + 1) cs | _ => none)) else wfL (d + 1) cs := fun _ => rfl
        rw [h0, if_neg hz6] at hw
        exact hw
      have fin : ∀ v, v = (if z < 0 then envS t p z else z) → ∃ σ', R nT_says k 14 [.ref 2, .int (nI part), .ref c, .int (nI p), .int (nI q), .int (nI st.length), .int (nI (m + 1)), .int z] [] (su σ 6 st.length v) =
          some (clampS (if part = 0 then 0 else -99) (headI (evC (envS t p) (z :: cs) st)), 0, σ') ∧ Fr [6] σ σ' := by
        intro v hv
        obtain ⟨σ', e, f⟩ := ih (v :: st) (su σ 6 st.length v) (m + 1) (.int z) (by rw [su6]; exact hP.push) (hr.f6 hc (Fr.rf.su (List.mem_singleton.mpr rfl)))
          (by rw [su_ne (by decide)]; exact h5') (by rw [su_ne (by decide)]; exact h3') (by omega) (by rw [List.length_cons]; omega) hw'
        refine ⟨σ', ?_, (Fr.rf.su (List.mem_singleton.mpr rfl)).tr f⟩
        have e3 : evC (envS t p) (z :: cs) st = evC (envS t p) cs (v :: st) := by
          show evC (envS t p) cs (stepC (envS t p) z st) = _
          unfold stepC
          rw [if_neg hz6, hv]
        rw [e3]
        exact e
      rw [if_pos (show nI st.length < 160 from nI_lt (b := 160) (by omega) (by decide))]
      by_cases h0 : z < 0
      · rw [if_pos h0, c_val hc hr hN hp, bs]
        simp only [i1, i3, ↓reduceIte, nI_1]
        exact fin _ (by rw [if_pos h0])
      · rw [if_neg h0]
        simp only [i1, i3, ↓reduceIte, nI_1]
        exact fin _ (by rw [if_neg h0])
theorem nI_3 (a b : Nat) : nI a * 3 + nI b = nI (3 * a + b) := by
  show nI a * nI 3 + nI b = _
  rw [pk_mul, nI_add, Nat.mul_comm]
theorem c_says {k c : Nat} (hc : c = 12 ∨ c = 18 ∨ c = 24) {σ : Sto} {t : St} {TX : TXT} {K : Nat} (hr : RepS σ c t) (hx : TxS σ TX K) (hN : sN t ≤ 6) (hL : sL t < K) (hT : wfT TX K) {p part : Nat} (hp : p < sN t) (hpart : part < 3) :
    ∃ σ', C nT_says k [.ref 2, .int (nI part), .ref c, .int (nI p)] σ = some (saysS TX t part p, 0, σ') ∧ Fr [6] σ σ' := by
  have hL6 : sL t < 6 := Nat.lt_of_lt_of_le hL hT.1
  obtain ⟨h1, h2, h3⟩ := hT.2 (sL t) hL part hpart
  obtain ⟨b, hb, hf, hto, hcode⟩ := hx (sL t) hL part hpart
  rw [eT_says k c hc, hr.L, nI_3, if_pos (ib (by omega) (by decide)), ix (n := 18) (by omega) (by decide), hf]
  exact c_saysL hc hN hp hpart (by omega) (TX (sL t) part) [] σ b .null trivial hr hto hcode hb (by rw [List.length_nil]; omega) h1
end
section
/-- what the strand's askings want of a store -/
def At (σ : Sto) (c : Nat) (TX : TXT) (K : Nat) (t : St) : Prop := RepS σ c t ∧ TxS σ TX K
def Ok (TX : TXT) (K : Nat) (t : St) : Prop := Wf t ∧ sL t < K ∧ wfT TX K
theorem At.f6 {σ σ' : Sto} {c : Nat} {TX : TXT} {K : Nat} {t : St} (h : At σ c TX K t) (hc : c = 12 ∨ c = 18 ∨ c = 24) (hf : Fr [6] σ σ') : At σ' c TX K t := ⟨h.1.f6 hc hf, h.2.f6 hf⟩
theorem Ok.n {TX : TXT} {K : Nat} {t : St} (h : Ok TX K t) : sN t ≤ 6 := h.1.1
theorem Ok.p {TX : TXT} {K : Nat} {t : St} (h : Ok TX K t) {i : Nat} (hi : i < sN t) : okP t i := h.1.2.2.2 i hi
theorem c_saysA {k c : Nat} (hc : c = 12 ∨ c = 18 ∨ c = 24) {σ : Sto} {t : St} {TX : TXT} {K : Nat} (ha : At σ c TX K t) (ho : Ok TX K t) {p part : Nat} (hp : p < sN t) (hpart : part < 3) :
    ∃ σ', C nT_says k [.ref 2, .int (nI part), .ref c, .int (nI p)] σ = some (saysS TX t part p, 0, σ') ∧ Fr [6] σ σ' := c_says hc ha.1 ha.2 ho.n ho.2.1 ho.2.2 hp hpart
theorem c_gap {k c : Nat} (hc : c = 12 ∨ c = 18 ∨ c = 24) {σ : Sto} {t : St} {TX : TXT} {K : Nat} (ha : At σ c TX K t) (ho : Ok TX K t) {p : Nat} (hp : p < sN t) :
    ∃ σ', C nS_gapAbout k [.ref c, .int (nI p)] σ = some (gapS TX t p, 0, σ') ∧ Fr [6] σ σ' := by
  have h6 : p < 6 := Nat.lt_of_lt_of_le hp ho.n
  obtain ⟨σ', e, f⟩ := c_saysA (k := k) hc ha ho hp (by decide : 0 < 3)
  rw [show nI 0 = 0 from rfl] at e
  have hM := (ha.1.f6 hc f).M hp
  rw [eS_gapAbout k c hc]
  simp only [ib6 h6, ix6 h6, ha.1.K hp, e, bs, hM, ↓reduceIte]
  unfold gapS
  by_cases h1 : rK t p = 1
  · rw [if_pos h1, if_pos h1]; exact ⟨σ', rfl, f⟩
  rw [if_neg h1, if_neg h1]
  by_cases h1 : rK t p = 2
  · rw [if_pos h1, if_pos h1]; exact ⟨σ', rfl, f⟩
  rw [if_neg h1, if_neg h1]
  by_cases h1 : rK t p = 3
  · rw [if_pos h1, if_pos h1]; exact ⟨σ', rfl, f⟩
  rw [if_neg h1, if_neg h1]
  by_cases h1 : rK t p = 4
  · rw [if_pos h1, if_pos h1]; exact ⟨σ', rfl, f⟩
  rw [if_neg h1, if_neg h1]
  by_cases h1 : rK t p = 5
  · rw [if_pos h1, if_pos h1]; exact ⟨σ, rfl, Fr.rf⟩
  rw [if_neg h1, if_neg h1]
  exact ⟨σ', rfl, f⟩
theorem c_liked {k c : Nat} (hc : c = 12 ∨ c = 18 ∨ c = 24) {σ : Sto} {t : St} {TX : TXT} {K : Nat} (ha : At σ c TX K t) (ho : Ok TX K t) {p : Nat} (hp : p < sN t) :
    ∃ σ', C nS_likedHow k [.ref c, .int (nI p)] σ = some (likedS TX t p, 0, σ') ∧ Fr [6] σ σ' := by
  have h6 : p < 6 := Nat.lt_of_lt_of_le hp ho.n
  obtain ⟨σ', e, f⟩ := c_saysA (k := k) hc ha ho hp (by decide : 1 < 3)
  rw [show nI 1 = 1 from rfl] at e
  have hM := (ha.1.f6 hc f).M hp
  rw [eS_likedHow k c hc]
  simp only [ib6 h6, ix6 h6, ha.1.K hp, ha.1.M hp, ha.1.H, e, bs, hM, ↓reduceIte]
  unfold likedS modS
  by_cases h1 : rK t p = 1
  · rw [if_pos h1, if_pos h1]; exact ⟨σ', rfl, f⟩
  rw [if_neg h1, if_neg h1]
  by_cases h1 : rK t p = 2
  · rw [if_pos h1, if_pos h1]; exact ⟨σ', rfl, f⟩
  rw [if_neg h1, if_neg h1]
  by_cases h1 : rK t p = 3
  · rw [if_pos h1, if_pos h1]
    by_cases h2 : sH t - sH t / 4 * 4 = 0
    · rw [if_pos h2, if_pos h2]; exact ⟨σ, rfl, Fr.rf⟩
    · rw [if_neg h2, if_neg h2]; exact ⟨σ', rfl, f⟩
  rw [if_neg h1, if_neg h1]
  by_cases h1 : rK t p = 4
  · rw [if_pos h1, if_pos h1]; exact ⟨σ', rfl, f⟩
  rw [if_neg h1, if_neg h1]
  by_cases h1 : rK t p = 5
  · rw [if_pos h1, if_pos h1]; exact ⟨σ, rfl, Fr.rf⟩
  rw [if_neg h1, if_neg h1]
  exact ⟨σ', rfl, f⟩
theorem near_iff {t : St} {p : Nat} {g : Int32} : ∀ {n : Nat}, nearS t p g n = true ↔ ∃ q, q < n ∧ q ≠ p ∧ seenS t q = true ∧ distS t q p < g := by
  intro n
  induction n with
  | zero => exact ⟨fun h => (by cases h), fun ⟨q, h, _⟩ => (by omega)⟩
  | succ n ih =>
    unfold nearS
    rw [Bool.or_eq_true, ih, Bool.and_eq_true, Bool.and_eq_true, decide_eq_true_eq, decide_eq_true_eq]
    constructor
    · rintro (⟨q, h1, h2⟩ | ⟨⟨h1, h2⟩, h3⟩)
      · exact ⟨q, by omega, h2⟩
      · exact ⟨n, by omega, h1, h2, h3⟩
    · rintro ⟨q, h1, h2, h3, h4⟩
      by_cases hq : q = n
      · subst hq
        exact Or.inr ⟨⟨h2, h3⟩, h4⟩
      · exact Or.inl ⟨q, by omega, h2, h3, h4⟩
theorem near_far {t : St} {p : Nat} {g : Int32} {n q : Nat} (h1 : q < n) (h2 : q ≠ p) (h3 : seenS t q = true) (h4 : distS t q p < g) : nearS t p g n = true := near_iff.mpr ⟨q, h1, h2, h3, h4⟩
theorem c_aloneL {k c : Nat} (hc : c = 12 ∨ c = 18 ∨ c = 24) {σ : Sto} {t : St} (hr : RepS σ c t) (hN : sN t ≤ 6) {p : Nat} (hp : p < sN t) {g : Int32} : ∀ d m, m + d = sN t → nearS t p g m = false →
    R nS_isAlone k 12 [.ref c, .int (nI p), .int g, .int (nI m)] [] σ = some (b2 (!nearS t p g (sN t)), 0, σ) := by
  intro d
  induction d with
  | zero =>
    intro m hm h
    have e : m = sN t := by omega
    subst e
    rw [eS_isAlone_12 k c hc, hr.n, if_neg (nI_nlt (by omega) (by omega)), h]
    rfl
  | succ d ih =>
    intro m hm h
    have h1 : m < sN t := by omega
    have h6 : m < 6 := by omega
    have h6p : p < 6 := by omega
    have e : nearS t p g (m + 1) = (nearS t p g m || (decide (m ≠ p) && seenS t m && decide (distS t m p < g))) := rfl
    rw [eS_isAlone_12 k c hc, hr.n, if_pos (nI_lt h1 (by omega)), c_seen hc hr hN h1, bs]
    simp only [ib6 h6, ix6 h6, ib6 h6p, ix6 h6p, hr.P h1, hr.P hp, ↓reduceIte, nI_1, nI_eq (show m < 2 ^ 31 by omega) (show p < 2 ^ 31 by omega)]
    by_cases h2 : m = p
    · rw [if_pos h2]
      exact ih (m + 1) (by omega) (by rw [e, h]; simp [h2])
    rw [if_neg h2]
    cases h3 : seenS t m with
    | false =>
      rw [b2F, if_pos rfl]
      exact ih (m + 1) (by omega) (by rw [e, h]; simp [h3])
    | true =>
      rw [b2T, if_neg n10]
      by_cases h4 : absI (rP t m - rP t p) < g
      · rw [if_pos h4, near_far h1 h2 h3 h4]
        rfl
      · rw [if_neg h4]
        refine ih (m + 1) (by omega) ?_
        have h5 : ¬ distS t m p < g := h4
        rw [e, h]
        simp [h5]
theorem c_alone {k c : Nat} (hc : c = 12 ∨ c = 18 ∨ c = 24) {σ : Sto} {t : St} {TX : TXT} {K : Nat} (ha : At σ c TX K t) (ho : Ok TX K t) {p : Nat} (hp : p < sN t) :
    ∃ σ', C nS_isAlone k [.ref c, .int (nI p)] σ = some (b2 (aloneS TX t p), 0, σ') ∧ Fr [6] σ σ' := by
  rw [eS_isAlone k c hc, c_seen hc ha.1 ho.n hp, bs]
  unfold aloneS
  cases h : seenS t p with
  | false => exact ⟨σ, rfl, Fr.rf⟩
  | true =>
    obtain ⟨σ', e, f⟩ := c_gap (k := k) hc ha ho hp
    have h2 := c_aloneL (k := k) hc (ha.1.f6 hc f) ho.n hp (g := gapS TX t p) (sN t) 0 (Nat.zero_add _) rfl
    rw [if_neg (show ¬ (b2 true, (0 : Int64), σ).1 = 0 from n10), e, bs]
    exact ⟨σ', h2, f⟩
theorem c_farL {k c : Nat} (hc : c = 12 ∨ c = 18 ∨ c = 24) {σ : Sto} {t : St} (hr : RepS σ c t) (hN : sN t ≤ 6) {p : Nat} (hp : p < sN t) : ∀ d m u, m + d = sN t →
    R nS_farFrom k 4 [.ref c, .int (nI p), .int (farS t p m), .int (nI m), u] [] σ = some (farS t p (sN t), 0, σ) := by
  intro d
  induction d with
  | zero =>
    intro m u hm
    have e : m = sN t := by omega
    subst e
    rw [eS_farFrom_4 k c hc, hr.n, if_neg (nI_nlt (by omega) (by omega))]
  | succ d ih =>
    intro m u hm
    have h1 : m < sN t := by omega
    have h6 : m < 6 := by omega
    have h6p : p < 6 := by omega
    have e : farS t p (m + 1) = if m = p then farS t p m else if seenS t m = false then farS t p m else if rP t p = -1 then farS t p m
      else if farS t p m = -1 then distS t m p else minI (farS t p m) (distS t m p) := rfl
    have h2 := fun u => ih (m + 1) u (by omega)
    rw [e] at h2
    rw [eS_farFrom_4 k c hc, hr.n, if_pos (nI_lt h1 (by omega)), c_seen hc hr hN h1, bs]
    simp only [ib6 h6, ix6 h6, ib6 h6p, ix6 h6p, hr.P h1, hr.P hp, ↓reduceIte, nI_1, nI_eq (show m < 2 ^ 31 by omega) (show p < 2 ^ 31 by omega)]
    by_cases h3 : m = p
    · rw [if_pos h3]
      rw [if_pos h3] at h2
      exact h2 _
    rw [if_neg h3]
    rw [if_neg h3] at h2
    cases h4 : seenS t m with
    | false =>
      rw [if_pos h4] at h2
      rw [b2F, if_pos rfl]
      exact h2 _
    | true =>
      rw [if_neg (by rw [h4]; decide)] at h2
      rw [b2T, if_neg n10]
      by_cases h5 : rP t p = -1
      · rw [if_pos h5] at h2 ⊢
        exact h2 _
      rw [if_neg h5] at h2 ⊢
      by_cases h7 : farS t p m = -1
      · rw [if_pos h7] at h2 ⊢
        exact h2 _
      · rw [if_neg h7] at h2 ⊢
        exact h2 _
theorem c_far {k c : Nat} (hc : c = 12 ∨ c = 18 ∨ c = 24) {σ : Sto} {t : St} (hr : RepS σ c t) (hN : sN t ≤ 6) {p : Nat} (hp : p < sN t) : C nS_farFrom k [.ref c, .int (nI p)] σ = some (farS t p (sN t), 0, σ) := by
  rw [eS_farFrom k c hc]
  exact c_farL hc hr hN hp (sN t) 0 .null (Nat.zero_add _)
theorem c_walks {k c : Nat} (hc : c = 12 ∨ c = 18 ∨ c = 24) {σ : Sto} {t : St} {TX : TXT} {K : Nat} (ha : At σ c TX K t) (ho : Ok TX K t) {p : Nat} (hp : p < sN t) :
    ∃ σ', C nS_walksFar k [.ref c, .int (nI p)] σ = some (walksS TX t p, 0, σ') ∧ Fr [6] σ σ' := by
  have h6 : p < 6 := Nat.lt_of_lt_of_le hp ho.n
  obtain ⟨σ1, e1, f1⟩ := c_saysA (k := k) hc ha ho hp (by decide : 2 < 3)
  obtain ⟨σ2, e2, f2⟩ := c_alone (k := k) hc (ha.f6 hc f1) ho hp
  obtain ⟨σ3, e3, f3⟩ := c_alone (k := k) hc ha ho hp
  obtain ⟨σ4, e4, f4⟩ := c_saysA (k := k) hc (ha.f6 hc f3) ho hp (by decide : 2 < 3)
  rw [show nI 2 = 2 from rfl] at e1 e4
  rw [eS_walksFar k c hc]
  simp only [ib6 h6, ix6 h6, ha.1.K hp, ha.1.M hp, ha.1.H, e1, e2, e3, e4, bs, ↓reduceIte]
  unfold walksS modS
  by_cases h1 : rK t p = 2
  · rw [if_pos h1, if_pos h1]
    cases h2 : aloneS TX t p
    · exact ⟨σ2, rfl, f1.tr f2⟩
    · exact ⟨σ2, rfl, f1.tr f2⟩
  rw [if_neg h1, if_neg h1]
  by_cases h1 : rK t p = 3
  · rw [if_pos h1, if_pos h1]
    cases h2 : aloneS TX t p
    · exact ⟨σ4, rfl, f3.tr f4⟩
    · exact ⟨σ3, rfl, f3⟩
  rw [if_neg h1, if_neg h1]
  by_cases h1 : rK t p = 4
  · rw [if_pos h1, if_pos h1]
    by_cases h2 : sH t - sH t / 2 * 2 = 0
    · rw [if_pos h2, if_pos h2]; exact ⟨σ, rfl, Fr.rf⟩
    · rw [if_neg h2, if_neg h2]; exact ⟨σ, rfl, Fr.rf⟩
  rw [if_neg h1, if_neg h1]
  exact ⟨σ1, rfl, f1⟩
theorem c_choL {k c : Nat} (hc : c = 12 ∨ c = 18 ∨ c = 24) {t : St} {TX : TXT} {K : Nat} (ho : Ok TX K t) : ∀ d m u σ, At σ c TX K t → m + d = sN t →
    ∃ σ', R nS_choice k 6 [.ref c, .int (choS TX t m).1, .int (choS TX t m).2, .int (nI m), u] [] σ = some (choiceS TX t, 0, σ') ∧ Fr [6] σ σ' := by
  intro d
  have hN := ho.n
  induction d with
  | zero =>
    intro m u σ ha hm
    have e : m = sN t := by omega
    subst e
    rw [eS_choice_6 k c hc, ha.1.n, if_neg (nI_nlt (by omega) (by omega))]
    exact ⟨σ, rfl, Fr.rf⟩
  | succ d ih =>
    intro m u σ ha hm
    have h1 : m < sN t := by omega
    have e : choS TX t (m + 1) = if aloneS TX t m = false then choS TX t m else if (choS TX t m).1 = -1 then (nI m, likedS TX t m) else if (choS TX t m).2 < likedS TX t m then (nI m, likedS TX t m) else choS TX t m := rfl
    have h2 := fun u σ ha => ih (m + 1) u σ ha (by omega)
    obtain ⟨σ1, e1, f1⟩ := c_alone (k := k) hc ha ho h1
    have ha1 := ha.f6 hc f1
    obtain ⟨σ2, e2, f2⟩ := c_liked (k := k) hc ha1 ho h1
    have ha2 := ha1.f6 hc f2
    rw [eS_choice_6 k c hc, ha.1.n, if_pos (nI_lt h1 (by omega)), e1, bs]
    simp only [e2, bs, nI_1]
    cases h4 : aloneS TX t m with
    | false =>
      rw [e, if_pos h4] at h2
      obtain ⟨σ3, e3, f3⟩ := h2 u σ1 ha1
      exact ⟨σ3, e3, f1.tr f3⟩
    | true =>
      rw [e, if_neg (by rw [h4]; decide)] at h2
      rw [b2T, if_neg n10]
      by_cases h5 : (choS TX t m).1 = -1
      · rw [if_pos h5] at h2 ⊢
        obtain ⟨σ3, e3, f3⟩ := h2 _ σ2 ha2
        exact ⟨σ3, e3, (f1.tr f2).tr f3⟩
      rw [if_neg h5] at h2 ⊢
      by_cases h7 : (choS TX t m).2 < likedS TX t m
      · rw [if_pos h7] at h2 ⊢
        obtain ⟨σ3, e3, f3⟩ := h2 _ σ2 ha2
        exact ⟨σ3, e3, (f1.tr f2).tr f3⟩
      · rw [if_neg h7] at h2 ⊢
        obtain ⟨σ3, e3, f3⟩ := h2 _ σ2 ha2
        exact ⟨σ3, e3, (f1.tr f2).tr f3⟩
theorem c_choice {k c : Nat} (hc : c = 12 ∨ c = 18 ∨ c = 24) {σ : Sto} {t : St} {TX : TXT} {K : Nat} (ha : At σ c TX K t) (ho : Ok TX K t) :
    ∃ σ', C nS_choice k [.ref c] σ = some (choiceS TX t, 0, σ') ∧ Fr [6] σ σ' := by
  rw [eS_choice k c hc]
  exact c_choL hc ho (sN t) 0 .null σ ha (Nat.zero_add _)
theorem cho_or {TX : TXT} {t : St} : ∀ m, (choS TX t m).1 = -1 ∨ ∃ p, p < m ∧ (choS TX t m).1 = nI p ∧ aloneS TX t p = true := by
  intro m
  induction m with
  | zero => exact Or.inl rfl
  | succ m ih =>
    have e : choS TX t (m + 1) = if aloneS TX t m = false then choS TX t m else if (choS TX t m).1 = -1 then (nI m, likedS TX t m) else if (choS TX t m).2 < likedS TX t m then (nI m, likedS TX t m) else choS TX t m := rfl
    have ih' : (choS TX t m).1 = -1 ∨ ∃ p, p < m + 1 ∧ (choS TX t m).1 = nI p ∧ aloneS TX t p = true := by
      rcases ih with h | ⟨p, h1, h2⟩
      · exact Or.inl h
      · exact Or.inr ⟨p, by omega, h2⟩
    rw [e]
    cases h4 : aloneS TX t m with
    | false => rw [if_pos rfl]; exact ih'
    | true =>
      rw [if_neg (by decide)]
      split
      · exact Or.inr ⟨m, by omega, rfl, h4⟩
      · split
        · exact Or.inr ⟨m, by omega, rfl, h4⟩
        · exact ih'
theorem choice_or (TX : TXT) (t : St) : choiceS TX t = -1 ∨ ∃ p, p < sN t ∧ choiceS TX t = nI p ∧ aloneS TX t p = true := cho_or (sN t)
theorem alone_seen {TX : TXT} {t : St} {p : Nat} (h : aloneS TX t p = true) : seenS t p = true := by
  unfold aloneS at h
  rw [Bool.and_eq_true] at h
  exact h.1
theorem seen_at {t : St} {p : Nat} (h : seenS t p = true) : ¬ rP t p = -1 := by
  unfold seenS at h
  rw [Bool.and_eq_true, decide_eq_true_eq] at h
  exact h.1
end
section
/-! bits, and an hour -/
theorem c_bitsA {k c : Nat} (hc : c = 12 ∨ c = 18 ∨ c = 24) {t : St} {TX : TXT} {K : Nat} (ho : Ok TX K t) : ∀ d m σ, At σ c TX K t → m + d = sN t →
    ∃ σ', R nS_aloneBits k 4 [.ref c, .int (bitsS (aloneS TX t) m), .int (nI m)] [] σ = some (bitsS (aloneS TX t) (sN t), 0, σ') ∧ Fr [6] σ σ' := by
  intro d
  have hN := ho.n
  induction d with
  | zero =>
    intro m σ ha hm
    have e : m = sN t := by omega
    subst e
    rw [eS_aloneBits_4 k c hc, ha.1.n, if_neg (nI_nlt (by omega) (by omega))]
    exact ⟨σ, rfl, Fr.rf⟩
  | succ d ih =>
    intro m σ ha hm
    have h1 : m < sN t := by omega
    have e : bitsS (aloneS TX t) (m + 1) = if aloneS TX t m = true then bitsS (aloneS TX t) m ||| (1 <<< (nI m &&& 31)) else bitsS (aloneS TX t) m := rfl
    obtain ⟨σ1, e1, f1⟩ := c_alone (k := k) hc ha ho h1
    have ha1 := ha.f6 hc f1
    have h2 := ih (m + 1) σ1 ha1 (by omega)
    rw [eS_aloneBits_4 k c hc, ha.1.n, if_pos (nI_lt h1 (by omega)), e1, bs]
    simp only [nI_1]
    rw [e] at h2
    cases h4 : aloneS TX t m with
    | false =>
      rw [if_neg (by rw [h4]; decide)] at h2
      obtain ⟨σ3, e3, f3⟩ := h2
      exact ⟨σ3, e3, f1.tr f3⟩
    | true =>
      rw [if_pos h4] at h2
      obtain ⟨σ3, e3, f3⟩ := h2
      exact ⟨σ3, e3, f1.tr f3⟩
theorem c_aloneBits {k c : Nat} (hc : c = 12 ∨ c = 18 ∨ c = 24) {σ : Sto} {t : St} {TX : TXT} {K : Nat} (ha : At σ c TX K t) (ho : Ok TX K t) :
    ∃ σ', C nS_aloneBits k [.ref c] σ = some (bitsS (aloneS TX t) (sN t), 0, σ') ∧ Fr [6] σ σ' := by
  rw [eS_aloneBits k c hc]
  exact c_bitsA hc ho (sN t) 0 σ ha (Nat.zero_add _)
theorem c_seenBits {k c : Nat} (hc : c = 12 ∨ c = 18 ∨ c = 24) {σ : Sto} {t : St} (hr : RepS σ c t) (hN : sN t ≤ 6) : C nS_seenBits k [.ref c] σ = some (bitsS (seenS t) (sN t), 0, σ) := by
  have L : ∀ d m, m + d = sN t → R nS_seenBits k 4 [.ref c, .int (bitsS (seenS t) m), .int (nI m)] [] σ = some (bitsS (seenS t) (sN t), 0, σ) := by
    intro d
    induction d with
    | zero =>
      intro m hm
      have e : m = sN t := by omega
      subst e
      rw [eS_seenBits_4 k c hc, hr.n, if_neg (nI_nlt (by omega) (by omega))]
    | succ d ih =>
      intro m hm
      have h1 : m < sN t := by omega
      have e : bitsS (seenS t) (m + 1) = if seenS t m = true then bitsS (seenS t) m ||| (1 <<< (nI m &&& 31)) else bitsS (seenS t) m := rfl
      have h2 := ih (m + 1) (by omega)
      rw [eS_seenBits_4 k c hc, hr.n, if_pos (nI_lt h1 (by omega)), c_seen hc hr hN h1, bs]
      simp only [nI_1]
      rw [e] at h2
      cases h4 : seenS t m with
      | false =>
        rw [if_neg (by rw [h4]; decide)] at h2
        exact h2
      | true =>
        rw [if_pos h4] at h2
        exact h2
  rw [eS_seenBits k c hc]
  exact L (sN t) 0 (Nat.zero_add _)
theorem c_overBits {k c : Nat} (hc : c = 12 ∨ c = 18 ∨ c = 24) {σ : Sto} {t : St} (hr : RepS σ c t) (hN : sN t ≤ 6) : C nS_overBits k [.ref c] σ = some (bitsS (overS t) (sN t), 0, σ) := by
  have L : ∀ d m, m + d = sN t → R nS_overBits k 4 [.ref c, .int (bitsS (overS t) m), .int (nI m)] [] σ = some (bitsS (overS t) (sN t), 0, σ) := by
    intro d
    induction d with
    | zero =>
      intro m hm
      have e : m = sN t := by omega
      subst e
      rw [eS_overBits_4 k c hc, hr.n, if_neg (nI_nlt (by omega) (by omega))]
    | succ d ih =>
      intro m hm
      have h1 : m < sN t := by omega
      have e : bitsS (overS t) (m + 1) = if overS t m = true then bitsS (overS t) m ||| (1 <<< (nI m &&& 31)) else bitsS (overS t) m := rfl
      have h2 := ih (m + 1) (by omega)
      rw [eS_overBits_4 k c hc, hr.n, if_pos (nI_lt h1 (by omega)), c_over hc hr hN h1, bs]
      simp only [nI_1]
      rw [e] at h2
      cases h4 : overS t m with
      | false =>
        rw [if_neg (by rw [h4]; decide)] at h2
        exact h2
      | true =>
        rw [if_pos h4] at h2
        exact h2
  rw [eS_overBits k c hc]
  exact L (sN t) 0 (Nat.zero_add _)
/-! what an hour leaves well -/
theorem clamp63 (x : Int32) : 0 ≤ (maxI 0 (minI 63 x)).toInt ∧ (maxI 0 (minI 63 x)).toInt ≤ 63 := by
  have e0 : (0 : Int32).toInt = 0 := by decide
  have e63 : (63 : Int32).toInt = 63 := by decide
  unfold maxI minI
  by_cases h1 : x < 63
  · rw [if_pos h1]
    by_cases h2 : 0 < x
    · rw [if_pos h2]
      rw [i_lt] at h1 h2
      omega
    · rw [if_neg h2]
      omega
  · rw [if_neg h1, if_pos (by decide)]
    omega
theorem min99 {x : Int32} (h0 : 0 ≤ x.toInt) (h : x.toInt ≤ 99) : 0 ≤ (minI 99 (x + 1)).toInt ∧ (minI 99 (x + 1)).toInt ≤ 99 := by
  have e1 : (1 : Int32).toInt = 1 := by decide
  have e : (x + 1).toInt = x.toInt + 1 := by rw [i_add (by omega) (by omega), e1]
  have e99 : (99 : Int32).toInt = 99 := by decide
  unfold minI
  by_cases h1 : x + 1 < 99
  · rw [if_pos h1]
    rw [i_lt] at h1
    omega
  · rw [if_neg h1]
    omega
theorem min9999 {x : Int32} (h0 : 0 ≤ x.toInt) (h : x.toInt ≤ 9999) : 0 ≤ (minI 9999 (x + 1)).toInt ∧ (minI 9999 (x + 1)).toInt ≤ 9999 := by
  have e1 : (1 : Int32).toInt = 1 := by decide
  have e : (x + 1).toInt = x.toInt + 1 := by rw [i_add (by omega) (by omega), e1]
  have e99 : (9999 : Int32).toInt = 9999 := by decide
  unfold minI
  by_cases h1 : x + 1 < 9999
  · rw [if_pos h1]
    rw [i_lt] at h1
    omega
  · rw [if_neg h1]
    omega
theorem okP_P {t : St} {i p : Nat} {v : Int32} (h : okP t i) (h1 : -1 ≤ v.toInt) (h2 : v.toInt ≤ 63) : okP (pP t (upd (rP t) p v)) i := by
  refine ⟨h.1, h.2.1, ?_, h.2.2.2⟩
  show -1 ≤ (upd (rP t) p v i).toInt ∧ (upd (rP t) p v i).toInt ≤ 63
  unfold upd
  by_cases hi : i = p
  · rw [if_pos hi]; exact ⟨h1, h2⟩
  · rw [if_neg hi]; exact h.2.2.1
theorem okP_W {t : St} {i p : Nat} {v : Int32} (h : okP t i) (h1 : 0 ≤ v.toInt) (h2 : v.toInt ≤ 99) : okP (pW t (upd (rW t) p v)) i := by
  refine ⟨h.1, h.2.1, h.2.2.1, h.2.2.2.1, ?_⟩
  show 0 ≤ (upd (rW t) p v i).toInt ∧ (upd (rW t) p v i).toInt ≤ 99
  unfold upd
  by_cases hi : i = p
  · rw [if_pos hi]; exact ⟨h1, h2⟩
  · rw [if_neg hi]; exact h.2.2.2.2
theorem okP_D {t : St} {i p : Nat} {v : Int32} (h : okP t i) (h1 : v = 0 ∨ v = 1) : okP (pD t (upd (rD t) p v)) i := by
  refine ⟨h.1, h.2.1, h.2.2.1, ?_, h.2.2.2.2⟩
  show upd (rD t) p v i = 0 ∨ upd (rD t) p v i = 1
  unfold upd
  by_cases hi : i = p
  · rw [if_pos hi]; exact h1
  · rw [if_neg hi]; exact h.2.2.2.1
theorem okP_K {t : St} {i p : Nat} {v : Int32} (h : okP t i) (h1 : 0 ≤ v.toInt) (h2 : v.toInt ≤ 5) : okP (pK t (upd (rK t) p v)) i := by
  refine ⟨?_, h.2⟩
  show 0 ≤ (upd (rK t) p v i).toInt ∧ (upd (rK t) p v i).toInt ≤ 5
  unfold upd
  by_cases hi : i = p
  · rw [if_pos hi]; exact ⟨h1, h2⟩
  · rw [if_neg hi]; exact h.1
theorem okP_M {t : St} {i p : Nat} {v : Int32} (h : okP t i) (h1 : 0 ≤ v.toInt) (h2 : v.toInt ≤ 9) : okP (pM t (upd (rM t) p v)) i := by
  refine ⟨h.1, ?_, h.2.2⟩
  show 0 ≤ (upd (rM t) p v i).toInt ∧ (upd (rM t) p v i).toInt ≤ 9
  unfold upd
  by_cases hi : i = p
  · rw [if_pos hi]; exact ⟨h1, h2⟩
  · rw [if_neg hi]; exact h.2.1
theorem Ok.pP {TX : TXT} {K : Nat} {t : St} (h : Ok TX K t) {p : Nat} {v : Int32} (h1 : -1 ≤ v.toInt) (h2 : v.toInt ≤ 63) : Ok TX K (pP t (upd (rP t) p v)) :=
  ⟨⟨h.1.1, h.1.2.1, h.1.2.2.1, fun i hi => okP_P (h.1.2.2.2 i hi) h1 h2⟩, h.2⟩
theorem Ok.pW {TX : TXT} {K : Nat} {t : St} (h : Ok TX K t) {p : Nat} {v : Int32} (h1 : 0 ≤ v.toInt) (h2 : v.toInt ≤ 99) : Ok TX K (pW t (upd (rW t) p v)) :=
  ⟨⟨h.1.1, h.1.2.1, h.1.2.2.1, fun i hi => okP_W (h.1.2.2.2 i hi) h1 h2⟩, h.2⟩
theorem Ok.pD {TX : TXT} {K : Nat} {t : St} (h : Ok TX K t) {p : Nat} {v : Int32} (h1 : v = 0 ∨ v = 1) : Ok TX K (pD t (upd (rD t) p v)) :=
  ⟨⟨h.1.1, h.1.2.1, h.1.2.2.1, fun i hi => okP_D (h.1.2.2.2 i hi) h1⟩, h.2⟩
theorem Ok.pK {TX : TXT} {K : Nat} {t : St} (h : Ok TX K t) {p : Nat} {v : Int32} (h1 : 0 ≤ v.toInt) (h2 : v.toInt ≤ 5) : Ok TX K (pK t (upd (rK t) p v)) :=
  ⟨⟨h.1.1, h.1.2.1, h.1.2.2.1, fun i hi => okP_K (h.1.2.2.2 i hi) h1 h2⟩, h.2⟩
theorem Ok.pM {TX : TXT} {K : Nat} {t : St} (h : Ok TX K t) {p : Nat} {v : Int32} (h1 : 0 ≤ v.toInt) (h2 : v.toInt ≤ 9) : Ok TX K (pM t (upd (rM t) p v)) :=
  ⟨⟨h.1.1, h.1.2.1, h.1.2.2.1, fun i hi => okP_M (h.1.2.2.2 i hi) h1 h2⟩, h.2⟩
theorem Ok.uH {TX : TXT} {K : Nat} {t : St} (h : Ok TX K t) {v : Int32} : Ok TX K (uH t v) := h
theorem Ok.uO {TX : TXT} {K : Nat} {t : St} (h : Ok TX K t) {v : Int32} : Ok TX K (uO t v) := h
theorem Ok.uB {TX : TXT} {K : Nat} {t : St} (h : Ok TX K t) {v : Int32} : Ok TX K (uB t v) := h
theorem Ok.uF {TX : TXT} {K : Nat} {t : St} (h : Ok TX K t) {v : Int32} (h1 : 0 ≤ v.toInt) (h2 : v.toInt ≤ 9999) : Ok TX K (uF t v) := ⟨⟨h.1.1, h.1.2.1, ⟨h1, h2⟩, h.1.2.2.2⟩, h.2⟩
theorem Ok.uL {TX : TXT} {K : Nat} {t : St} (h : Ok TX K t) {v : Nat} (h1 : v < K) : Ok TX K (uL t v) := ⟨⟨h.1.1, Nat.lt_of_lt_of_le h1 h.2.2.1, h.1.2.2⟩, h1, h.2.2⟩
theorem Ok.goOn {TX : TXT} {K : Nat} {t : St} (h : Ok TX K t) {p : Nat} {far : Int32} : Ok TX K (goOnS t p far) := by
  have h1 := clamp63 (rP t p + far)
  exact h.pP (by omega) h1.2
theorem Ok.wait {TX : TXT} {K : Nat} {t : St} (h : Ok TX K t) {p : Nat} (hp : p < sN t) : Ok TX K (waitS t p) := by
  have h2 := (h.p hp).2.2.2.2
  have h1 := min99 h2.1 h2.2
  exact h.pW h1.1 h1.2
theorem Ok.walk1 {TX : TXT} {K : Nat} {t : St} (h : Ok TX K t) {p : Nat} (hp : p < sN t) : Ok TX K (walk1S TX t p) := by
  unfold walk1S
  split
  · exact h
  · exact (h.goOn).wait hp
theorem walk1_t {TX : TXT} {t : St} {p : Nat} : (walk1S TX t p).1 = t.1 := by
  unfold walk1S
  split <;> rfl
theorem walk_t {TX : TXT} {t : St} : ∀ m, (walkS TX t m).1 = t.1 := by
  intro m
  induction m with
  | zero => rfl
  | succ m ih => exact walk1_t.trans ih
theorem walk_n {TX : TXT} {t : St} (m : Nat) : sN (walkS TX t m) = sN t := congrArg (·.1) (walk_t m)
theorem Ok.walk {TX : TXT} {K : Nat} {t : St} (h : Ok TX K t) : ∀ m, m ≤ sN t → Ok TX K (walkS TX t m) := by
  intro m
  induction m with
  | zero => intro _; exact h
  | succ m ih => intro hm; exact (ih (by omega)).walk1 (by rw [walk_n]; omega)
theorem ok_fetch {TX : TXT} {K : Nat} {t : St} (h : Ok TX K t) (p : Nat) : Ok TX K (fetchS t p) := by
  have h1 := min9999 h.1.2.2.1.1 h.1.2.2.1.2
  have e : ((-1 : Int32)).toInt = -1 := by decide
  have h2 : Ok TX K (pP (uO t (1 + absI (2 * rP t p - 63) / 20)) (upd (rP t) p (-1))) := Ok.pP (t := uO t (1 + absI (2 * rP t p - 63) / 20)) h.uO (by omega) (by omega)
  exact (h2.uB).uF h1.1 h1.2
theorem Ok.ferry {TX : TXT} {K : Nat} {t : St} (h : Ok TX K t) : Ok TX K (ferryS TX t) := by
  unfold ferryS
  split
  · split
    · exact h
    · exact h
  · split
    · exact h
    · exact ok_fetch h _
theorem ferry_n {TX : TXT} {t : St} : sN (ferryS TX t) = sN t := by
  unfold ferryS
  split
  · split <;> rfl
  · split <;> rfl
theorem Ok.hour {TX : TXT} {K : Nat} {t : St} (h : Ok TX K t) : Ok TX K (hourS TX t) := by
  refine Ok.uH (h.ferry.walk (sN t) ?_)
  rw [ferry_n]
  exact Nat.le_refl _
theorem hour_n {TX : TXT} {t : St} : sN (hourS TX t) = sN t := (walk_n _).trans ferry_n
/-! the strand's changes -/
theorem RepS.sP {σ : Sto} {c : Nat} {t : St} (h : RepS σ c t) (hc : c = 12 ∨ c = 18 ∨ c = 24) {p : Nat} {v : Int32} : RepS (su σ (c + 3) p v) c (pP t (upd (rP t) p v)) := by
  refine ⟨by rw [su_ne (by omega)]; exact h.1, fun i hi => ?_⟩
  obtain ⟨h1, h2, h3, h4, h5⟩ := h.2 i hi
  rw [su_ne (by omega), su_ne (by omega), su_row, su_ne (by omega), su_ne (by omega)]
  refine ⟨h1, h2, ?_, h4, h5⟩
  show upd (σ (c + 3)) p v i = upd (rP t) p v i
  unfold upd
  rw [h3]
theorem RepS.sW {σ : Sto} {c : Nat} {t : St} (h : RepS σ c t) (hc : c = 12 ∨ c = 18 ∨ c = 24) {p : Nat} {v : Int32} : RepS (su σ (c + 5) p v) c (pW t (upd (rW t) p v)) := by
  refine ⟨by rw [su_ne (by omega)]; exact h.1, fun i hi => ?_⟩
  obtain ⟨h1, h2, h3, h4, h5⟩ := h.2 i hi
  rw [su_ne (by omega), su_ne (by omega), su_ne (by omega), su_ne (by omega), su_row]
  refine ⟨h1, h2, h3, h4, ?_⟩
  show upd (σ (c + 5)) p v i = upd (rW t) p v i
  unfold upd
  rw [h5]
theorem RepS.sD {σ : Sto} {c : Nat} {t : St} (h : RepS σ c t) (hc : c = 12 ∨ c = 18 ∨ c = 24) {p : Nat} {v : Int32} : RepS (su σ (c + 4) p v) c (pD t (upd (rD t) p v)) := by
  refine ⟨by rw [su_ne (by omega)]; exact h.1, fun i hi => ?_⟩
  obtain ⟨h1, h2, h3, h4, h5⟩ := h.2 i hi
  rw [su_ne (by omega), su_ne (by omega), su_ne (by omega), su_row, su_ne (by omega)]
  refine ⟨h1, h2, h3, ?_, h5⟩
  show upd (σ (c + 4)) p v i = upd (rD t) p v i
  unfold upd
  rw [h4]
theorem RepS.sM {σ : Sto} {c : Nat} {t : St} (h : RepS σ c t) (hc : c = 12 ∨ c = 18 ∨ c = 24) {p : Nat} {v : Int32} : RepS (su σ (c + 2) p v) c (pM t (upd (rM t) p v)) := by
  refine ⟨by rw [su_ne (by omega)]; exact h.1, fun i hi => ?_⟩
  obtain ⟨h1, h2, h3, h4, h5⟩ := h.2 i hi
  rw [su_ne (by omega), su_row, su_ne (by omega), su_ne (by omega), su_ne (by omega)]
  refine ⟨h1, ?_, h3, h4, h5⟩
  show upd (σ (c + 2)) p v i = upd (rM t) p v i
  unfold upd
  rw [h2]
theorem RepS.sK {σ : Sto} {c : Nat} {t : St} (h : RepS σ c t) (hc : c = 12 ∨ c = 18 ∨ c = 24) {p : Nat} {v : Int32} : RepS (su σ (c + 1) p v) c (pK t (upd (rK t) p v)) := by
  refine ⟨by rw [su_ne (by omega)]; exact h.1, fun i hi => ?_⟩
  obtain ⟨h1, h2, h3, h4, h5⟩ := h.2 i hi
  rw [su_row, su_ne (by omega), su_ne (by omega), su_ne (by omega), su_ne (by omega)]
  refine ⟨?_, h2, h3, h4, h5⟩
  show upd (σ (c + 1)) p v i = upd (rK t) p v i
  unfold upd
  rw [h1]
theorem RepS.sc {σ : Sto} {c : Nat} {t : St} (h : RepS σ c t) {j : Nat} {v : Int32} {t' : St} (h1 : t'.2 = t.2) (hn : sN t' = sN t) (h2 : upd (σ c) j v 6 = nI (sN t') ∧ upd (σ c) j v 7 = sH t' ∧ upd (σ c) j v 8 = sO t' ∧ upd (σ c) j v 9 = sB t' ∧ upd (σ c) j v 10 = sF t' ∧ upd (σ c) j v 11 = nI (sL t')) : RepS (su σ c j v) c t' := by
  refine ⟨by rw [su_row]; exact h2, fun i hi => ?_⟩
  rw [hn] at hi
  rw [su_ne (by omega), su_ne (by omega), su_ne (by omega), su_ne (by omega), su_ne (by omega)]
  unfold rK rM rP rD rW
  rw [h1]
  exact h.2 i hi
theorem RepS.s7 {σ : Sto} {c : Nat} {t : St} (h : RepS σ c t) {v : Int32} : RepS (su σ c 7 v) c (uH t v) :=
  h.sc rfl rfl ⟨(upd_n (by decide)).trans h.n, upd_s, (upd_n (by decide)).trans h.O, (upd_n (by decide)).trans h.B, (upd_n (by decide)).trans h.F, (upd_n (by decide)).trans h.L⟩
theorem RepS.s8 {σ : Sto} {c : Nat} {t : St} (h : RepS σ c t) {v : Int32} : RepS (su σ c 8 v) c (uO t v) :=
  h.sc rfl rfl ⟨(upd_n (by decide)).trans h.n, (upd_n (by decide)).trans h.H, upd_s, (upd_n (by decide)).trans h.B, (upd_n (by decide)).trans h.F, (upd_n (by decide)).trans h.L⟩
theorem RepS.s9 {σ : Sto} {c : Nat} {t : St} (h : RepS σ c t) {v : Int32} : RepS (su σ c 9 v) c (uB t v) :=
  h.sc rfl rfl ⟨(upd_n (by decide)).trans h.n, (upd_n (by decide)).trans h.H, (upd_n (by decide)).trans h.O, upd_s, (upd_n (by decide)).trans h.F, (upd_n (by decide)).trans h.L⟩
theorem RepS.s10 {σ : Sto} {c : Nat} {t : St} (h : RepS σ c t) {v : Int32} : RepS (su σ c 10 v) c (uF t v) :=
  h.sc rfl rfl ⟨(upd_n (by decide)).trans h.n, (upd_n (by decide)).trans h.H, (upd_n (by decide)).trans h.O, (upd_n (by decide)).trans h.B, upd_s, (upd_n (by decide)).trans h.L⟩
theorem RepS.s11 {σ : Sto} {c : Nat} {t : St} (h : RepS σ c t) {v : Nat} : RepS (su σ c 11 (nI v)) c (uL t v) :=
  h.sc rfl rfl ⟨(upd_n (by decide)).trans h.n, (upd_n (by decide)).trans h.H, (upd_n (by decide)).trans h.O, (upd_n (by decide)).trans h.B, (upd_n (by decide)).trans h.F, upd_s⟩
/-- the cells that an hour writes -/
def wr (c : Nat) : List Nat := [6, c, c + 1, c + 2, c + 3, c + 4, c + 5]
theorem TxS.su {σ : Sto} {TX : TXT} {K : Nat} (h : TxS σ TX K) {c i : Nat} {v : Int32} (hc : 6 ≤ c) : TxS (su σ c i v) TX K := h.fr (l := [c]) (Fr.rf.su (List.mem_singleton.mpr rfl)) (by rw [List.mem_singleton]; omega) (by rw [List.mem_singleton]; omega) (by rw [List.mem_singleton]; omega)
theorem f6wr {c : Nat} {σ σ' : Sto} (h : Fr [6] σ σ') : Fr (wr c) σ σ' := h.mono fun x hx => by
  rw [List.mem_singleton] at hx
  subst hx
  exact List.mem_cons_self
theorem c_goOn {k c : Nat} (hc : c = 12 ∨ c = 18 ∨ c = 24) {σ : Sto} {t : St} (hr : RepS σ c t) (hN : sN t ≤ 6) {p : Nat} (hp : p < sN t) {far : Int32} :
    C nS_goOn k [.ref c, .int (nI p), .int far] σ = some (0, 0, su σ (c + 3) p (maxI 0 (minI 63 (rP t p + far)))) ∧ RepS (su σ (c + 3) p (maxI 0 (minI 63 (rP t p + far)))) c (goOnS t p far) := by
  have h6 : p < 6 := by omega
  refine ⟨?_, hr.sP hc⟩
  rw [eS_goOn k c hc]
  simp only [ib6 h6, ix6 h6, hr.P hp, ↓reduceIte]
theorem c_walkL {k c : Nat} (hc : c = 12 ∨ c = 18 ∨ c = 24) {t : St} {TX : TXT} {K : Nat} (ho : Ok TX K t) {v1 : Int32} : ∀ d m σ, At σ c TX K (walkS TX t m) → m + d = sN t →
    ∃ σ', R nS_passHour k 26 [.ref c, .int v1, .int (nI m)] [] σ = some (v1, 0, σ') ∧ At σ' c TX K (uH (walkS TX t (sN t)) (sH t + 1)) ∧ Fr (wr c) σ σ' := by
  intro d
  have hN := ho.n
  have m5 : c + 5 ∈ wr c := by unfold wr; simp
  have m3 : c + 3 ∈ wr c := by unfold wr; simp
  have m0 : c ∈ wr c := by unfold wr; simp
  induction d with
  | zero =>
    intro m σ ha hm
    have e : m = sN t := by omega
    subst e
    have e2 : sH (walkS TX t (sN t)) = sH t := congrArg (fun z => z.2.1) (walk_t (sN t))
    rw [eS_passHour_26 k c hc, ha.1.n, walk_n, if_neg (nI_nlt (by omega) (by omega)), ha.1.H, e2]
    exact ⟨_, rfl, ⟨ha.1.s7, ha.2.su (by omega)⟩, Fr.rf.su m0⟩
  | succ d ih =>
    intro m σ ha hm
    have h1 : m < sN t := by omega
    have h6 : m < 6 := by omega
    have h1' : m < sN (walkS TX t m) := by rw [walk_n]; exact h1
    have hom := ho.walk m (by omega)
    have e : walkS TX t (m + 1) = walk1S TX (walkS TX t m) m := rfl
    obtain ⟨σ1, e1, f1⟩ := c_walks (k := k) hc ha hom h1'
    have ha1 := ha.f6 hc f1
    obtain ⟨e2, r2⟩ := c_goOn (k := k) hc ha1.1 hom.n h1' (far := walksS TX (walkS TX t m) m)
    rw [eS_passHour_26 k c hc, ha.1.n, walk_n, if_pos (nI_lt h1 (by omega))]
    simp only [ib6 h6, ix6 h6, ha.1.P h1', e1, bs, e2, ↓reduceIte, nI_1]
    by_cases h2 : rP (walkS TX t m) m = -1
    · rw [if_pos h2]
      refine ih (m + 1) σ ?_ (by omega)
      rw [e]
      unfold walk1S
      rw [if_pos h2]
      exact ha
    · rw [if_neg h2]
      have h3 : su σ1 (c + 3) m (maxI 0 (minI 63 (rP (walkS TX t m) m + walksS TX (walkS TX t m) m))) (c + 5) m = rW (goOnS (walkS TX t m) m (walksS TX (walkS TX t m) m)) m := r2.W h1'
      rw [h3]
      obtain ⟨σ', e3, a3, f3⟩ := ih (m + 1) _ (by
        rw [e]
        unfold walk1S
        rw [if_neg h2]
        exact ⟨r2.sW hc, (ha1.2.su (by omega)).su (by omega)⟩) (by omega)
      exact ⟨σ', e3, a3, (((f6wr f1).su m3).su m5).tr f3⟩
theorem c_fetch {k c : Nat} (hc : c = 12 ∨ c = 18 ∨ c = 24) {σ : Sto} {t : St} {TX : TXT} {K : Nat} (ha : At σ c TX K t) (hN : sN t ≤ 6) {p : Nat} (hp : p < sN t) :
    ∃ σ', C nS_fetch k [.ref c, .int (nI p)] σ = some (0, 0, σ') ∧ At σ' c TX K (fetchS t p) ∧ Fr (wr c) σ σ' := by
  have h6 : p < 6 := by omega
  have m3 : c + 3 ∈ wr c := by unfold wr; simp
  have m0 : c ∈ wr c := by unfold wr; simp
  have hr := ha.1
  have r1 := (hr.s8 (v := 1 + absI (2 * rP t p - 63) / 20)).sP hc (p := p) (v := -1)
  have r2 := r1.s9 (v := nI p)
  have r3 := r2.s10 (v := minI 9999 (sF t + 1))
  rw [eS_fetch k c hc, if_neg (nI_nm (by omega))]
  have e : su (su (su σ c 8 (1 + absI (2 * rP t p - 63) / 20)) (c + 3) p (-1)) c 9 (nI p) c 10 = sF t := r2.F
  simp only [ib6 h6, ix6 h6, hr.P hp, e, ↓reduceIte]
  exact ⟨_, rfl, ⟨r3, (((ha.2.su (by omega)).su (by omega)).su (by omega)).su (by omega)⟩, (((Fr.rf.su m0).su m3).su m0).su m0⟩
theorem c_hour {k c : Nat} (hc : c = 12 ∨ c = 18 ∨ c = 24) {σ : Sto} {t : St} {TX : TXT} {K : Nat} (ha : At σ c TX K t) (ho : Ok TX K t) :
    ∃ σ', C nS_passHour k [.ref c] σ = some (whoS TX t, 0, σ') ∧ At σ' c TX K (hourS TX t) ∧ Fr (wr c) σ σ' := by
  have m0 : c ∈ wr c := by unfold wr; simp
  have hfin : ∀ (σ1 : Sto) (v : Int32), At σ1 c TX K (ferryS TX t) → sH (ferryS TX t) = sH t → Fr (wr c) σ σ1 → v = whoS TX t → ∃ σ', R nS_passHour k 26 [.ref c, .int v, .int 0] [] σ1 = some (whoS TX t, 0, σ') ∧ At σ' c TX K (hourS TX t) ∧ Fr (wr c) σ σ' := by
    intro σ1 v ha1 hH f1 hv
    subst hv
    obtain ⟨σ', e, a, f⟩ := c_walkL (k := k) hc ho.ferry (v1 := whoS TX t) (sN (ferryS TX t)) 0 σ1 ha1 (Nat.zero_add _)
    rw [ferry_n, hH] at a
    exact ⟨σ', e, a, f1.tr f⟩
  have ef : ferryS TX t = if 0 < sO t then (if sO t - 1 = 0 then uB (uO t (sO t - 1)) (-1) else uO t (sO t - 1)) else if choiceS TX t = -1 then t else fetchS t (choiceS TX t).toNatClampNeg := rfl
  have ew : whoS TX t = if 0 < sO t then -1 else choiceS TX t := rfl
  rw [eS_passHour k c hc, ha.1.O, su_e]
  by_cases h1 : 0 < sO t
  · rw [if_pos h1] at ef ew ⊢
    by_cases h2 : sO t - 1 = 0
    · rw [if_pos h2] at ef ⊢
      exact hfin _ _ (by rw [ef]; exact ⟨ha.1.s8.s9, (ha.2.su (by omega)).su (by omega)⟩) (by rw [ef]; rfl) ((Fr.rf.su m0).su m0) ew.symm
    · rw [if_neg h2] at ef ⊢
      exact hfin _ _ (by rw [ef]; exact ⟨ha.1.s8, ha.2.su (by omega)⟩) (by rw [ef]; rfl) (Fr.rf.su m0) ew.symm
  · rw [if_neg h1] at ef ew ⊢
    obtain ⟨σ1, e1, f1⟩ := c_choice (k := k) hc ha ho
    have ha1 := ha.f6 hc f1
    rw [e1, bs]
    rcases choice_or TX t with h2 | ⟨p, hp, h2, _⟩
    · rw [if_pos h2] at ef
      simp only [h2]
      rw [eS_fetch k c hc, if_pos rfl, bs]
      exact hfin σ1 (-1) (by rw [ef]; exact ha1) (by rw [ef]) (f6wr f1) (by rw [ew, h2])
    · have hp6 : p < 6 := Nat.lt_of_lt_of_le hp ho.n
      rw [h2, if_neg (nI_nm (by omega)), ix6 hp6] at ef
      obtain ⟨σ2, e2, a2, f2⟩ := c_fetch (k := k) hc ha1 ho.n hp
      simp only [h2]
      rw [e2, bs]
      exact hfin σ2 (nI p) (by rw [ef]; exact a2) (by rw [ef]; rfl) ((f6wr f1).tr f2) (by rw [ew, h2])
end
section
/-! THE MODEL'S CELLS -/
def phi (x : Int32) : Int32 :=
  if x = -1 then 0 else if x = -2 then 1 else if x = -3 then 2 else if x = -4 then 3 else if x = -5 then 4 else if x = -6 then 5 else if x = -7 then 19 else if x = -8 then 13
  else if x = -9 then 11 else if x = -10 then 12 else if x = -11 then 14 else if x = -12 then 15 else if x = -13 then 16 else if x = -14 then 17 else if x = -15 then 18 else 100000 + x
def RepM (σ : Sto) (t : St) : Prop := (σ 30 0 = nI (sN t) ∧ σ 30 10 = nI (sL t) ∧ σ 34 0 = sO t ∧ σ 34 1 = sB t ∧ σ 34 2 = sF t ∧ σ 34 3 = sH t) ∧
  ∀ i, i < sN t → σ 31 i = rK t i ∧ σ 32 i = rM t i ∧ σ 33 (3 * i) = rP t i ∧ σ 33 (3 * i + 1) = rD t i ∧ σ 33 (3 * i + 2) = rW t i
def TxM (σ : Sto) (TX : TXT) (K : Nat) : Prop := ∀ l, l < K → ∀ part, part < 3 → ∃ b, b + (TX l part).length ≤ 200 ∧ σ 37 (4 * l + part) = nI b ∧ σ 37 (4 * l + part + 1) = nI (b + (TX l part).length) ∧ ∀ j x, (TX l part)[j]? = some x → σ 36 (200 * l + (b + j)) = phi x
theorem RepM.fr {l : List Nat} {σ σ' : Sto} {t : St} (h : RepM σ t) (hf : Fr l σ σ') (h0 : ∀ j, j < 5 → 30 + j ∉ l) : RepM σ' t := by
  have e0 : σ' 30 = σ 30 := hf 30 (h0 0 (by omega))
  have e1 : σ' 31 = σ 31 := hf 31 (h0 1 (by omega))
  have e2 : σ' 32 = σ 32 := hf 32 (h0 2 (by omega))
  have e3 : σ' 33 = σ 33 := hf 33 (h0 3 (by omega))
  have e4 : σ' 34 = σ 34 := hf 34 (h0 4 (by omega))
  unfold RepM
  rw [e0, e1, e2, e3, e4]
  exact h
theorem TxM.fr {l : List Nat} {σ σ' : Sto} {TX : TXT} {K : Nat} (h : TxM σ TX K) (hf : Fr l σ σ') (h3 : 36 ∉ l) (h4 : 37 ∉ l) : TxM σ' TX K := by
  unfold TxM
  rw [hf 36 h3, hf 37 h4]
  exact h
theorem RepM.n {σ : Sto} {t : St} (h : RepM σ t) : σ 30 0 = nI (sN t) := h.1.1
theorem RepM.L {σ : Sto} {t : St} (h : RepM σ t) : σ 30 10 = nI (sL t) := h.1.2.1
theorem RepM.O {σ : Sto} {t : St} (h : RepM σ t) : σ 34 0 = sO t := h.1.2.2.1
theorem RepM.B {σ : Sto} {t : St} (h : RepM σ t) : σ 34 1 = sB t := h.1.2.2.2.1
theorem RepM.F {σ : Sto} {t : St} (h : RepM σ t) : σ 34 2 = sF t := h.1.2.2.2.2.1
theorem RepM.H {σ : Sto} {t : St} (h : RepM σ t) : σ 34 3 = sH t := h.1.2.2.2.2.2
theorem RepM.K {σ : Sto} {t : St} (h : RepM σ t) {p : Nat} (hp : p < sN t) : σ 31 p = rK t p := (h.2 p hp).1
theorem RepM.M {σ : Sto} {t : St} (h : RepM σ t) {p : Nat} (hp : p < sN t) : σ 32 p = rM t p := (h.2 p hp).2.1
theorem RepM.P {σ : Sto} {t : St} (h : RepM σ t) {p : Nat} (hp : p < sN t) : σ 33 (3 * p) = rP t p := (h.2 p hp).2.2.1
theorem RepM.D {σ : Sto} {t : St} (h : RepM σ t) {p : Nat} (hp : p < sN t) : σ 33 (3 * p + 1) = rD t p := (h.2 p hp).2.2.2.1
theorem RepM.W {σ : Sto} {t : St} (h : RepM σ t) {p : Nat} (hp : p < sN t) : σ 33 (3 * p + 2) = rW t p := (h.2 p hp).2.2.2.2
theorem z0 : (0 : Int32).toNatClampNeg = 0 := by decide
theorem z1 : (1 : Int32).toNatClampNeg = 1 := by decide
theorem z2 : (2 : Int32).toNatClampNeg = 2 := by decide
theorem z3 : (3 : Int32).toNatClampNeg = 3 := by decide
theorem z4 : (4 : Int32).toNatClampNeg = 4 := by decide
theorem z5 : (5 : Int32).toNatClampNeg = 5 := by decide
theorem i3 (p : Nat) : 3 * nI p = nI (3 * p) := pk_mul 3 p
theorem nI_2 (a : Nat) : nI a + 2 = nI (a + 2) := nI_add a 2
theorem ibn {i n : Nat} (h : i < n) (hn : n < 2147483648) : inb (nI i) n = true := ib h hn
theorem ixn {i : Nat} (h : i < 2147483648) : (nI i).toNatClampNeg = i := nI_clamp h
theorem m_isAt {k : Nat} {σ : Sto} {t : St} (hr : RepM σ t) (hN : sN t ≤ 6) {p : Nat} (hp : p < sN t) : C nM_isAt k [.ref 30, .int (nI p)] σ = some (b2 (decide (¬ rP t p = -1)), 0, σ) := by
  rw [eM_isAt k]
  simp only [i3, ibn (show 3 * p < 18 by omega) (by decide), ixn (show 3 * p < 2147483648 by omega), hr.P hp, ↓reduceIte]
  by_cases h1 : rP t p = -1 <;> simp [h1, b2]
theorem m_seen {k : Nat} {σ : Sto} {t : St} (hr : RepM σ t) (hN : sN t ≤ 6) {p : Nat} (hp : p < sN t) : C nM_isSeen k [.ref 30, .int (nI p)] σ = some (b2 (seenS t p), 0, σ) := by
  rw [eM_isSeen k, m_isAt hr hN hp, bs]
  simp only [i3, nI_1, ibn (show 3 * p + 1 < 18 by omega) (by decide), ixn (show 3 * p + 1 < 2147483648 by omega), hr.D hp, ↓reduceIte]
  unfold seenS
  by_cases h1 : rP t p = -1
  · simp [h1, b2]
  · by_cases h2 : rD t p = 0 <;> simp [h1, h2, b2]
theorem m_over {k : Nat} {σ : Sto} {t : St} (hr : RepM σ t) (hN : sN t ≤ 6) {p : Nat} (hp : p < sN t) : C nM_isOver k [.ref 30, .int (nI p)] σ = some (b2 (overS t p), 0, σ) := by
  rw [eM_isOver k, m_isAt hr hN hp, bs]
  simp only [z1, hr.B]
  unfold overS
  by_cases h1 : rP t p = -1
  · by_cases h2 : sB t = nI p <;> simp [h1, h2, b2]
  · simp [h1, b2]
theorem m_within {k : Nat} {σ : Sto} {v lo hi : Int32} (h : lo.toInt ≤ hi.toInt) : C nM_within k [.int v, .int lo, .int hi] σ = some (maxI lo (minI hi v), 0, σ) := by
  rw [eM_within k]
  unfold maxI minI
  by_cases h1 : v < lo
  · rw [if_pos h1]
    rw [i_lt] at h1
    have h2 : v < hi := by rw [i_lt]; omega
    rw [if_pos h2, if_neg (by rw [i_lt]; omega)]
  · rw [if_neg h1]
    rw [i_lt] at h1
    by_cases h2 : hi < v
    · rw [if_pos h2]
      rw [i_lt] at h2
      rw [if_neg (show ¬ v < hi by rw [i_lt]; omega)]
      by_cases h3 : lo < hi
      · rw [if_pos h3]
      · rw [if_neg h3]
        rw [i_lt] at h3
        rw [show hi = lo from by rw [i_eq]; omega]
    · rw [if_neg h2]
      rw [i_lt] at h2
      by_cases h4 : v < hi
      · rw [if_pos h4]
        by_cases h5 : lo < v
        · rw [if_pos h5]
        · rw [if_neg h5]
          rw [i_lt] at h5
          rw [show v = lo from by rw [i_eq]; omega]
      · rw [if_neg h4]
        rw [i_lt] at h4
        have e : v = hi := by rw [i_eq]; omega
        subst e
        by_cases h5 : lo < v
        · rw [if_pos h5]
        · rw [if_neg h5]
          rw [i_lt] at h5
          rw [show v = lo from by rw [i_eq]; omega]
theorem max0 {z : Int32} (h : 0 ≤ z.toInt) : maxI 0 z = z := by
  have e0 : (0 : Int32).toInt = 0 := by decide
  unfold maxI
  by_cases h1 : (0 : Int32) < z
  · rw [if_pos h1]
  · rw [if_neg h1]
    rw [i_lt] at h1
    rw [i_eq]
    omega
theorem m_seenSet {k : Nat} {σ : Sto} {t : St} (hr : RepM σ t) (hN : sN t ≤ 6) : C nM_seenSet k [.ref 30] σ = some (bitsS (seenS t) (sN t), 0, σ) := by
  have L : ∀ d m, m + d = sN t → R nM_seenSet k 4 [.ref 30, .int (bitsS (seenS t) m), .int (nI m)] [] σ = some (bitsS (seenS t) (sN t), 0, σ) := by
    intro d
    induction d with
    | zero =>
      intro m hm
      have e : m = sN t := by omega
      subst e
      rw [eM_seenSet_4 k, hr.n, if_neg (nI_nlt (by omega) (by omega))]
    | succ d ih =>
      intro m hm
      have h1 : m < sN t := by omega
      have e : bitsS (seenS t) (m + 1) = if seenS t m = true then bitsS (seenS t) m ||| (1 <<< (nI m &&& 31)) else bitsS (seenS t) m := rfl
      have h2 := ih (m + 1) (by omega)
      rw [eM_seenSet_4 k, hr.n, if_pos (nI_lt h1 (by omega)), m_seen hr hN h1, bs]
      simp only [nI_1, Int32.or_zero]
      rw [e] at h2
      cases h4 : seenS t m with
      | false =>
        rw [if_neg (by rw [h4]; decide)] at h2
        exact h2
      | true =>
        rw [if_pos h4] at h2
        exact h2
  rw [eM_seenSet k]
  exact L (sN t) 0 (Nat.zero_add _)
theorem m_overSet {k : Nat} {σ : Sto} {t : St} (hr : RepM σ t) (hN : sN t ≤ 6) : C nM_overSet k [.ref 30] σ = some (bitsS (overS t) (sN t), 0, σ) := by
  have L : ∀ d m, m + d = sN t → R nM_overSet k 4 [.ref 30, .int (bitsS (overS t) m), .int (nI m)] [] σ = some (bitsS (overS t) (sN t), 0, σ) := by
    intro d
    induction d with
    | zero =>
      intro m hm
      have e : m = sN t := by omega
      subst e
      rw [eM_overSet_4 k, hr.n, if_neg (nI_nlt (by omega) (by omega))]
    | succ d ih =>
      intro m hm
      have h1 : m < sN t := by omega
      have e : bitsS (overS t) (m + 1) = if overS t m = true then bitsS (overS t) m ||| (1 <<< (nI m &&& 31)) else bitsS (overS t) m := rfl
      have h2 := ih (m + 1) (by omega)
      rw [eM_overSet_4 k, hr.n, if_pos (nI_lt h1 (by omega)), m_over hr hN h1, bs]
      simp only [nI_1, Int32.or_zero]
      rw [e] at h2
      cases h4 : overS t m with
      | false =>
        rw [if_neg (by rw [h4]; decide)] at h2
        exact h2
      | true =>
        rw [if_pos h4] at h2
        exact h2
  rw [eM_overSet k]
  exact L (sN t) 0 (Nat.zero_add _)
def onesG (x : Int32) : Nat → Int32
  | 0 => 0
  | m + 1 => onesG x m + ((x >>> (nI m &&& 31)) &&& 1)
theorem m_onesOf {k : Nat} {σ : Sto} (x : Int32) : C nM_onesOf k [.int x] σ = some (onesG x 6, 0, σ) := by
  have L : ∀ d m, m + d = 6 → R nM_onesOf k 4 [.int x, .int (onesG x m), .int (nI m)] [] σ = some (onesG x 6, 0, σ) := by
    intro d
    induction d with
    | zero =>
      intro m hm
      have e : m = 6 := by omega
      subst e
      rw [eM_onesOf_4 k, if_neg (by decide)]
    | succ d ih =>
      intro m hm
      rw [eM_onesOf_4 k, if_pos (show nI m < 6 from nI_lt (b := 6) (by omega) (by decide)), nI_1]
      exact ih (m + 1) (by omega)
  rw [eM_onesOf k]
  exact L 6 0 rfl
theorem bits_congr {f g : Nat → Bool} : ∀ {n : Nat}, (∀ i, i < n → f i = g i) → bitsS f n = bitsS g n := by
  intro n
  induction n with
  | zero => intro _; rfl
  | succ n ih =>
    intro h
    unfold bitsS
    rw [h n (by omega), ih (fun i hi => h i (by omega))]
def selB (b0 b1 b2 b3 b4 b5 : Bool) : Nat → Bool
  | 0 => b0
  | 1 => b1
  | 2 => b2
  | 3 => b3
  | 4 => b4
  | _ => b5
theorem sel_eq {f : Nat → Bool} {i : Nat} (h : i < 6) : f i = selB (f 0) (f 1) (f 2) (f 3) (f 4) (f 5) i := by
  match i, h with
  | 0, _ => rfl
  | 1, _ => rfl
  | 2, _ => rfl
  | 3, _ => rfl
  | 4, _ => rfl
  | 5, _ => rfl
def cntB (f : Nat → Bool) : Nat → Nat
  | 0 => 0
  | m + 1 => if f m = true then cntB f m + 1 else cntB f m
theorem cntB_congr {f g : Nat → Bool} : ∀ {n : Nat}, (∀ i, i < n → f i = g i) → cntB f n = cntB g n := by
  intro n
  induction n with
  | zero => intro _; rfl
  | succ n ih =>
    intro h
    unfold cntB
    rw [h n (by omega), ih (fun i hi => h i (by omega))]
theorem ones_dec : ∀ (b0 b1 b2 b3 b4 b5 : Bool) (n : Fin 7), onesG (bitsS (selB b0 b1 b2 b3 b4 b5) n.1) 6 = nI (cntB (selB b0 b1 b2 b3 b4 b5) n.1) := by decide +kernel
theorem ones_bits (f : Nat → Bool) {n : Nat} (h : n ≤ 6) : onesG (bitsS f n) 6 = nI (cntB f n) := by
  have h1 : ∀ i, i < n → f i = selB (f 0) (f 1) (f 2) (f 3) (f 4) (f 5) i := fun i hi => sel_eq (by omega)
  rw [bits_congr h1, cntB_congr h1]
  exact ones_dec _ _ _ _ _ _ ⟨n, by omega⟩
theorem cnt_B (t : St) : ∀ m, cntB (seenS t) m = cntS t m := by
  intro m
  induction m with
  | zero => rfl
  | succ m ih =>
    unfold cntB cntS
    rw [ih]
theorem z_cases {z : Int32} (h1 : -15 ≤ z.toInt) (h2 : z.toInt < 0) : z = -1 ∨ z = -2 ∨ z = -3 ∨ z = -4 ∨ z = -5 ∨ z = -6 ∨ z = -7 ∨ z = -8 ∨ z = -9 ∨ z = -10 ∨ z = -11 ∨ z = -12 ∨ z = -13 ∨ z = -14 ∨ z = -15 := by
  have e : ∀ a : Int32, z = a ↔ z.toInt = a.toInt := fun a => i_eq
  rw [e, e, e, e, e, e, e, e, e, e, e, e, e, e, e]
  rw [show (-1 : Int32).toInt = -1 by decide, show (-2 : Int32).toInt = -2 by decide, show (-3 : Int32).toInt = -3 by decide, show (-4 : Int32).toInt = -4 by decide, show (-5 : Int32).toInt = -5 by decide,
    show (-6 : Int32).toInt = -6 by decide, show (-7 : Int32).toInt = -7 by decide, show (-8 : Int32).toInt = -8 by decide, show (-9 : Int32).toInt = -9 by decide, show (-10 : Int32).toInt = -10 by decide,
    show (-11 : Int32).toInt = -11 by decide, show (-12 : Int32).toInt = -12 by decide, show (-13 : Int32).toInt = -13 by decide, show (-14 : Int32).toInt = -14 by decide, show (-15 : Int32).toInt = -15 by decide]
  omega
theorem m_two {k : Nat} {σ : Sto} {z : Int32} (h1 : -15 ≤ z.toInt) (h2 : z.toInt ≤ -9) (x y : Int32) : C nM_two k [.int (phi z), .int x, .int y] σ = some (joinS z x y, 0, σ) := by
  have c1 : ∀ {z : Int32} {n : Int}, z.toInt = n → ¬ n ≤ -9 → z.toInt ≤ -9 → False := fun a b c => b (a ▸ c)
  rw [eM_two k]
  rcases z_cases h1 (by omega) with h | h | h | h | h | h | h | h | h | h | h | h | h | h | h
  · subst h; exact absurd h2 (by decide)
  · subst h; exact absurd h2 (by decide)
  · subst h; exact absurd h2 (by decide)
  · subst h; exact absurd h2 (by decide)
  · subst h; exact absurd h2 (by decide)
  · subst h; exact absurd h2 (by decide)
  · subst h; exact absurd h2 (by decide)
  · subst h; exact absurd h2 (by decide)
  · subst h
    rw [show phi (-9) = 11 by decide]
    simp (config := { decide := true }) only [joinS, ↓reduceIte]
    split
    · split <;> rfl
    · rfl
  · subst h
    rw [show phi (-10) = 12 by decide]
    simp (config := { decide := true }) only [joinS, ↓reduceIte]
    split
    · rfl
    · split <;> rfl
  · subst h
    rw [show phi (-11) = 14 by decide]
    simp (config := { decide := true }) only [joinS, ↓reduceIte]
    split <;> rfl
  · subst h
    rw [show phi (-12) = 15 by decide]
    simp (config := { decide := true }) only [joinS, ↓reduceIte]
    split <;> rfl
  · subst h
    rw [show phi (-13) = 16 by decide]
    simp (config := { decide := true }) only [joinS, ↓reduceIte]
  · subst h
    rw [show phi (-14) = 17 by decide]
    simp (config := { decide := true }) only [joinS, ↓reduceIte]
  · subst h
    rw [show phi (-15) = 18 by decide]
    simp (config := { decide := true }) only [joinS, ↓reduceIte]
end
section
theorem su46 {σ : Sto} {i : Nat} {v : Int32} : su σ 46 i v 46 = upd (σ 46) i v := su_row
theorem phi_of {z : Int32} (h : 0 ≤ z.toInt) : phi z = 100000 + z := by
  have e : ∀ a : Int32, a.toInt < 0 → ¬ z = a := fun a ha he => by
    rw [he] at h
    omega
  unfold phi
  rw [if_neg (e _ (by decide)), if_neg (e _ (by decide)), if_neg (e _ (by decide)), if_neg (e _ (by decide)), if_neg (e _ (by decide)), if_neg (e _ (by decide)), if_neg (e _ (by decide)), if_neg (e _ (by decide)),
    if_neg (e _ (by decide)), if_neg (e _ (by decide)), if_neg (e _ (by decide)), if_neg (e _ (by decide)), if_neg (e _ (by decide)), if_neg (e _ (by decide)), if_neg (e _ (by decide))]
theorem m_names {z : Int32} (h1 : -15 ≤ z.toInt) (h2 : z.toInt < 0) (h3 : ¬ z < -6) : ∃ j, j < 6 ∧ phi z = nI j ∧ (∀ (nm : Rw) (e : Int32 → Int32), (nm 0 = e (-1) ∧ nm 1 = e (-2) ∧ nm 2 = e (-3) ∧ nm 3 = e (-4) ∧ nm 4 = e (-5) ∧ nm 5 = e (-6)) → nm j = e z) := by
  rcases z_cases h1 h2 with h | h | h | h | h | h | h | h | h | h | h | h | h | h | h
  · subst h; exact ⟨0, by decide, by decide, fun _ _ h => h.1⟩
  · subst h; exact ⟨1, by decide, by decide, fun _ _ h => h.2.1⟩
  · subst h; exact ⟨2, by decide, by decide, fun _ _ h => h.2.2.1⟩
  · subst h; exact ⟨3, by decide, by decide, fun _ _ h => h.2.2.2.1⟩
  · subst h; exact ⟨4, by decide, by decide, fun _ _ h => h.2.2.2.2.1⟩
  · subst h; exact ⟨5, by decide, by decide, fun _ _ h => h.2.2.2.2.2⟩
  all_goals (subst h; exact absurd (by decide) h3)
theorem m_turns {z : Int32} (h1 : -15 ≤ z.toInt) (h2 : z < -6) (h3 : ¬ z < -8) : (z = -7 ∧ phi z = 19) ∨ (z = -8 ∧ phi z = 13) := by
  have h4 : z.toInt < 0 := by
    rw [i_lt] at h2
    have : (-6 : Int32).toInt = -6 := by decide
    omega
  rcases z_cases h1 h4 with h | h | h | h | h | h | h | h | h | h | h | h | h | h | h
  · subst h; exact absurd h2 (by decide)
  · subst h; exact absurd h2 (by decide)
  · subst h; exact absurd h2 (by decide)
  · subst h; exact absurd h2 (by decide)
  · subst h; exact absurd h2 (by decide)
  · subst h; exact absurd h2 (by decide)
  · subst h; exact Or.inl ⟨rfl, by decide⟩
  · subst h; exact Or.inr ⟨rfl, by decide⟩
  all_goals (subst h; exact absurd (by decide) h3)
theorem m_joins {z : Int32} (h1 : -15 ≤ z.toInt) (h2 : z < -8) : z.toInt ≤ -9 ∧ phi z < 100000 ∧ ¬ phi z < 11 ∧ ¬ phi z = 13 ∧ ¬ phi z = 19 := by
  have h4 : z.toInt < -8 := by
    rw [i_lt] at h2
    have : (-8 : Int32).toInt = -8 := by decide
    omega
  rcases z_cases h1 (by omega) with h | h | h | h | h | h | h | h | h | h | h | h | h | h | h
  · subst h; exact absurd h2 (by decide)
  · subst h; exact absurd h2 (by decide)
  · subst h; exact absurd h2 (by decide)
  · subst h; exact absurd h2 (by decide)
  · subst h; exact absurd h2 (by decide)
  · subst h; exact absurd h2 (by decide)
  · subst h; exact absurd h2 (by decide)
  · subst h; exact absurd h2 (by decide)
  all_goals (subst h; decide)
theorem m_saysL {k part rl : Nat} {e : Int32 → Int32} (hpart : part < 3) (hrl : rl < 6) : ∀ (cs st : List Int32) (σ : Sto) (m : Nat) (u : Value), PileR (σ 46) st → σ 30 10 = nI rl →
    (σ 47 0 = e (-1) ∧ σ 47 1 = e (-2) ∧ σ 47 2 = e (-3) ∧ σ 47 3 = e (-4) ∧ σ 47 4 = e (-5) ∧ σ 47 5 = e (-6)) →
    σ 37 (4 * rl + part + 1) = nI (m + cs.length) → (∀ j x, cs[j]? = some x → σ 36 (200 * rl + (m + j)) = phi x) → (∀ x ∈ cs, -15 ≤ x.toInt ∧ x.toInt ≤ 9999) → m + cs.length ≤ 200 → st.length + cs.length ≤ 200 → wfL st.length cs = some 1 →
    ∃ σ', R nM_says k 12 [.ref 30, .int (nI part), .int (nI st.length), .int (nI m), u] [] σ = some (headI (evC e cs st), 0, σ') ∧ Fr [46] σ σ' := by
  intro cs
  have q1 : inb (nI (4 * rl + part + 1)) 24 = true := ib (by omega) (by decide)
  have q2 : (nI (4 * rl + part + 1)).toNatClampNeg = 4 * rl + part + 1 := ixn (by omega)
  have q3 : 4 * nI rl + nI part + 1 = nI (4 * rl + part + 1) := by
    rw [show (4 : Int32) * nI rl = nI (4 * rl) from pk_mul 4 rl, nI_add, nI_1]
  have q4 : ∀ m, 200 * nI rl + nI m = nI (200 * rl + m) := fun m => by
    rw [show (200 : Int32) * nI rl = nI (200 * rl) from pk_mul 200 rl, nI_add]
  induction cs with
  | nil =>
    intro st σ m u hP hr hn h5 h3 hb hm hl hw
    have h5 : σ 37 (4 * rl + part + 1) = nI m := h5
    rw [eM_says_12 k, hr, q3, if_pos q1, q2, h5, if_neg (nI_nlt (Nat.le_refl _) (by omega))]
    have hd : st.length = 1 := Option.some.inj hw
    match st, hd, hP with
    | [x], _, hP =>
      have h6 : σ 46 0 = x := hP.1
      rw [z0, h6]
      exact ⟨σ, rfl, Fr.rf⟩
  | cons z cs ih =>
    intro st σ m u hP hr hn h5 h3 hb hm hl hw
    rw [List.length_cons] at h5 hm hl
    have hb1 := hb z List.mem_cons_self
    have hb' : ∀ x ∈ cs, -15 ≤ x.toInt ∧ x.toInt ≤ 9999 := fun x hx => hb x (List.mem_cons_of_mem _ hx)
    have hz : σ 36 (200 * rl + m) = phi z := h3 0 z rfl
    have h3' : ∀ j x, cs[j]? = some x → σ 36 (200 * rl + (m + 1 + j)) = phi x := by
      intro j x hj
      have := h3 (j + 1) x (by rw [List.getElem?_cons_succ]; exact hj)
      rw [← this]
      congr 1
      omega
    have h5' : σ 37 (4 * rl + part + 1) = nI (m + 1 + cs.length) := by
      rw [h5]
      congr 1
      omega
    have gm : ∀ i v, Fr [46] σ (su σ 46 i v) := fun i v => Fr.rf.su (List.mem_singleton.mpr rfl)
    rw [eM_says_12 k, hr, q3, if_pos q1, q2, h5, if_pos (nI_lt (by omega) (by omega)), eM_says_25 k, hr, q4, if_pos (ibn (show 200 * rl + m < 1200 by omega) (by decide)), ixn (show 200 * rl + m < 2147483648 by omega), hz]
    by_cases hz6 : z < -6
    · by_cases hz8 : z < -8
      · obtain ⟨j1, j2, j3, j4, j5⟩ := m_joins hb1.1 hz8
        rw [if_pos j2, if_neg j3, eM_says_58 k, if_neg j4, if_neg j5]
        match st, hP, hl, hw with
        | y :: x :: st, hP, hl, hw =>
          have hw' : wfL (st.length + 1) cs = some 1 := by
            have h0 : wfL (st.length + 2) (z :: cs) = if z < -6 then (if z < -8 then wfL (st.length + 1) cs else wfL (st.length + 2) cs) else wfL (st.length + 3) cs := rfl
            have h1 : wfL (st.length + 2) (z :: cs) = some 1 := hw
            rw [h0, if_pos hz6, if_pos hz8] at h1
            exact h1
          rw [List.length_cons, List.length_cons] at hl
          rw [List.length_cons, List.length_cons]
          have e1 : nI (st.length + 1 + 1) + -1 = nI (st.length + 1) := by rw [← nI_pred (st.length + 1), Int32.sub_eq_add_neg]
          rw [e1, eM_says_96 k, nI_pred]
          have i1 : inb (nI st.length) 200 = true := ib (by omega) (by decide)
          have i2 : inb (nI (st.length + 1)) 200 = true := ib (by omega) (by decide)
          have i3 : (nI st.length).toNatClampNeg = st.length := ixn (by omega)
          have i4 : (nI (st.length + 1)).toNatClampNeg = st.length + 1 := ixn (by omega)
          have p1 : σ 46 (st.length + 1) = y := hP.1
          have p2 : σ 46 st.length = x := hP.2.1
          rw [if_pos i1, if_pos i2, i3, i4, p1, p2, m_two hb1.1 j1, bs]
          simp only [i1, ↓reduceIte, nI_1]
          obtain ⟨σ', e', f⟩ := ih (joinS z x y :: st) (su σ 46 st.length (joinS z x y)) (m + 1) (.int (phi z)) (by rw [su46]; exact hP.2.2.push) (by rw [su_ne (by decide)]; exact hr)
            (by rw [su_ne (by decide)]; exact hn) (by rw [su_ne (by decide)]; exact h5') (by rw [su_ne (by decide)]; exact h3') hb' (by omega) (by rw [List.length_cons]; omega) hw'
          refine ⟨σ', ?_, (gm _ _).tr f⟩
          have e3 : evC e (z :: cs) (y :: x :: st) = evC e cs (joinS z x y :: st) := by
            show evC _ cs (stepC _ z (y :: x :: st)) = _
            unfold stepC
            rw [if_pos hz6, if_pos hz8]
          rw [e3]
          exact e'
        | [x], hP, hl, hw =>
          have h0 : wfL 1 (z :: cs) = if z < -6 then (if z < -8 then none else wfL 1 cs) else wfL 2 cs := rfl
          have h1 : wfL 1 (z :: cs) = some 1 := hw
          rw [h0, if_pos hz6, if_pos hz8] at h1
          cases h1
        | [], hP, hl, hw =>
          have h0 : wfL 0 (z :: cs) = if z < -6 then (if z < -8 then none else none) else wfL 1 cs := rfl
          have h1 : wfL 0 (z :: cs) = some 1 := hw
          rw [h0, if_pos hz6, if_pos hz8] at h1
          cases h1
      · match st, hP, hl, hw with
        | [], hP, hl, hw =>
          have h0 : wfL 0 (z :: cs) = if z < -6 then (if z < -8 then none else none) else wfL 1 cs := rfl
          have h1 : wfL 0 (z :: cs) = some 1 := hw
          rw [h0, if_pos hz6, if_neg hz8] at h1
          cases h1
        | x :: st, hP, hl, hw =>
          have hw' : wfL (st.length + 1) cs = some 1 := by
            have h1 : wfL (st.length + 1) (z :: cs) = some 1 := hw
            have h0 : ∀ d, wfL (d + 1) (z :: cs) = if z < -6 then (if z < -8 then (match d + 1 with | d + 2 => wfL (d + 1) cs | _ => none) else wfL (d + 1) cs) else wfL (d + 2) cs := fun _ => rfl
            rw [h0, if_pos hz6, if_neg hz8] at h1
            exact h1
          rw [List.length_cons] at hl
          have e1 : (x :: st).length = st.length + 1 := rfl
          have i1 : inb (nI st.length) 200 = true := ib (by omega) (by decide)
          have i3 : (nI st.length).toNatClampNeg = st.length := ixn (by omega)
          have p1 : σ 46 st.length = x := hP.1
          have p2 : PileR (σ 46) st := hP.2
          have fin : ∀ v u, v = (if z = -7 then -x else if x = 0 then 1 else 0) → ∃ σ', R nM_says k 12 [.ref 30, .int (nI part), .int (nI (st.length + 1)), .int (nI (m + 1)), u] [] (su σ 46 st.length v) =
              some (headI (evC e (z :: cs) (x :: st)), 0, σ') ∧ Fr [46] σ σ' := by
            intro v u hv
            obtain ⟨σ', e', f⟩ := ih (v :: st) (su σ 46 st.length v) (m + 1) u (by rw [su46]; exact p2.push) (by rw [su_ne (by decide)]; exact hr) (by rw [su_ne (by decide)]; exact hn)
              (by rw [su_ne (by decide)]; exact h5') (by rw [su_ne (by decide)]; exact h3') hb' (by omega) (by rw [List.length_cons]; omega) hw'
            refine ⟨σ', ?_, (gm _ _).tr f⟩
            have e3 : evC e (z :: cs) (x :: st) = evC e cs (v :: st) := by
              show evC _ cs (stepC _ z (x :: st)) = _
              unfold stepC
              rw [if_pos hz6, if_neg hz8, hv]
            rw [e3]
            exact e'
          rcases m_turns hb1.1 hz6 hz8 with ⟨hz7, ep⟩ | ⟨hz7, ep⟩
          · rw [ep, if_pos (by decide), if_neg (by decide), eM_says_58 k, if_neg (by decide), if_pos rfl, e1, nI_pred]
            simp only [i1, i3, p1, ↓reduceIte, nI_1]
            exact fin _ _ (by rw [if_pos hz7])
          · rw [ep, if_pos (by decide), if_neg (by decide), eM_says_58 k, if_pos rfl, e1, nI_pred]
            simp only [i1, i3, p1, ↓reduceIte, nI_1]
            by_cases hx : x = 0
            · rw [if_pos hx]
              exact fin _ _ (by rw [if_neg (by rw [hz7]; decide), if_pos hx])
            · rw [if_neg hx]
              exact fin _ _ (by rw [if_neg (by rw [hz7]; decide), if_neg hx])
    · have i1 : inb (nI st.length) 200 = true := ib (by omega) (by decide)
      have i3 : (nI st.length).toNatClampNeg = st.length := ixn (by omega)
      have hw' : wfL (st.length + 1) cs = some 1 := by
        have h0 : ∀ d, wfL d (z :: cs) = if z < -6 then (if z < -8 then (match d with | d + 2 => wfL (d + 1) cs | _ => none) else (match d with | d + 1 => wfL (d + 1) cs | _ => none)) else wfL (d + 1) cs := fun _ => rfl
        rw [h0, if_neg hz6] at hw
        exact hw
      have fin : ∀ v u, v = (if z < 0 then e z else z) → ∃ σ', R nM_says k 12 [.ref 30, .int (nI part), .int (nI (st.length + 1)), .int (nI (m + 1)), u] [] (su σ 46 st.length v) =
          some (headI (evC e (z :: cs) st), 0, σ') ∧ Fr [46] σ σ' := by
        intro v u hv
        obtain ⟨σ', e', f⟩ := ih (v :: st) (su σ 46 st.length v) (m + 1) u (by rw [su46]; exact hP.push) (by rw [su_ne (by decide)]; exact hr) (by rw [su_ne (by decide)]; exact hn)
          (by rw [su_ne (by decide)]; exact h5') (by rw [su_ne (by decide)]; exact h3') hb' (by omega) (by rw [List.length_cons]; omega) hw'
        refine ⟨σ', ?_, (gm _ _).tr f⟩
        have e3 : evC e (z :: cs) st = evC e cs (v :: st) := by
          show evC _ cs (stepC _ z st) = _
          unfold stepC
          rw [if_neg hz6, hv]
        rw [e3]
        exact e'
      have t0 : (0 : Int32).toInt = 0 := by decide
      by_cases h0 : z < 0
      · obtain ⟨j, hj, ep, hnm⟩ := m_names hb1.1 (by rw [i_lt] at h0; omega) hz6
        rw [ep, if_pos (show nI j < 100000 from nI_lt (b := 100000) (by omega) (by decide)), if_pos (show nI j < 11 from nI_lt (b := 11) (by omega) (by decide)), eM_says_41 k, if_pos (show nI j < 11 from nI_lt (b := 11) (by omega) (by decide)),
          if_pos (ib6 hj), if_pos i1, i3, ix6 hj, nI_1, nI_1]
        exact fin _ _ (by rw [if_pos h0]; exact hnm (σ 47) e hn)
      · have h0' : 0 ≤ z.toInt := by rw [i_lt] at h0; omega
        have t1 : (100000 : Int32).toInt = 100000 := by decide
        have t2 : (11 : Int32).toInt = 11 := by decide
        have t3 : (100000 + z).toInt = 100000 + z.toInt := by rw [i_add (by omega) (by omega), t1]
        have t4 : ¬ 100000 + z < 100000 := by rw [i_lt]; omega
        have t5 : ¬ 100000 + z < 11 := by rw [i_lt]; omega
        have t6 : 100000 + z - 100000 = z := by rw [i_eq, i_sub (by omega) (by omega), t3, t1]; omega
        rw [phi_of h0', if_neg t4, eM_says_41 k, if_neg t5, if_pos i1, i3, t6, nI_1, nI_1]
        exact fin _ _ (by rw [if_neg h0])
def AtM (σ : Sto) (TX : TXT) (K : Nat) (t : St) : Prop := RepM σ t ∧ TxM σ TX K
theorem AtM.fr {l : List Nat} {σ σ' : Sto} {TX : TXT} {K : Nat} {t : St} (h : AtM σ TX K t) (hf : Fr l σ σ') (hl : ∀ c, c ∈ l → 38 ≤ c) : AtM σ' TX K t :=
  ⟨h.1.fr hf (fun j hj hm => by have := hl _ hm; omega), h.2.fr hf (fun hm => by have := hl _ hm; omega) (fun hm => by have := hl _ hm; omega)⟩
theorem AtM.fm {σ σ' : Sto} {TX : TXT} {K : Nat} {t : St} (h : AtM σ TX K t) (hf : Fr [46, 47] σ σ') : AtM σ' TX K t := h.fr hf (by decide)
theorem m_says {k : Nat} {σ : Sto} {t : St} {TX : TXT} {K : Nat} (hr : AtM σ TX K t) (ho : Ok TX K t) {p part : Nat} (hpart : part < 3)
    (hn : σ 47 0 = envS t p (-1) ∧ σ 47 1 = envS t p (-2) ∧ σ 47 2 = envS t p (-3) ∧ σ 47 3 = envS t p (-4) ∧ σ 47 4 = envS t p (-5) ∧ σ 47 5 = envS t p (-6)) :
    ∃ σ', C nM_says k [.ref 30, .int (nI part)] σ = some (headI (evC (envS t p) (TX (sL t) part) []), 0, σ') ∧ Fr [46] σ σ' := by
  have hL6 : sL t < 6 := Nat.lt_of_lt_of_le ho.2.1 ho.2.2.1
  obtain ⟨h1, h2, h3⟩ := ho.2.2.2 (sL t) ho.2.1 part hpart
  obtain ⟨b, hb, hf, hto, hcode⟩ := hr.2 (sL t) ho.2.1 part hpart
  have q3 : 4 * nI (sL t) + nI part = nI (4 * sL t + part) := by
    rw [show (4 : Int32) * nI (sL t) = nI (4 * sL t) from pk_mul 4 (sL t), nI_add]
  rw [eM_says k, hr.1.L, q3, if_pos (ibn (show 4 * sL t + part < 24 by omega) (by decide)), ixn (by omega), hf]
  exact m_saysL hpart hL6 (TX (sL t) part) [] σ b .null trivial hr.1.L hn hto hcode h3 hb (by rw [List.length_nil]; omega) h1
theorem m_asks {k : Nat} {σ : Sto} {t : St} {TX : TXT} {K : Nat} (hr : AtM σ TX K t) (ho : Ok TX K t) {p part : Nat} (hp : p < sN t) (hpart : part < 3) :
    ∃ σ', C nM_asksOf k [.ref 30, .int (nI part), .int (nI p)] σ = some (saysS TX t part p, 0, σ') ∧ Fr [46, 47] σ σ' := by
  have h6 : p < 6 := Nat.lt_of_lt_of_le hp ho.n
  have hN := ho.n
  have fin : ∀ (v : Int32), v = envS t p (-1) →
      (∃ σ', @Eq (Option Rs) ((C nM_seenSet k [.ref 30] (su (su (su σ 47 0 v) 47 1 (rW t p)) 47 2 (sH t))).bind fun r2 =>
        (C nM_onesOf k [.int r2.1] r2.2.2).bind fun r3 =>
          (C nM_says k [.ref 30, .int (nI part)] (su (su (su r3.2.2 47 3 r3.1) 47 4 ((su r3.2.2 47 3 r3.1) 34 2)) 47 5 ((su (su r3.2.2 47 3 r3.1) 47 4 ((su r3.2.2 47 3 r3.1) 34 2)) 32 p))).bind fun r4 =>
                if nI part = 0 then
                  (C nM_within k [.int r4.1, .int 0, .int 99] r4.2.2).bind fun r5 =>
                    some (r5.1, 0, r5.2.2)
                else
                  (C nM_within k [.int r4.1, .int (-99), .int 99] r4.2.2).bind fun r5 =>
                    some (r5.1, 0, r5.2.2)) (some (saysS TX t part p, 0, σ')) ∧ Fr [46, 47] σ σ') := by
    intro v hv
    have f1 : Fr [46, 47] σ (su (su (su σ 47 0 v) 47 1 (rW t p)) 47 2 (sH t)) := ((Fr.rf.su (by decide)).su (by decide)).su (by decide)
    have a1 := hr.fm f1
    rw [m_seenSet a1.1 ho.n, bs, m_onesOf, bs]
    simp only []
    rw [ones_bits _ ho.n, cnt_B, su_ne (show 34 ≠ 47 by decide), a1.1.F, su_ne (show 32 ≠ 47 by decide), su_ne (show 32 ≠ 47 by decide), a1.1.M hp]
    have f2 : Fr [46, 47] σ (su (su (su (su (su (su σ 47 0 v) 47 1 (rW t p)) 47 2 (sH t)) 47 3 (nI (cntS t (sN t)))) 47 4 (sF t)) 47 5 (rM t p)) := ((f1.su (by decide)).su (by decide)).su (by decide)
    have a2 := hr.fm f2
    obtain ⟨σ', e, f⟩ := m_says (k := k) (p := p) a2 ho hpart (by
      simp only [su_row]
      refine ⟨hv, ?_, ?_, ?_, ?_, ?_⟩
      · rfl
      · rfl
      · rfl
      · rfl
      · rfl)
    have f' : Fr [46, 47] σ σ' := f2.tr (f.mono (by decide))
    rw [e, bs]
    simp only []
    unfold saysS clampS
    by_cases h0 : part = 0
    · subst h0
      rw [if_pos (by decide), m_within (by decide), bs]
      exact ⟨σ', rfl, f'⟩
    · rw [if_neg (nI_ne0 (by omega) (by omega)), m_within (by decide), bs, if_neg h0]
      exact ⟨σ', rfl, f'⟩
  rw [eM_asksOf k, m_isAt hr.1 ho.n hp, bs]
  have e33 : ∀ v, su σ 47 0 v 33 = σ 33 := fun v => su_ne (by decide)
  have e34 : ∀ v w, su (su σ 47 0 v) 47 1 w 34 = σ 34 := fun v w => (su_ne (by decide)).trans (su_ne (by decide))
  simp only [z0, z1, z2, z3, z4, z5, i3, nI_1, nI_2, ibn (show 3 * p < 18 by omega) (by decide), ibn (show 3 * p + 2 < 18 by omega) (by decide), ixn (show 3 * p < 2147483648 by omega), ixn (show 3 * p + 2 < 2147483648 by omega), ib6 h6, ix6 h6, e33, e34, hr.1.P hp, hr.1.W hp, hr.1.H, ↓reduceIte]
  by_cases h1 : rP t p = -1
  · rw [if_pos (show b2 (decide (¬ rP t p = -1)) = 0 by simp [h1, b2])]
    exact fin 0 (by unfold envS; rw [if_neg (by decide), if_neg (by decide), if_neg (by decide), if_neg (by decide), if_neg (by decide), if_pos rfl, if_pos h1])
  · rw [if_neg (show ¬ b2 (decide (¬ rP t p = -1)) = 0 by simp [h1, b2])]
    exact fin (rP t p) (by unfold envS; rw [if_neg (by decide), if_neg (by decide), if_neg (by decide), if_neg (by decide), if_neg (by decide), if_pos rfl, if_neg h1])
end
section
theorem AtM.f2 {σ σ' : Sto} {TX : TXT} {K : Nat} {t : St} (h : AtM σ TX K t) (hf : Fr [46, 47] σ σ') : AtM σ' TX K t := h.fm hf
theorem kind_or {TX : TXT} {K : Nat} {t : St} (ho : Ok TX K t) {p : Nat} (hp : p < sN t) : rK t p = 0 ∨ rK t p = 1 ∨ rK t p = 2 ∨ rK t p = 3 ∨ rK t p = 4 ∨ rK t p = 5 := by
  have h := (ho.p hp).1
  rw [i_eq, i_eq, i_eq, i_eq, i_eq, i_eq, show (0 : Int32).toInt = 0 by decide, show (1 : Int32).toInt = 1 by decide, show (2 : Int32).toInt = 2 by decide, show (3 : Int32).toInt = 3 by decide, show (4 : Int32).toInt = 4 by decide, show (5 : Int32).toInt = 5 by decide]
  omega
theorem m_gap {k : Nat} {σ : Sto} {t : St} {TX : TXT} {K : Nat} (ha : AtM σ TX K t) (ho : Ok TX K t) {p : Nat} (hp : p < sN t) :
    ∃ σ', C nM_gapOf k [.ref 30, .int (nI p)] σ = some (gapS TX t p, 0, σ') ∧ Fr [46, 47] σ σ' := by
  have h6 : p < 6 := Nat.lt_of_lt_of_le hp ho.n
  obtain ⟨σ', e, f⟩ := m_asks (k := k) ha ho hp (by decide : 0 < 3)
  rw [show nI 0 = 0 from rfl] at e
  have a1 := ha.fm f
  rw [eM_gapOf k]
  simp only [ib6 h6, ix6 h6, ha.1.K hp, e, bs, a1.1.K hp, a1.1.M hp, ↓reduceIte]
  unfold gapS
  rcases kind_or ho hp with h | h | h | h | h | h
  · rw [h]; exact ⟨σ', rfl, f⟩
  · rw [h]; exact ⟨σ', rfl, f⟩
  · rw [h]; exact ⟨σ', rfl, f⟩
  · rw [h]; exact ⟨σ', rfl, f⟩
  · rw [h]; exact ⟨σ', rfl, f⟩
  · rw [h]; exact ⟨σ, rfl, Fr.rf⟩
theorem m_liked {k : Nat} {σ : Sto} {t : St} {TX : TXT} {K : Nat} (ha : AtM σ TX K t) (ho : Ok TX K t) {p : Nat} (hp : p < sN t) :
    ∃ σ', C nM_likedOf k [.ref 30, .int (nI p)] σ = some (likedS TX t p, 0, σ') ∧ Fr [46, 47] σ σ' := by
  have h6 : p < 6 := Nat.lt_of_lt_of_le hp ho.n
  obtain ⟨σ', e, f⟩ := m_asks (k := k) ha ho hp (by decide : 1 < 3)
  rw [show nI 1 = 1 from rfl] at e
  have a1 := ha.fm f
  rw [eM_likedOf k]
  simp only [ib6 h6, ix6 h6, z3, ha.1.K hp, ha.1.M hp, e, bs, a1.1.K hp, a1.1.M hp, a1.1.H, ↓reduceIte]
  unfold likedS modS
  rcases kind_or ho hp with h | h | h | h | h | h
  · rw [h]; exact ⟨σ', rfl, f⟩
  · rw [h]; exact ⟨σ', rfl, f⟩
  · rw [h]; exact ⟨σ', rfl, f⟩
  · rw [h]
    simp (config := { decide := true }) only [↓reduceIte]
    by_cases h2 : sH t - sH t / 4 * 4 = 0
    · rw [if_pos h2, if_pos h2]; exact ⟨σ', rfl, f⟩
    · rw [if_neg h2, if_neg h2]; exact ⟨σ', rfl, f⟩
  · rw [h]; exact ⟨σ', rfl, f⟩
  · rw [h]; exact ⟨σ, rfl, Fr.rf⟩
theorem m_farL {k : Nat} {σ : Sto} {t : St} (hr : RepM σ t) (hN : sN t ≤ 6) {p : Nat} (hp : p < sN t) (hat : ¬ rP t p = -1) : ∀ d m u, m + d = sN t →
    R nM_farOf k 4 [.ref 30, .int (nI p), .int (farS t p m), .int (nI m), u] [] σ = some (farS t p (sN t), 0, σ) := by
  intro d
  induction d with
  | zero =>
    intro m u hm
    have e : m = sN t := by omega
    subst e
    rw [eM_farOf_4 k, hr.n, if_neg (nI_nlt (by omega) (by omega))]
  | succ d ih =>
    intro m u hm
    have h1 : m < sN t := by omega
    have e : farS t p (m + 1) = if m = p then farS t p m else if seenS t m = false then farS t p m else if rP t p = -1 then farS t p m
      else if farS t p m = -1 then distS t m p else minI (farS t p m) (distS t m p) := rfl
    have h2 := fun u => ih (m + 1) u (by omega)
    rw [e] at h2
    rw [eM_farOf_4 k, hr.n, if_pos (nI_lt h1 (by omega)), m_isAt hr hN hp, bs, m_seen hr hN h1, bs]
    simp only [i3, ibn (show 3 * p < 18 by omega) (by decide), ibn (show 3 * m < 18 by omega) (by decide), ixn (show 3 * p < 2147483648 by omega), ixn (show 3 * m < 2147483648 by omega), hr.P h1, hr.P hp, ↓reduceIte, nI_1, nI_eq (show m < 2 ^ 31 by omega) (show p < 2 ^ 31 by omega)]
    rw [if_neg (show ¬ b2 (decide (¬ rP t p = -1)) = 0 by simp [hat, b2])]
    by_cases h3 : m = p
    · rw [if_pos h3]
      rw [if_pos h3] at h2
      exact h2 _
    rw [if_neg h3]
    rw [if_neg h3] at h2
    cases h4 : seenS t m with
    | false =>
      rw [if_pos h4] at h2
      rw [b2F, if_pos rfl]
      exact h2 _
    | true =>
      rw [if_neg (by rw [h4]; decide), if_neg hat] at h2
      rw [b2T, if_neg n10]
      have fin : ∀ v4, R nM_farOf k 39 [.ref 30, .int (nI p), .int (farS t p m), .int (nI m), .int v4] [.int (distS t m p)] σ = some (farS t p (sN t), 0, σ) := by
        intro v4
        rw [eM_farOf_39 k, nI_1]
        by_cases h7 : farS t p m = -1
        · rw [if_pos h7] at h2 ⊢
          exact h2 _
        · rw [if_neg h7] at h2 ⊢
          unfold minI at h2
          by_cases h8 : distS t m p < farS t p m
          · rw [if_pos h8] at h2 ⊢
            exact h2 _
          · rw [if_neg h8] at h2 ⊢
            exact h2 _
      have e0 : (0 : Int32).toInt = 0 := by decide
      by_cases h5 : rP t m - rP t p < 0
      · rw [if_pos h5]
        have e5 : -(rP t m - rP t p) = distS t m p := by
          unfold distS absI
          rw [i_lt] at h5
          rw [if_neg (by rw [Int32.le_iff_toInt_le]; omega), Int32.zero_sub]
        rw [e5]
        exact fin _
      · rw [if_neg h5]
        have e5 : rP t m - rP t p = distS t m p := by
          unfold distS absI
          rw [i_lt] at h5
          rw [if_pos (by rw [Int32.le_iff_toInt_le]; omega)]
        rw [e5]
        exact fin _
theorem far_none {t : St} {p : Nat} (h : rP t p = -1) : ∀ m, farS t p m = -1 := by
  intro m
  induction m with
  | zero => rfl
  | succ m ih =>
    unfold farS
    rw [ih]
    split
    · rfl
    · split
      · rfl
      · rfl
theorem m_far {k : Nat} {σ : Sto} {t : St} (hr : RepM σ t) (hN : sN t ≤ 6) {p : Nat} (hp : p < sN t) : C nM_farOf k [.ref 30, .int (nI p)] σ = some (farS t p (sN t), 0, σ) := by
  rw [eM_farOf k]
  by_cases h : rP t p = -1
  · rw [eM_farOf_4 k, hr.n, if_pos (show (0 : Int32) < nI (sN t) from nI_lt (a := 0) (by omega) (by omega)), m_isAt hr hN hp, bs, if_pos (show b2 (decide (¬ rP t p = -1)) = 0 by simp [h, b2]), far_none h]
  · exact m_farL hr hN hp h (sN t) 0 .null (Nat.zero_add _)
theorem dist_ok {TX : TXT} {K : Nat} {t : St} (ho : Ok TX K t) {q p : Nat} (hq : q < sN t) (hp : p < sN t) : 0 ≤ (distS t q p).toInt ∧ (distS t q p).toInt ≤ 64 := by
  have h1 := (ho.p hq).2.2.1
  have h2 := (ho.p hp).2.2.1
  have e0 : (0 : Int32).toInt = 0 := by decide
  have e1 : (rP t q - rP t p).toInt = (rP t q).toInt - (rP t p).toInt := i_sub (by omega) (by omega)
  have e2 : (0 - (rP t q - rP t p)).toInt = 0 - (rP t q - rP t p).toInt := by rw [i_sub (by omega) (by omega), e0]
  unfold distS absI
  by_cases h : 0 ≤ rP t q - rP t p
  · rw [if_pos h]
    rw [Int32.le_iff_toInt_le] at h
    omega
  · rw [if_neg h]
    rw [Int32.le_iff_toInt_le] at h
    omega
theorem far_near {TX : TXT} {K : Nat} {t : St} (ho : Ok TX K t) {p : Nat} (hp : p < sN t) (hat : ¬ rP t p = -1) : ∀ m, m ≤ sN t →
    (farS t p m = -1 ∧ ∀ g, nearS t p g m = false) ∨ (0 ≤ (farS t p m).toInt ∧ ∀ g, nearS t p g m = decide (farS t p m < g)) := by
  intro m
  induction m with
  | zero => intro _; exact Or.inl ⟨rfl, fun _ => rfl⟩
  | succ m ih =>
    intro hm
    have ih := ih (by omega)
    have hd := dist_ok ho (show m < sN t by omega) hp
    have e : farS t p (m + 1) = if m = p then farS t p m else if seenS t m = false then farS t p m else if rP t p = -1 then farS t p m
      else if farS t p m = -1 then distS t m p else minI (farS t p m) (distS t m p) := rfl
    have e2 : ∀ g, nearS t p g (m + 1) = (nearS t p g m || (decide (m ≠ p) && seenS t m && decide (distS t m p < g))) := fun _ => rfl
    by_cases h3 : m = p
    · rw [if_pos h3] at e
      rw [e]
      have e3 : ∀ g, nearS t p g (m + 1) = nearS t p g m := fun g => by rw [e2]; simp [h3]
      simp only [e3]
      exact ih
    rw [if_neg h3] at e
    cases h4 : seenS t m with
    | false =>
      rw [if_pos h4] at e
      rw [e]
      have e3 : ∀ g, nearS t p g (m + 1) = nearS t p g m := fun g => by rw [e2]; simp [h4]
      simp only [e3]
      exact ih
    | true =>
      rw [if_neg (by rw [h4]; decide), if_neg hat] at e
      have e3 : ∀ g, nearS t p g (m + 1) = (nearS t p g m || decide (distS t m p < g)) := fun g => by rw [e2]; simp [h3, h4]
      simp only [e3]
      right
      rcases ih with ⟨i1, i2⟩ | ⟨i1, i2⟩
      · rw [if_pos i1] at e
        rw [e]
        refine ⟨hd.1, fun g => ?_⟩
        rw [i2, Bool.false_or]
      · rw [if_neg (by
          intro h
          rw [h] at i1
          exact absurd i1 (by decide))] at e
        rw [e]
        unfold minI
        by_cases h8 : distS t m p < farS t p m
        · rw [if_pos h8]
          refine ⟨hd.1, fun g => ?_⟩
          rw [i2]
          rw [Bool.eq_iff_iff, Bool.or_eq_true, decide_eq_true_eq, decide_eq_true_eq]
          rw [i_lt] at h8
          rw [i_lt, i_lt]
          omega
        · rw [if_neg h8]
          refine ⟨i1, fun g => ?_⟩
          rw [i2]
          rw [Bool.eq_iff_iff, Bool.or_eq_true, decide_eq_true_eq, decide_eq_true_eq]
          rw [i_lt] at h8
          rw [i_lt, i_lt]
          omega
theorem m_alone {k : Nat} {σ : Sto} {t : St} {TX : TXT} {K : Nat} (ha : AtM σ TX K t) (ho : Ok TX K t) {p : Nat} (hp : p < sN t) :
    ∃ σ', C nM_isAlone k [.ref 30, .int (nI p)] σ = some (b2 (aloneS TX t p), 0, σ') ∧ Fr [46, 47] σ σ' := by
  rw [eM_isAlone k, m_seen ha.1 ho.n hp, bs]
  unfold aloneS
  cases h : seenS t p with
  | false => exact ⟨σ, rfl, Fr.rf⟩
  | true =>
    rw [if_neg (show ¬ (b2 true, (0 : Int64), σ).1 = 0 from n10), m_far ha.1 ho.n hp, bs]
    simp only []
    rcases far_near ho hp (seen_at h) (sN t) (Nat.le_refl _) with ⟨h1, h2⟩ | ⟨h1, h2⟩
    · rw [if_pos h1, h2]
      exact ⟨σ, rfl, Fr.rf⟩
    · obtain ⟨σ', e, f⟩ := m_gap (k := k) ha ho hp
      rw [if_neg (by
        intro h
        rw [h] at h1
        exact absurd h1 (by decide)), e, bs, h2]
      refine ⟨σ', ?_, f⟩
      by_cases h3 : farS t p (sN t) < gapS TX t p
      · simp [h3, b2]
      · simp [h3, b2]
theorem m_aloneSet {k : Nat} {σ : Sto} {t : St} {TX : TXT} {K : Nat} (ha : AtM σ TX K t) (ho : Ok TX K t) :
    ∃ σ', C nM_aloneSet k [.ref 30] σ = some (bitsS (aloneS TX t) (sN t), 0, σ') ∧ Fr [46, 47] σ σ' := by
  have hN := ho.n
  have L : ∀ d m σ, AtM σ TX K t → m + d = sN t → ∃ σ', R nM_aloneSet k 4 [.ref 30, .int (bitsS (aloneS TX t) m), .int (nI m)] [] σ = some (bitsS (aloneS TX t) (sN t), 0, σ') ∧ Fr [46, 47] σ σ' := by
    intro d
    induction d with
    | zero =>
      intro m σ ha hm
      have e : m = sN t := by omega
      subst e
      rw [eM_aloneSet_4 k, ha.1.n, if_neg (nI_nlt (by omega) (by omega))]
      exact ⟨σ, rfl, Fr.rf⟩
    | succ d ih =>
      intro m σ ha hm
      have h1 : m < sN t := by omega
      have e : bitsS (aloneS TX t) (m + 1) = if aloneS TX t m = true then bitsS (aloneS TX t) m ||| (1 <<< (nI m &&& 31)) else bitsS (aloneS TX t) m := rfl
      obtain ⟨σ1, e1, f1⟩ := m_alone (k := k) ha ho h1
      have ha1 := ha.fm f1
      have h2 := ih (m + 1) σ1 ha1 (by omega)
      rw [eM_aloneSet_4 k, ha.1.n, if_pos (nI_lt h1 (by omega)), e1, bs]
      simp only [nI_1, Int32.or_zero]
      rw [e] at h2
      cases h4 : aloneS TX t m with
      | false =>
        rw [if_neg (by rw [h4]; decide)] at h2
        obtain ⟨σ3, e3, f3⟩ := h2
        exact ⟨σ3, e3, f1.tr f3⟩
      | true =>
        rw [if_pos h4] at h2
        obtain ⟨σ3, e3, f3⟩ := h2
        exact ⟨σ3, e3, f1.tr f3⟩
  rw [eM_aloneSet k]
  exact L (sN t) 0 σ ha (Nat.zero_add _)
theorem m_walks {k : Nat} {σ : Sto} {t : St} {TX : TXT} {K : Nat} (ha : AtM σ TX K t) (ho : Ok TX K t) {p : Nat} (hp : p < sN t) :
    ∃ σ', C nM_walksOf k [.ref 30, .int (nI p)] σ = some (walksS TX t p, 0, σ') ∧ Fr [46, 47] σ σ' := by
  have h6 : p < 6 := Nat.lt_of_lt_of_le hp ho.n
  obtain ⟨σ1, e1, f1⟩ := m_asks (k := k) ha ho hp (by decide : 2 < 3)
  have a1 := ha.fm f1
  obtain ⟨σ2, e2, f2⟩ := m_alone (k := k) a1 ho hp
  rw [show nI 2 = 2 from rfl] at e1
  rw [eM_walksOf k]
  simp only [ib6 h6, ix6 h6, z3, ha.1.K hp, ha.1.M hp, ha.1.H, e1, e2, bs, a1.1.K hp, a1.1.M hp, ↓reduceIte]
  unfold walksS modS
  rcases kind_or ho hp with h | h | h | h | h | h
  · rw [h]; exact ⟨σ1, rfl, f1⟩
  · rw [h]; exact ⟨σ1, rfl, f1⟩
  · rw [h]
    simp (config := { decide := true }) only [↓reduceIte]
    cases h2 : aloneS TX t p
    · rw [b2F, if_pos rfl, Int32.add_zero]; exact ⟨σ2, rfl, f1.tr f2⟩
    · rw [b2T, if_neg n10]; exact ⟨σ2, rfl, f1.tr f2⟩
  · rw [h]
    simp (config := { decide := true }) only [↓reduceIte]
    cases h2 : aloneS TX t p
    · exact ⟨σ2, rfl, f1.tr f2⟩
    · exact ⟨σ2, rfl, f1.tr f2⟩
  · rw [h]
    simp (config := { decide := true }) only [↓reduceIte]
    by_cases h2 : sH t - sH t / 2 * 2 = 0
    · rw [if_pos h2, if_pos h2]; exact ⟨σ, rfl, Fr.rf⟩
    · rw [if_neg h2, if_neg h2]; exact ⟨σ, rfl, Fr.rf⟩
  · rw [h]; exact ⟨σ1, rfl, f1⟩
theorem m_choice {k : Nat} {σ : Sto} {t : St} {TX : TXT} {K : Nat} (ha : AtM σ TX K t) (ho : Ok TX K t) :
    ∃ σ', C nM_choice k [.ref 30] σ = some (choiceS TX t, 0, σ') ∧ Fr [46, 47] σ σ' := by
  have hN := ho.n
  have L : ∀ d m u w σ, AtM σ TX K t → m + d = sN t → ∃ σ', R nM_choice k 6 [.ref 30, .int (choS TX t m).1, .int (choS TX t m).2, .int (nI m), u, w] [] σ = some (choiceS TX t, 0, σ') ∧ Fr [46, 47] σ σ' := by
    intro d
    induction d with
    | zero =>
      intro m u w σ ha hm
      have e : m = sN t := by omega
      subst e
      rw [eM_choice_6 k, ha.1.n, if_neg (nI_nlt (by omega) (by omega))]
      exact ⟨σ, rfl, Fr.rf⟩
    | succ d ih =>
      intro m u w σ ha hm
      have h1 : m < sN t := by omega
      have e : choS TX t (m + 1) = if aloneS TX t m = false then choS TX t m else if (choS TX t m).1 = -1 then (nI m, likedS TX t m) else if (choS TX t m).2 < likedS TX t m then (nI m, likedS TX t m) else choS TX t m := rfl
      have h2 := fun u w σ ha => ih (m + 1) u w σ ha (by omega)
      obtain ⟨σ1, e1, f1⟩ := m_alone (k := k) ha ho h1
      have ha1 := ha.fm f1
      obtain ⟨σ2, e2, f2⟩ := m_liked (k := k) ha1 ho h1
      have ha2 := ha1.fm f2
      rw [eM_choice_6 k, ha.1.n, if_pos (nI_lt h1 (by omega)), e1, bs]
      simp only [e2, bs, nI_1]
      cases h4 : aloneS TX t m with
      | false =>
        rw [e, if_pos h4] at h2
        obtain ⟨σ3, e3, f3⟩ := h2 u w σ1 ha1
        exact ⟨σ3, e3, f1.tr f3⟩
      | true =>
        rw [e, if_neg (by rw [h4]; decide)] at h2
        rw [b2T, if_neg n10]
        by_cases h5 : (choS TX t m).1 = -1
        · rw [if_pos h5] at h2 ⊢
          obtain ⟨σ3, e3, f3⟩ := h2 _ _ σ2 ha2
          exact ⟨σ3, e3, (f1.tr f2).tr f3⟩
        rw [if_neg h5] at h2 ⊢
        by_cases h7 : (choS TX t m).2 < likedS TX t m
        · rw [if_pos h7] at h2 ⊢
          obtain ⟨σ3, e3, f3⟩ := h2 _ _ σ2 ha2
          exact ⟨σ3, e3, (f1.tr f2).tr f3⟩
        · rw [if_neg h7] at h2 ⊢
          obtain ⟨σ3, e3, f3⟩ := h2 _ _ σ2 ha2
          exact ⟨σ3, e3, (f1.tr f2).tr f3⟩
  rw [eM_choice k]
  exact L (sN t) 0 .null .null σ ha (Nat.zero_add _)
end
section
theorem RepM.s33 {σ : Sto} {t t' : St} (h : RepM σ t) {j : Nat} {v : Int32} (h1 : t'.1 = t.1) (h2 : ∀ i, i < sN t → rK t' i = rK t i ∧ rM t' i = rM t i ∧ upd (σ 33) j v (3 * i) = rP t' i ∧ upd (σ 33) j v (3 * i + 1) = rD t' i ∧ upd (σ 33) j v (3 * i + 2) = rW t' i) : RepM (su σ 33 j v) t' := by
  have e : sN t' = sN t := congrArg (·.1) h1
  refine ⟨?_, fun i hi => ?_⟩
  · rw [su_ne (by decide), su_ne (by decide)]
    unfold sN sH sO sB sF sL
    rw [h1]
    exact h.1
  · rw [e] at hi
    obtain ⟨a1, a2, a3, a4, a5⟩ := h2 i hi
    rw [su_ne (by decide), su_ne (by decide), su_row, a1, a2]
    exact ⟨h.K hi, h.M hi, a3, a4, a5⟩
theorem RepM.sP {σ : Sto} {t : St} (h : RepM σ t) {p : Nat} {v : Int32} : RepM (su σ 33 (3 * p) v) (pP t (upd (rP t) p v)) := by
  refine h.s33 rfl fun i hi => ⟨rfl, rfl, ?_, ?_, ?_⟩
  · show upd (σ 33) (3 * p) v (3 * i) = upd (rP t) p v i
    by_cases hip : i = p
    · subst hip; rw [upd_s, upd_s]
    · rw [upd_n (by omega), upd_n hip]; exact h.P hi
  · rw [upd_n (by omega)]; exact h.D hi
  · rw [upd_n (by omega)]; exact h.W hi
theorem RepM.sD {σ : Sto} {t : St} (h : RepM σ t) {p : Nat} {v : Int32} : RepM (su σ 33 (3 * p + 1) v) (pD t (upd (rD t) p v)) := by
  refine h.s33 rfl fun i hi => ⟨rfl, rfl, ?_, ?_, ?_⟩
  · rw [upd_n (by omega)]; exact h.P hi
  · show upd (σ 33) (3 * p + 1) v (3 * i + 1) = upd (rD t) p v i
    by_cases hip : i = p
    · subst hip; rw [upd_s, upd_s]
    · rw [upd_n (by omega), upd_n hip]; exact h.D hi
  · rw [upd_n (by omega)]; exact h.W hi
theorem RepM.sW {σ : Sto} {t : St} (h : RepM σ t) {p : Nat} {v : Int32} : RepM (su σ 33 (3 * p + 2) v) (pW t (upd (rW t) p v)) := by
  refine h.s33 rfl fun i hi => ⟨rfl, rfl, ?_, ?_, ?_⟩
  · rw [upd_n (by omega)]; exact h.P hi
  · rw [upd_n (by omega)]; exact h.D hi
  · show upd (σ 33) (3 * p + 2) v (3 * i + 2) = upd (rW t) p v i
    by_cases hip : i = p
    · subst hip; rw [upd_s, upd_s]
    · rw [upd_n (by omega), upd_n hip]; exact h.W hi
theorem RepM.sK {σ : Sto} {t : St} (h : RepM σ t) {p : Nat} {v : Int32} : RepM (su σ 31 p v) (pK t (upd (rK t) p v)) := by
  refine ⟨h.1, fun i hi => ?_⟩
  rw [su_row, su_ne (by decide), su_ne (by decide)]
  refine ⟨?_, h.M hi, h.P hi, h.D hi, h.W hi⟩
  show upd (σ 31) p v i = upd (rK t) p v i
  unfold upd
  rw [h.K hi]
theorem RepM.sM {σ : Sto} {t : St} (h : RepM σ t) {p : Nat} {v : Int32} : RepM (su σ 32 p v) (pM t (upd (rM t) p v)) := by
  refine ⟨h.1, fun i hi => ?_⟩
  rw [su_row, su_ne (by decide), su_ne (by decide)]
  refine ⟨h.K hi, ?_, h.P hi, h.D hi, h.W hi⟩
  show upd (σ 32) p v i = upd (rM t) p v i
  unfold upd
  rw [h.M hi]
theorem RepM.s34 {σ : Sto} {t t' : St} (h : RepM σ t) {j : Nat} {v : Int32} (h1 : t'.2 = t.2) (hn : sN t' = sN t) (hl : sL t' = sL t) (h2 : upd (σ 34) j v 0 = sO t' ∧ upd (σ 34) j v 1 = sB t' ∧ upd (σ 34) j v 2 = sF t' ∧ upd (σ 34) j v 3 = sH t') : RepM (su σ 34 j v) t' := by
  refine ⟨?_, fun i hi => ?_⟩
  · rw [su_ne (by decide), su_row, hn, hl]
    exact ⟨h.n, h.L, h2⟩
  · rw [hn] at hi
    rw [su_ne (by decide), su_ne (by decide), su_ne (by decide)]
    unfold rK rM rP rD rW
    rw [h1]
    exact h.2 i hi
theorem RepM.sO {σ : Sto} {t : St} (h : RepM σ t) {v : Int32} : RepM (su σ 34 0 v) (uO t v) := h.s34 rfl rfl rfl ⟨upd_s, (upd_n (by decide)).trans h.B, (upd_n (by decide)).trans h.F, (upd_n (by decide)).trans h.H⟩
theorem RepM.sB {σ : Sto} {t : St} (h : RepM σ t) {v : Int32} : RepM (su σ 34 1 v) (uB t v) := h.s34 rfl rfl rfl ⟨(upd_n (by decide)).trans h.O, upd_s, (upd_n (by decide)).trans h.F, (upd_n (by decide)).trans h.H⟩
theorem RepM.sF {σ : Sto} {t : St} (h : RepM σ t) {v : Int32} : RepM (su σ 34 2 v) (uF t v) := h.s34 rfl rfl rfl ⟨(upd_n (by decide)).trans h.O, (upd_n (by decide)).trans h.B, upd_s, (upd_n (by decide)).trans h.H⟩
theorem RepM.sH {σ : Sto} {t : St} (h : RepM σ t) {v : Int32} : RepM (su σ 34 3 v) (uH t v) := h.s34 rfl rfl rfl ⟨(upd_n (by decide)).trans h.O, (upd_n (by decide)).trans h.B, (upd_n (by decide)).trans h.F, upd_s⟩
theorem RepM.sL {σ : Sto} {t : St} (h : RepM σ t) {v : Nat} : RepM (su σ 30 10 (nI v)) (uL t v) := by
  refine ⟨?_, fun i hi => ?_⟩
  · rw [su_row, su_ne (by decide)]
    exact ⟨(upd_n (by decide)).trans h.n, upd_s, h.O, h.B, h.F, h.H⟩
  · rw [su_ne (by decide), su_ne (by decide), su_ne (by decide)]
    exact h.2 i hi
theorem TxM.su {σ : Sto} {TX : TXT} {K : Nat} (h : TxM σ TX K) {c i : Nat} {v : Int32} (h1 : c ≠ 36) (h2 : c ≠ 37) : TxM (su σ c i v) TX K := h.fr (l := [c]) (Fr.rf.su (List.mem_singleton.mpr rfl)) (by rw [List.mem_singleton]; omega) (by rw [List.mem_singleton]; omega)
/-- the cells that an hour of the model writes -/
def wm : List Nat := [33, 34, 46, 47]
theorem f2wm {σ σ' : Sto} (h : Fr [46, 47] σ σ') : Fr wm σ σ' := h.mono (by decide)
theorem m_fetches {k : Nat} {σ : Sto} {t : St} {TX : TXT} {K : Nat} (ha : AtM σ TX K t) (ho : Ok TX K t) {p : Nat} (hp : p < sN t) :
    ∃ σ', C nM_fetches k [.ref 30, .int (nI p)] σ = some (0, 0, σ') ∧ AtM σ' TX K (fetchS t p) ∧ Fr wm σ σ' := by
  have hN := ho.n
  have h9 := min9999 ho.1.2.2.1.1 ho.1.2.2.1.2
  have hr := ha.1
  have key : ∀ a, a = 1 + absI (2 * rP t p - 63) / 20 →
      ∃ σ', @Eq (Option Rs) ((C nM_within k [.int (((su (su σ 34 0 a) 34 1 (nI p)) 34 2) + 1), .int 0, .int 9999] (su (su σ 34 0 a) 34 1 (nI p))).bind fun r1 => some (0, 0, (su (su r1.2.2 34 2 r1.1) 33 (3 * p) (-1)))) (some (0, 0, σ')) ∧ AtM σ' TX K (fetchS t p) ∧ Fr wm σ σ' := by
    intro a hae
    have r1 := (hr.sO (v := a)).sB (v := nI p)
    have r2 := (r1.sF (v := minI 9999 (sF t + 1))).sP (p := p) (v := -1)
    rw [r1.F, m_within (by decide), bs]
    have e : maxI 0 (minI 9999 (sF (uB (uO t a) (nI p)) + 1)) = minI 9999 (sF t + 1) := max0 h9.1
    simp only [e]
    refine ⟨_, rfl, ⟨?_, (((ha.2.su (by decide) (by decide)).su (by decide) (by decide)).su (by decide) (by decide)).su (by decide) (by decide)⟩, (((Fr.rf.su (by decide)).su (by decide)).su (by decide)).su (by decide)⟩
    rw [hae] at r2 ⊢
    exact r2
  rw [eM_fetches k]
  simp only [z0, z1, z2, i3, ibn (show 3 * p < 18 by omega) (by decide), ixn (show 3 * p < 2147483648 by omega), hr.P hp, ↓reduceIte]
  have e0 : (0 : Int32).toInt = 0 := by decide
  by_cases h1 : 2 * rP t p - 63 < 0
  · rw [if_pos h1]
    refine key _ ?_
    unfold absI
    rw [i_lt] at h1
    rw [if_neg (by rw [Int32.le_iff_toInt_le]; omega), Int32.zero_sub]
  · rw [if_neg h1]
    refine key _ ?_
    unfold absI
    rw [i_lt] at h1
    rw [if_pos (by rw [Int32.le_iff_toInt_le]; omega)]
theorem m_walkL {k : Nat} {t : St} {TX : TXT} {K : Nat} (ho : Ok TX K t) {v1 : Int32} : ∀ d m σ, AtM σ TX K (walkS TX t m) → m + d = sN t →
    ∃ σ', R nM_hourOf k 42 [.ref 30, .int v1, .int (nI m)] [] σ = some (v1, 0, σ') ∧ AtM σ' TX K (uH (walkS TX t (sN t)) (sH t + 1)) ∧ Fr wm σ σ' := by
  intro d
  have hN := ho.n
  induction d with
  | zero =>
    intro m σ ha hm
    have e : m = sN t := by omega
    subst e
    have e2 : sH (walkS TX t (sN t)) = sH t := congrArg (fun z => z.2.1) (walk_t (sN t))
    rw [eM_hourOf_42 k, ha.1.n, walk_n, if_neg (nI_nlt (by omega) (by omega)), z3, ha.1.H, e2]
    exact ⟨_, rfl, ⟨ha.1.sH, ha.2.su (by decide) (by decide)⟩, Fr.rf.su (by decide)⟩
  | succ d ih =>
    intro m σ ha hm
    have h1 : m < sN t := by omega
    have h1' : m < sN (walkS TX t m) := by rw [walk_n]; exact h1
    have hom := ho.walk m (by omega)
    have e : walkS TX t (m + 1) = walk1S TX (walkS TX t m) m := rfl
    obtain ⟨σ1, e1, f1⟩ := m_walks (k := k) ha hom h1'
    have ha1 := ha.fm f1
    have r2 := ha1.1.sP (p := m) (v := maxI 0 (minI 63 (rP (walkS TX t m) m + walksS TX (walkS TX t m) m)))
    have h9 := (hom.p h1').2.2.2.2
    rw [eM_hourOf_42 k, ha.1.n, walk_n, if_pos (nI_lt h1 (by omega)), m_isAt ha.1 hom.n h1', bs]
    simp only [i3, nI_1, nI_2, ibn (show 3 * m < 18 by omega) (by decide), ixn (show 3 * m < 2147483648 by omega), ibn (show 3 * m + 2 < 18 by omega) (by decide), ixn (show 3 * m + 2 < 2147483648 by omega), ha.1.P h1', e1, bs, ↓reduceIte]
    by_cases h2 : rP (walkS TX t m) m = -1
    · rw [if_pos (show b2 (decide (¬ rP (walkS TX t m) m = -1)) = 0 by simp [h2, b2])]
      refine ih (m + 1) σ ?_ (by omega)
      rw [e]
      unfold walk1S
      rw [if_pos h2]
      exact ha
    · rw [if_neg (show ¬ b2 (decide (¬ rP (walkS TX t m) m = -1)) = 0 by simp [h2, b2]), m_within (by decide), bs]
      simp only []
      have h3 : su σ1 33 (3 * m) (maxI 0 (minI 63 (rP (walkS TX t m) m + walksS TX (walkS TX t m) m))) 33 (3 * m + 2) = rW (walkS TX t m) m := r2.W h1'
      rw [h3, m_within (by decide), bs]
      have h4 : maxI 0 (minI 99 (rW (walkS TX t m) m + 1)) = minI 99 (rW (walkS TX t m) m + 1) := max0 (min99 h9.1 h9.2).1
      simp only [h4]
      obtain ⟨σ', e3, a3, f3⟩ := ih (m + 1) _ (by
        rw [e]
        unfold walk1S
        rw [if_neg h2]
        exact ⟨r2.sW, (ha1.2.su (by decide) (by decide)).su (by decide) (by decide)⟩) (by omega)
      exact ⟨σ', e3, a3, (((f2wm f1).su (by decide)).su (by decide)).tr f3⟩
theorem m_hour {k : Nat} {σ : Sto} {t : St} {TX : TXT} {K : Nat} (ha : AtM σ TX K t) (ho : Ok TX K t) :
    ∃ σ', C nM_hourOf k [.ref 30] σ = some (whoS TX t, 0, σ') ∧ AtM σ' TX K (hourS TX t) ∧ Fr wm σ σ' := by
  have hfin : ∀ (σ1 : Sto) (v : Int32), AtM σ1 TX K (ferryS TX t) → sH (ferryS TX t) = sH t → Fr wm σ σ1 → v = whoS TX t → ∃ σ', R nM_hourOf k 42 [.ref 30, .int v, .int 0] [] σ1 = some (whoS TX t, 0, σ') ∧ AtM σ' TX K (hourS TX t) ∧ Fr wm σ σ' := by
    intro σ1 v ha1 hH f1 hv
    subst hv
    obtain ⟨σ', e, a, f⟩ := m_walkL (k := k) ho.ferry (v1 := whoS TX t) (sN (ferryS TX t)) 0 σ1 ha1 (Nat.zero_add _)
    rw [ferry_n, hH] at a
    exact ⟨σ', e, a, f1.tr f⟩
  have ef : ferryS TX t = if 0 < sO t then (if sO t - 1 = 0 then uB (uO t (sO t - 1)) (-1) else uO t (sO t - 1)) else if choiceS TX t = -1 then t else fetchS t (choiceS TX t).toNatClampNeg := rfl
  have ew : whoS TX t = if 0 < sO t then -1 else choiceS TX t := rfl
  rw [eM_hourOf k]
  simp only [z0, z1, ha.1.O, su_e]
  by_cases h1 : 0 < sO t
  · rw [if_pos h1] at ef ew ⊢
    by_cases h2 : sO t - 1 = 0
    · rw [if_pos h2] at ef ⊢
      exact hfin _ _ (by rw [ef]; exact ⟨ha.1.sO.sB, (ha.2.su (by decide) (by decide)).su (by decide) (by decide)⟩) (by rw [ef]; rfl) ((Fr.rf.su (by decide)).su (by decide)) ew.symm
    · rw [if_neg h2] at ef ⊢
      have r1 := ha.1.sO (v := sO t - 1)
      have r2 := r1.sB (v := su σ 34 0 (sO t - 1) 34 1)
      have e3 : uB (uO t (sO t - 1)) (su σ 34 0 (sO t - 1) 34 1) = uO t (sO t - 1) := by
        rw [r1.B]
        rfl
      rw [e3] at r2
      exact hfin _ _ (by rw [ef]; exact ⟨r2, (ha.2.su (by decide) (by decide)).su (by decide) (by decide)⟩) (by rw [ef]; rfl) ((Fr.rf.su (by decide)).su (by decide)) ew.symm
  · rw [if_neg h1] at ef ew ⊢
    obtain ⟨σ1, e1, f1⟩ := m_choice (k := k) ha ho
    have ha1 := ha.fm f1
    rw [e1, bs]
    rcases choice_or TX t with h2 | ⟨p, hp, h2, _⟩
    · rw [if_pos h2] at ef
      simp only [h2, ↓reduceIte]
      exact hfin σ1 (-1) (by rw [ef]; exact ha1) (by rw [ef]) (f2wm f1) (by rw [ew, h2])
    · have hp6 : p < 6 := Nat.lt_of_lt_of_le hp ho.n
      rw [h2, if_neg (nI_nm (by omega)), ix6 hp6] at ef
      obtain ⟨σ2, e2, a2, f2⟩ := m_fetches (k := k) ha1 ho hp
      simp only [h2]
      rw [if_neg (nI_nm (by omega)), e2, bs]
      exact hfin σ2 (nI p) (by rw [ef]; exact a2) (by rw [ef]; rfl) ((f2wm f1).tr f2) (by rw [ew, h2])
end
section
/-! THE WHOLE STATE: the strand now, the one kept and whether it is; the texts and how many; how much is taped, and what; the sheets: sorts, sizes, numbers -/
abbrev Ab : Type := (St × St × Bool) × (TXT × Nat) × (Nat × Rw) × (Rw × (Nat → Nat) × (Nat → Rw))
def aT (a : Ab) : St := a.1.1
def aK (a : Ab) : St := a.1.2.1
def aI (a : Ab) : Bool := a.1.2.2
def aX (a : Ab) : TXT := a.2.1.1
def aN (a : Ab) : Nat := a.2.1.2
def aL (a : Ab) : Nat := a.2.2.1.1
def aR (a : Ab) : Rw := a.2.2.1.2
def aS (a : Ab) : Rw := a.2.2.2.1
def aZ (a : Ab) : Nat → Nat := a.2.2.2.2.1
def aC (a : Ab) : Nat → Rw := a.2.2.2.2.2
def setT (a : Ab) (t : St) : Ab := ((t, aK a, aI a), a.2)
/-- what the sheets' rows say -/
def RepH (so si ce : Rw) (a : Ab) : Prop := ∀ s, s < 4 → so s = aS a s ∧ (¬ aS a s = -1 → si s = nI (aZ a s) ∧ ∀ i, i < aZ a s → ce (40 * s + i) = aC a s i)
def InvC (σ : Sto) (a : Ab) : Prop := (RepS σ 12 (aT a) ∧ TxS σ (aX a) (aN a)) ∧ (aI a = true → RepS σ 24 (aK a)) ∧ σ 2 4 = nI (aN a) ∧ σ 0 7 = nI (aL a) ∧ σ 0 8 = b2 (aI a) ∧ (∀ i, i < aL a → σ 1 i = aR a i) ∧ RepH (σ 10) (σ 11) (σ 9) a
def Img (σ : Sto) (t : St) : Prop := (∀ i, i < sN t → σ 38 (3 * i) = rP t i ∧ σ 38 (3 * i + 1) = rD t i ∧ σ 38 (3 * i + 2) = rW t i) ∧ σ 38 18 = sO t ∧ σ 38 19 = sB t ∧ σ 38 20 = sF t ∧ σ 38 21 = sH t ∧ σ 39 0 = nI (sN t) ∧ σ 39 1 = nI (sL t)
def InvM (σ : Sto) (a : Ab) : Prop := (RepM σ (aT a) ∧ TxM σ (aX a) (aN a)) ∧ (aI a = true → Img σ (aK a)) ∧ σ 30 9 = nI (aN a) ∧ σ 30 6 = nI (aL a) ∧ σ 30 11 = b2 (aI a) ∧ (∀ i, i < aL a → σ 35 i = aR a i) ∧ RepH (σ 40) (σ 41) (σ 42) a
def WfA (a : Ab) : Prop := Ok (aX a) (aN a) (aT a) ∧ (sH (aT a)).toInt ≤ 9999 ∧ (aI a = true → Ok (aX a) (aN a) (aK a) ∧ (sH (aK a)).toInt ≤ 9999 ∧ sN (aK a) ≤ sN (aT a) ∧ ∀ i, i < sN (aK a) → rK (aT a) i = rK (aK a) i ∧ rM (aT a) i = rM (aK a) i) ∧
  aL a ≤ 160 ∧ ∀ s, s < 4 → (-1 ≤ (aS a s).toInt ∧ (aS a s).toInt ≤ 2) ∧ aZ a s ≤ 40
def FC (σ σ' : Sto) : Prop := ∀ c, 30 ≤ c → σ' c = σ c
def FM (σ σ' : Sto) : Prop := ∀ c, c < 30 ∨ 48 < c → σ' c = σ c
theorem Fr.c {l : List Nat} {σ σ' : Sto} (h : Fr l σ σ') (hl : ∀ c, c ∈ l → c < 30) : FC σ σ' := fun c hc => h c fun hm => by have := hl c hm; omega
theorem Fr.m {l : List Nat} {σ σ' : Sto} (h : Fr l σ σ') (hl : ∀ c, c ∈ l → 30 ≤ c ∧ c ≤ 48) : FM σ σ' := fun c hc => h c fun hm => by have := hl c hm; omega
theorem FC.tr {σ σ1 σ2 : Sto} (h1 : FC σ σ1) (h2 : FC σ1 σ2) : FC σ σ2 := fun c hc => (h2 c hc).trans (h1 c hc)
theorem FM.tr {σ σ1 σ2 : Sto} (h1 : FM σ σ1) (h2 : FM σ1 σ2) : FM σ σ2 := fun c hc => (h2 c hc).trans (h1 c hc)
theorem FC.rf {σ : Sto} : FC σ σ := fun _ _ => rfl
theorem FM.rf {σ : Sto} : FM σ σ := fun _ _ => rfl
theorem FC.su {σ σ' : Sto} (h : FC σ σ') {c i : Nat} {v : Int32} (hc : c < 30) : FC σ (su σ' c i v) := fun c' hc' => (su_ne (by omega)).trans (h c' hc')
theorem FM.su {σ σ' : Sto} (h : FM σ σ') {c i : Nat} {v : Int32} (hc : 30 ≤ c) (hc2 : c ≤ 48) : FM σ (su σ' c i v) := fun c' hc' => (su_ne (by omega)).trans (h c' hc')
theorem InvC.fr {l : List Nat} {σ σ' : Sto} {a : Ab} (h : InvC σ a) (hf : Fr l σ σ') (hl : ∀ c, c ∈ l → c = 6 ∨ c = 7 ∨ c = 8 ∨ (18 ≤ c ∧ c ≤ 23) ∨ 30 ≤ c) : InvC σ' a := by
  have q : ∀ c, ¬ (c = 6 ∨ c = 7 ∨ c = 8 ∨ (18 ≤ c ∧ c ≤ 23) ∨ 30 ≤ c) → σ' c = σ c := fun c hc => hf c fun hm => hc (hl c hm)
  have n : ∀ c, ¬ (c = 6 ∨ c = 7 ∨ c = 8 ∨ (18 ≤ c ∧ c ≤ 23) ∨ 30 ≤ c) → c ∉ l := fun c hc hm => hc (hl c hm)
  obtain ⟨⟨h1, h2⟩, h3, h4, h5, h6, h7, h8⟩ := h
  refine ⟨⟨h1.fr hf fun j hj => n _ (by omega), h2.fr hf (n 3 (by omega)) (n 4 (by omega)) (n 5 (by omega))⟩, fun hi => (h3 hi).fr hf fun j hj => n _ (by omega), ?_, ?_, ?_, ?_, ?_⟩
  · rw [q 2 (by omega)]; exact h4
  · rw [q 0 (by omega)]; exact h5
  · rw [q 0 (by omega)]; exact h6
  · rw [q 1 (by omega)]; exact h7
  · rw [q 9 (by omega), q 10 (by omega), q 11 (by omega)]; exact h8
theorem InvC.fm {σ σ' : Sto} {a : Ab} (h : InvC σ a) (hf : FM σ σ') : InvC σ' a := by
  have q : ∀ c, c < 30 → σ' c = σ c := fun c hc => hf c (Or.inl hc)
  obtain ⟨⟨h1, h2⟩, h3, h4, h5, h6, h7, h8⟩ := h
  have e : ∀ (c : Nat) (t : St), c + 5 < 30 → RepS σ c t → RepS σ' c t := by
    intro c t hc hr
    unfold RepS
    rw [q c (by omega), q (c + 1) (by omega), q (c + 2) (by omega), q (c + 3) (by omega), q (c + 4) (by omega), q (c + 5) (by omega)]
    exact hr
  refine ⟨⟨e 12 _ (by omega) h1, ?_⟩, fun hi => e 24 _ (by omega) (h3 hi), ?_, ?_, ?_, ?_, ?_⟩
  · unfold TxS
    rw [q 3 (by omega), q 4 (by omega), q 5 (by omega)]
    exact h2
  · rw [q 2 (by omega)]; exact h4
  · rw [q 0 (by omega)]; exact h5
  · rw [q 0 (by omega)]; exact h6
  · rw [q 1 (by omega)]; exact h7
  · rw [q 9 (by omega), q 10 (by omega), q 11 (by omega)]; exact h8
theorem InvM.fc {σ σ' : Sto} {a : Ab} (h : InvM σ a) (hf : FC σ σ') : InvM σ' a := by
  have q : ∀ c, 30 ≤ c → σ' c = σ c := fun c hc => hf c hc
  unfold InvM RepM TxM Img
  rw [q 30 (by omega), q 31 (by omega), q 32 (by omega), q 33 (by omega), q 34 (by omega), q 35 (by omega), q 36 (by omega), q 37 (by omega), q 38 (by omega), q 39 (by omega), q 40 (by omega), q 41 (by omega), q 42 (by omega)]
  exact h
theorem InvM.fr {l : List Nat} {σ σ' : Sto} {a : Ab} (h : InvM σ a) (hf : Fr l σ σ') (hl : ∀ c, c ∈ l → c < 30 ∨ 43 ≤ c) : InvM σ' a := by
  have q : ∀ c, 30 ≤ c → c < 43 → σ' c = σ c := fun c hc h2 => hf c fun hm => by have := hl c hm; omega
  unfold InvM RepM TxM Img
  rw [q 30 (by omega) (by omega), q 31 (by omega) (by omega), q 32 (by omega) (by omega), q 33 (by omega) (by omega), q 34 (by omega) (by omega), q 35 (by omega) (by omega), q 36 (by omega) (by omega), q 37 (by omega) (by omega), q 38 (by omega) (by omega), q 39 (by omega) (by omega), q 40 (by omega) (by omega), q 41 (by omega) (by omega), q 42 (by omega) (by omega)]
  exact h
/-- the strand now is another, all else is as it was -/
theorem InvC.st {σ σ' : Sto} {a : Ab} {t : St} (h : InvC σ a) (hf : Fr (wr 12) σ σ') (hr : RepS σ' 12 t) : InvC σ' (setT a t) := by
  have w : ∀ c, ¬ c = 6 → ¬ (12 ≤ c ∧ c ≤ 17) → σ' c = σ c := fun c h1 h2 => hf c (by unfold wr; simp only [List.mem_cons, List.not_mem_nil, or_false, not_or]; omega)
  obtain ⟨⟨h1, h2⟩, h3, h4, h5, h6, h7, h8⟩ := h
  refine ⟨⟨hr, h2.fr hf (by decide) (by decide) (by decide)⟩, fun hi => (h3 hi).fr hf fun j hj => by unfold wr; simp only [List.mem_cons, List.not_mem_nil, or_false, not_or]; omega, ?_, ?_, ?_, ?_, ?_⟩
  · rw [w 2 (by omega) (by omega)]; exact h4
  · rw [w 0 (by omega) (by omega)]; exact h5
  · rw [w 0 (by omega) (by omega)]; exact h6
  · rw [w 1 (by omega) (by omega)]; exact h7
  · rw [w 9 (by omega) (by omega), w 10 (by omega) (by omega), w 11 (by omega) (by omega)]; exact h8
theorem InvM.st {σ σ' : Sto} {a : Ab} {t : St} (h : InvM σ a) (hf : Fr wm σ σ') (hr : RepM σ' t) : InvM σ' (setT a t) := by
  have w : ∀ c, 30 ≤ c → c ≠ 33 → c ≠ 34 → c < 43 → σ' c = σ c := fun c h1 h2 h3 h4 => hf c (by unfold wm; simp only [List.mem_cons, List.not_mem_nil, or_false, not_or]; omega)
  obtain ⟨⟨h1, h2⟩, h3, h4, h5, h6, h7, h8⟩ := h
  refine ⟨⟨hr, h2.fr hf (by decide) (by decide)⟩, fun hi => ?_, ?_, ?_, ?_, ?_, ?_⟩
  · unfold Img
    rw [w 38 (by omega) (by omega) (by omega) (by omega), w 39 (by omega) (by omega) (by omega) (by omega)]
    exact h3 hi
  · rw [w 30 (by omega) (by omega) (by omega) (by omega)]; exact h4
  · rw [w 30 (by omega) (by omega) (by omega) (by omega)]; exact h5
  · rw [w 30 (by omega) (by omega) (by omega) (by omega)]; exact h6
  · rw [w 35 (by omega) (by omega) (by omega) (by omega)]; exact h7
  · rw [w 40 (by omega) (by omega) (by omega) (by omega), w 41 (by omega) (by omega) (by omega) (by omega), w 42 (by omega) (by omega) (by omega) (by omega)]; exact h8
/-- one call of both: the same answer, and both stand as one state says -/
def StepC (nx : Nat) (xs : List Value) (v : Int32 × Int64) (a a' : Ab) : Prop := ∀ σ, InvC σ a → ∃ σ', C nx 0 (.ref 0 :: xs) σ = some (v.1, v.2, σ') ∧ InvC σ' a' ∧ FC σ σ'
def StepM (ny : Nat) (xs : List Value) (v : Int32 × Int64) (a a' : Ab) : Prop := ∀ σ, InvM σ a → ∃ σ', C ny 0 (.ref 30 :: xs) σ = some (v.1, v.2, σ') ∧ InvM σ' a' ∧ FM σ σ'
def Step (nx ny : Nat) (xs : List Value) (a : Ab) : Prop := ∃ v a', WfA a' ∧ StepC nx xs v a a' ∧ StepM ny xs v a a'
/-! numbers within bounds, for both -/
theorem c_in {k : Nat} {σ : Sto} (v lo hi : Int32) : C nF_within k [.int v, .int lo, .int hi] σ = some (b2 (decide (lo.toInt ≤ v.toInt ∧ v.toInt ≤ hi.toInt)), 0, σ) := by
  rw [eF_within k]
  by_cases h1 : v < lo
  · rw [if_pos h1]
    rw [i_lt] at h1
    rw [decide_eq_false (by omega)]
    rfl
  · rw [if_neg h1]
    rw [i_lt] at h1
    by_cases h2 : hi < v
    · rw [if_pos h2]
      rw [i_lt] at h2
      rw [decide_eq_false (by omega)]
      rfl
    · rw [if_neg h2]
      rw [i_lt] at h2
      rw [decide_eq_true (by omega)]
      rfl
theorem m_in {k : Nat} {σ : Sto} (v lo hi : Int32) : C nM_in k [.int v, .int lo, .int hi] σ = some (b2 (decide (lo.toInt ≤ v.toInt ∧ v.toInt ≤ hi.toInt)), 0, σ) := by
  rw [eM_in k]
  by_cases h1 : v < lo
  · rw [if_pos h1]
    rw [i_lt] at h1
    rw [decide_eq_false (by omega)]
    rfl
  · rw [if_neg h1]
    rw [i_lt] at h1
    by_cases h2 : hi < v
    · rw [if_pos h2]
      rw [i_lt] at h2
      rw [decide_eq_false (by omega)]
      rfl
    · rw [if_neg h2]
      rw [i_lt] at h2
      rw [decide_eq_true (by omega)]
      rfl
def isOneS (t : St) (x : Int32) : Bool := decide (0 ≤ x.toInt ∧ x.toInt < (sN t : Int))
theorem lg_lt (x : Int64) (y : Int64) : (lg_cmp x y < 0) ↔ x.toInt < y.toInt := by
  unfold lg_cmp
  by_cases h : y < x
  · rw [if_pos h]
    rw [Int64.lt_iff_toInt_lt] at h
    exact ⟨fun hh => absurd hh (by decide), fun hh => (by omega)⟩
  · rw [if_neg h]
    rw [Int64.lt_iff_toInt_lt] at h
    by_cases h2 : x = y
    · rw [if_pos h2, h2]
      exact ⟨fun hh => absurd hh (by decide), fun hh => (by omega)⟩
    · rw [if_neg h2]
      have h3 : ¬ x.toInt = y.toInt := fun e => h2 (Int64.toInt_inj.mp e)
      exact ⟨fun _ => (by omega), fun _ => (by decide)⟩
theorem c_has {k c : Nat} (hc : c = 12 ∨ c = 18 ∨ c = 24) {σ : Sto} {t : St} (hr : RepS σ c t) (hN : sN t ≤ 6) (x : Int64) : C nS_has k [.ref c, .long x] σ = some (b2 (decide (0 ≤ x.toInt ∧ x.toInt < (sN t : Int))), 0, σ) := by
  have e0 : (0 : Int64).toInt = 0 := by decide
  have en : (Int32.toInt64 (nI (sN t))).toInt = (sN t : Int) := by rw [Int32.toInt_toInt64, nI_toInt (by omega)]
  rw [eS_has k c hc, hr.n]
  by_cases h1 : lg_cmp x 0 < 0
  · rw [if_pos h1]
    rw [lg_lt, e0] at h1
    rw [decide_eq_false (by omega)]
    rfl
  · rw [if_neg h1]
    rw [lg_lt, e0] at h1
    by_cases h2 : lg_cmp x (Int32.toInt64 (nI (sN t))) < 0
    · rw [if_pos h2]
      rw [lg_lt, en] at h2
      rw [decide_eq_true (by omega)]
      rfl
    · rw [if_neg h2]
      rw [lg_lt, en] at h2
      rw [decide_eq_false (by omega)]
      rfl
theorem c_has32 {k c : Nat} (hc : c = 12 ∨ c = 18 ∨ c = 24) {σ : Sto} {t : St} (hr : RepS σ c t) (hN : sN t ≤ 6) (x : Int32) : C nS_has k [.ref c, .long (Int32.toInt64 x)] σ = some (b2 (isOneS t x), 0, σ) := by
  rw [c_has hc hr hN, Int32.toInt_toInt64]
  rfl
theorem m_one {k : Nat} {σ : Sto} {t : St} (hr : RepM σ t) (hN : sN t ≤ 6) (x : Int32) : C nM_isOne k [.ref 30, .int x] σ = some (b2 (isOneS t x), 0, σ) := by
  rw [eM_isOne k, hr.n, m_in, bs]
  have t1 : (1 : Int32).toInt = 1 := by decide
  have tn := nI_toInt (n := sN t) (by omega)
  have e : ((nI (sN t)) - 1).toInt = (sN t : Int) - 1 := by rw [i_sub (by omega) (by omega), tn, t1]
  have e0 : (0 : Int32).toInt = 0 := by decide
  have e2 : decide (0 ≤ x.toInt ∧ x.toInt ≤ (sN t : Int) - 1) = isOneS t x := by
    unfold isOneS
    rw [decide_eq_decide]
    omega
  rw [if_pos b2_nok, e, e0, e2]
theorem one_of {t : St} {x : Int32} (hN : sN t ≤ 6) (h : isOneS t x = true) : ∃ p, p < sN t ∧ x = nI p := by
  unfold isOneS at h
  rw [decide_eq_true_eq] at h
  refine ⟨x.toInt.toNat, by omega, ?_⟩
  rw [i_eq, nI_toInt (by omega)]
  omega
theorem c_bit {k : Nat} {σ : Sto} {v : Int32} (h : v = 0 ∨ v = 1) : C nF_bit k [.int v] σ = some (v, 0, σ) := by
  rw [eF_bit k]
  rcases h with h | h
  · rw [h]; rfl
  · rw [h]; rfl
theorem c_bitb {k : Nat} {σ : Sto} {b : Bool} : C nF_bit k [.int (b2 b)] σ = some (b2 b, 0, σ) := c_bit (by cases b; exact Or.inl rfl; exact Or.inr rfl)
theorem WfA.st {a : Ab} (h : WfA a) {t : St} (ho : Ok (aX a) (aN a) t) (hh : (sH t).toInt ≤ 9999) (hn : sN (aT a) ≤ sN t) (hk : ∀ i, i < sN (aT a) → rK t i = rK (aT a) i ∧ rM t i = rM (aT a) i) : WfA (setT a t) := by
  obtain ⟨h1, h2, h3, h4, h5⟩ := h
  refine ⟨ho, hh, fun hi => ?_, h4, h5⟩
  obtain ⟨g1, g2, g3, g4⟩ := h3 hi
  refine ⟨g1, g2, Nat.le_trans g3 hn, fun i hi2 => ?_⟩
  obtain ⟨q1, q2⟩ := hk i (Nat.lt_of_lt_of_le hi2 g3)
  obtain ⟨q3, q4⟩ := g4 i hi2
  exact ⟨q1.trans q3, q2.trans q4⟩
end
section
/-! CALLS THAT ASK OR CHANGE ONE THING -/
theorem h12 : (12 : Nat) = 12 ∨ (12 : Nat) = 18 ∨ (12 : Nat) = 24 := Or.inl rfl
theorem h18 : (18 : Nat) = 12 ∨ (18 : Nat) = 18 ∨ (18 : Nat) = 24 := Or.inr (Or.inl rfl)
theorem InvC.at {σ : Sto} {a : Ab} (h : InvC σ a) : At σ 12 (aX a) (aN a) (aT a) := h.1
theorem InvM.at {σ : Sto} {a : Ab} (h : InvM σ a) : AtM σ (aX a) (aN a) (aT a) := h.1
theorem InvC.f6 {σ σ' : Sto} {a : Ab} (h : InvC σ a) (hf : Fr [6] σ σ') : InvC σ' a := h.fr hf (by simp)
theorem InvM.f2 {σ σ' : Sto} {a : Ab} (h : InvM σ a) (hf : Fr [46, 47] σ σ') : InvM σ' a := h.fr hf (by simp)
theorem f6c {σ σ' : Sto} (hf : Fr [6] σ σ') : FC σ σ' := hf.c (by simp)
theorem f2m {σ σ' : Sto} (hf : Fr [46, 47] σ σ') : FM σ σ' := hf.m (by simp)
theorem wrc {σ σ' : Sto} (hf : Fr (wr 12) σ σ') : FC σ σ' := hf.c (by decide)
theorem wmm {σ σ' : Sto} (hf : Fr wm σ σ') : FM σ σ' := hf.m (by decide)
/-- both ask only -/
theorem same {nx ny : Nat} {xs : List Value} {a : Ab} (hw : WfA a) (v : Int32) (h1 : ∀ σ, InvC σ a → ∃ σ', C nx 0 (.ref 0 :: xs) σ = some (v, 0, σ') ∧ Fr [6] σ σ') (h2 : ∀ σ, InvM σ a → ∃ σ', C ny 0 (.ref 30 :: xs) σ = some (v, 0, σ') ∧ Fr [46, 47] σ σ') : Step nx ny xs a := by
  refine ⟨(v, 0), a, hw, fun σ h => ?_, fun σ h => ?_⟩
  · obtain ⟨σ', e, f⟩ := h1 σ h
    exact ⟨σ', e, h.f6 f, f6c f⟩
  · obtain ⟨σ', e, f⟩ := h2 σ h
    exact ⟨σ', e, h.f2 f, f2m f⟩
theorem s_count {a : Ab} (hw : WfA a) (x : Int32) : Step nF_count nM_count [.int x] a := by
  by_cases h0 : x = 0
  · exact same hw (nI (sN (aT a))) (fun σ h => ⟨σ, by rw [eF_count 0, if_pos h0, h.at.1.n], Fr.rf⟩) (fun σ h => ⟨σ, by rw [eM_count 0, if_pos h0, h.at.1.n], Fr.rf⟩)
  by_cases h1 : x = 1
  · exact same hw (sH (aT a)) (fun σ h => ⟨σ, by rw [eF_count 0, if_neg h0, if_pos h1, h.at.1.H], Fr.rf⟩) (fun σ h => ⟨σ, by rw [eM_count 0, if_neg h0, if_pos h1, z3, h.at.1.H], Fr.rf⟩)
  by_cases h2 : x = 2
  · exact same hw (sF (aT a)) (fun σ h => ⟨σ, by rw [eF_count 0, if_neg h0, if_neg h1, if_pos h2, h.at.1.F], Fr.rf⟩) (fun σ h => ⟨σ, by rw [eM_count 0, if_neg h0, if_neg h1, if_pos h2, z2, h.at.1.F], Fr.rf⟩)
  by_cases h3 : x = 3
  · exact same hw (nI (aN a)) (fun σ h => ⟨σ, by rw [eF_count 0, if_neg h0, if_neg h1, if_neg h2, if_pos h3, h.2.2.1], Fr.rf⟩) (fun σ h => ⟨σ, by rw [eM_count 0, if_neg h0, if_neg h1, if_neg h2, if_pos h3, h.2.2.1], Fr.rf⟩)
  by_cases h4 : x = 4
  · exact same hw (nI (sL (aT a))) (fun σ h => ⟨σ, by rw [eF_count 0, if_neg h0, if_neg h1, if_neg h2, if_neg h3, if_pos h4, h.at.1.L], Fr.rf⟩) (fun σ h => ⟨σ, by rw [eM_count 0, if_neg h0, if_neg h1, if_neg h2, if_neg h3, if_pos h4, h.at.1.L], Fr.rf⟩)
  by_cases h5 : x = 5
  · exact same hw (nI (aL a)) (fun σ h => ⟨σ, by rw [eF_count 0, if_neg h0, if_neg h1, if_neg h2, if_neg h3, if_neg h4, if_pos h5, h.2.2.2.1], Fr.rf⟩) (fun σ h => ⟨σ, by rw [eM_count 0, if_neg h0, if_neg h1, if_neg h2, if_neg h3, if_neg h4, if_pos h5, h.2.2.2.1], Fr.rf⟩)
  · exact same hw (-2) (fun σ h => ⟨σ, by rw [eF_count 0, if_neg h0, if_neg h1, if_neg h2, if_neg h3, if_neg h4, if_neg h5], Fr.rf⟩) (fun σ h => ⟨σ, by rw [eM_count 0, if_neg h0, if_neg h1, if_neg h2, if_neg h3, if_neg h4, if_neg h5], Fr.rf⟩)
theorem s_bay {a : Ab} (hw : WfA a) (x y : Int32) : Step nF_bay nM_bay [.int x, .int y] a := by
  have e9 : (9999 : Int32).toInt = 9999 := by decide
  have e0 : (0 : Int32).toInt = 0 := by decide
  have e99 : (99 : Int32).toInt = 99 := by decide
  have e1 : (1 : Int32).toInt = 1 := by decide
  by_cases h0 : x = 0
  · subst h0
    by_cases hv : 0 ≤ y.toInt ∧ y.toInt ≤ 9999
    · refine ⟨(sH (aT a), 0), setT a (uH (aT a) y), hw.st (Ok.uH hw.1) hv.2 (Nat.le_refl _) (fun i _ => ⟨rfl, rfl⟩), fun σ h => ?_, fun σ h => ?_⟩
      · have q : b2 (decide ((0 : Int32).toInt ≤ y.toInt ∧ y.toInt ≤ (9999 : Int32).toInt)) = 1 := b2_t (by rw [e0, e9]; exact hv)
        rw [eF_bay 0, if_pos rfl, c_in, q, bs]; (try dsimp only); rw [if_neg n10, h.at.1.H]
        exact ⟨_, rfl, h.st (Fr.rf.su (by decide)) h.at.1.s7, FC.rf.su (by decide)⟩
      · have q : b2 (decide ((0 : Int32).toInt ≤ y.toInt ∧ y.toInt ≤ (9999 : Int32).toInt)) = 1 := b2_t (by rw [e0, e9]; exact hv)
        rw [eM_bay 0, m_in, bs]; (try dsimp only); rw [if_neg (by decide), if_pos rfl, m_in, q, bs]; (try dsimp only); rw [if_neg n10, if_pos rfl, z3, h.at.1.H]
        exact ⟨_, rfl, h.st (Fr.rf.su (by decide)) h.at.1.sH, FM.rf.su (by decide) (by decide)⟩
    · have q : b2 (decide ((0 : Int32).toInt ≤ y.toInt ∧ y.toInt ≤ (9999 : Int32).toInt)) = 0 := by rw [e0, e9, decide_eq_false hv]; rfl
      refine same hw (-2) (fun σ h => ?_) (fun σ h => ?_)
      · rw [eF_bay 0, if_pos rfl, c_in, q, bs]; (try dsimp only); rw [if_pos rfl, if_neg (by decide)]
        exact ⟨σ, rfl, Fr.rf⟩
      · rw [eM_bay 0, m_in, bs]; (try dsimp only); rw [if_neg (by decide), if_pos rfl, m_in, q, bs]; (try dsimp only); rw [if_pos rfl]
        exact ⟨σ, rfl, Fr.rf⟩
  by_cases h1 : x = 1
  · subst h1
    by_cases hv : 0 ≤ y.toInt ∧ y.toInt ≤ 99
    · have q : b2 (decide ((0 : Int32).toInt ≤ y.toInt ∧ y.toInt ≤ (99 : Int32).toInt)) = 1 := b2_t (by rw [e0, e99]; exact hv)
      refine ⟨(sO (aT a), 0), setT a (uO (aT a) y), hw.st (Ok.uO hw.1) hw.2.1 (Nat.le_refl _) (fun i _ => ⟨rfl, rfl⟩), fun σ h => ?_, fun σ h => ?_⟩
      · rw [eF_bay 0, if_neg h0, if_pos rfl, c_in, q, bs]; (try dsimp only); rw [if_neg n10, h.at.1.O]
        exact ⟨_, rfl, h.st (Fr.rf.su (by decide)) h.at.1.s8, FC.rf.su (by decide)⟩
      · rw [eM_bay 0, m_in, bs]; (try dsimp only); rw [if_neg (by decide), if_neg h0, m_in, q, bs]; (try dsimp only); rw [if_neg n10, if_neg h0, z0, h.at.1.O]
        exact ⟨_, rfl, h.st (Fr.rf.su (by decide)) h.at.1.sO, FM.rf.su (by decide) (by decide)⟩
    · have q : b2 (decide ((0 : Int32).toInt ≤ y.toInt ∧ y.toInt ≤ (99 : Int32).toInt)) = 0 := by rw [e0, e99, decide_eq_false hv]; rfl
      refine same hw (-2) (fun σ h => ?_) (fun σ h => ?_)
      · rw [eF_bay 0, if_neg h0, if_pos rfl, c_in, q, bs]; (try dsimp only); rw [if_pos rfl]
        exact ⟨σ, rfl, Fr.rf⟩
      · rw [eM_bay 0, m_in, bs]; (try dsimp only); rw [if_neg (by decide), if_neg h0, m_in, q, bs]; (try dsimp only); rw [if_pos rfl]
        exact ⟨σ, rfl, Fr.rf⟩
  · have q : b2 (decide ((0 : Int32).toInt ≤ x.toInt ∧ x.toInt ≤ (1 : Int32).toInt)) = 0 := by
      rw [e0, e1, decide_eq_false]
      · rfl
      · rw [i_eq, e0] at h0
        rw [i_eq, e1] at h1
        omega
    refine same hw (-2) (fun σ h => ?_) (fun σ h => ?_)
    · rw [eF_bay 0, if_neg h0, if_neg h1]
      exact ⟨σ, rfl, Fr.rf⟩
    · rw [eM_bay 0, m_in, q, bs]; (try dsimp only); rw [if_pos rfl]
      exact ⟨σ, rfl, Fr.rf⟩
theorem s_ferry {a : Ab} (hw : WfA a) (x : Int32) : Step nF_ferry nM_ferry [.int x] a := by
  have ho := hw.1
  by_cases h0 : x = 0
  · subst h0
    exact same hw (sO (aT a)) (fun σ h => ⟨σ, by rw [eF_ferry 0, if_pos rfl, h.at.1.O], Fr.rf⟩) (fun σ h => ⟨σ, by rw [eM_ferry 0, if_pos rfl, if_pos (by decide), z0, h.at.1.O], Fr.rf⟩)
  by_cases h1 : x = 1
  · subst h1
    exact same hw (sB (aT a)) (fun σ h => ⟨σ, by rw [eF_ferry 0, if_neg h0, if_pos rfl, h.at.1.B], Fr.rf⟩) (fun σ h => ⟨σ, by rw [eM_ferry 0, if_neg h0, if_pos rfl, if_pos (by decide), z1, h.at.1.B], Fr.rf⟩)
  by_cases h2 : x = 2
  · refine same hw (choiceS (aX a) (aT a)) (fun σ h => ?_) (fun σ h => ?_)
    · obtain ⟨σ', e, f⟩ := c_choice (k := 0) h12 h.at ho
      exact ⟨σ', by rw [eF_ferry 0, if_neg h0, if_neg h1, if_pos h2, e, bs], f⟩
    · obtain ⟨σ', e, f⟩ := m_choice (k := 0) h.at ho
      exact ⟨σ', by rw [eM_ferry 0, if_neg h0, if_neg h1, if_pos h2, e, bs], f⟩
  by_cases h3 : x = 3
  · refine same hw (bitsS (aloneS (aX a) (aT a)) (sN (aT a))) (fun σ h => ?_) (fun σ h => ?_)
    · obtain ⟨σ', e, f⟩ := c_aloneBits (k := 0) h12 h.at ho
      exact ⟨σ', by rw [eF_ferry 0, if_neg h0, if_neg h1, if_neg h2, if_pos h3, e, bs], f⟩
    · obtain ⟨σ', e, f⟩ := m_aloneSet (k := 0) h.at ho
      exact ⟨σ', by rw [eM_ferry 0, if_neg h0, if_neg h1, if_neg h2, if_pos h3, e, bs], f⟩
  by_cases h4 : x = 4
  · exact same hw (bitsS (seenS (aT a)) (sN (aT a))) (fun σ h => ⟨σ, by rw [eF_ferry 0, if_neg h0, if_neg h1, if_neg h2, if_neg h3, if_pos h4, c_seenBits h12 h.at.1 ho.n, bs], Fr.rf⟩) (fun σ h => ⟨σ, by rw [eM_ferry 0, if_neg h0, if_neg h1, if_neg h2, if_neg h3, if_pos h4, m_seenSet h.at.1 ho.n, bs], Fr.rf⟩)
  by_cases h5 : x = 5
  · exact same hw (bitsS (overS (aT a)) (sN (aT a))) (fun σ h => ⟨σ, by rw [eF_ferry 0, if_neg h0, if_neg h1, if_neg h2, if_neg h3, if_neg h4, if_pos h5, c_overBits h12 h.at.1 ho.n, bs], Fr.rf⟩) (fun σ h => ⟨σ, by rw [eM_ferry 0, if_neg h0, if_neg h1, if_neg h2, if_neg h3, if_neg h4, if_pos h5, m_overSet h.at.1 ho.n, bs], Fr.rf⟩)
  · exact same hw (-7) (fun σ h => ⟨σ, by rw [eF_ferry 0, if_neg h0, if_neg h1, if_neg h2, if_neg h3, if_neg h4, if_neg h5], Fr.rf⟩) (fun σ h => ⟨σ, by rw [eM_ferry 0, if_neg h0, if_neg h1, if_neg h2, if_neg h3, if_neg h4, if_neg h5], Fr.rf⟩)
theorem nI_in1 {x : Int32} {n : Nat} (hn : n < 2147483648) (h : 0 ≤ x.toInt ∧ x.toInt < (n : Int)) : ∃ j, j < n ∧ x = nI j := by
  refine ⟨x.toInt.toNat, by omega, ?_⟩
  rw [i_eq, nI_toInt (by omega)]
  omega
theorem nI_m1 {n : Nat} (hn : n < 2147483648) : ((nI n) - 1).toInt = (n : Int) - 1 := by
  have t1 : (1 : Int32).toInt = 1 := by decide
  have tn := nI_toInt (n := n) (by omega)
  rw [i_sub (by omega) (by omega), tn, t1]
theorem s_force {a : Ab} (hw : WfA a) (x : Int32) : Step nF_force nM_force [.int x] a := by
  have e0 : (0 : Int32).toInt = 0 := by decide
  have hK := hw.1.2.2.1
  have e1 := nI_m1 (n := aN a) (by omega)
  by_cases hx : 0 ≤ x.toInt ∧ x.toInt < (aN a : Int)
  · obtain ⟨j, hj, ej⟩ := nI_in1 (by omega) hx
    have q : b2 (decide ((0 : Int32).toInt ≤ x.toInt ∧ x.toInt ≤ ((nI (aN a)) - 1).toInt)) = 1 := b2_t (by rw [e0, e1]; omega)
    refine ⟨(nI (sL (aT a)), 0), setT a (uL (aT a) j), hw.st (Ok.uL hw.1 hj) hw.2.1 (Nat.le_refl _) (fun i _ => ⟨rfl, rfl⟩), fun σ h => ?_, fun σ h => ?_⟩
    · rw [eF_force 0, h.2.2.1, c_in, q, bs]; (try dsimp only); rw [if_neg n10, h.at.1.L, ej]
      exact ⟨_, rfl, h.st (Fr.rf.su (by decide)) h.at.1.s11, FC.rf.su (by decide)⟩
    · rw [eM_force 0, h.2.2.1, m_in, q, bs]; (try dsimp only); rw [if_neg n10, h.at.1.L, ej]
      obtain ⟨⟨g1, g2⟩, g3, g4, g5, g6, g7, g8⟩ := h
      refine ⟨_, rfl, ⟨⟨g1.sL, g2.su (by decide) (by decide)⟩, fun hi => ?_, ?_, ?_, ?_, ?_, ?_⟩, FM.rf.su (by decide) (by decide)⟩
      · have g3 := g3 hi
        unfold Img
        rw [su_ne (by decide), su_ne (by decide)]
        exact g3
      · rw [su_o (by decide)]; exact g4
      · rw [su_o (by decide)]; exact g5
      · rw [su_o (by decide)]; exact g6
      · rw [su_ne (by decide)]; exact g7
      · rw [su_ne (by decide), su_ne (by decide), su_ne (by decide)]; exact g8
  · have q : b2 (decide ((0 : Int32).toInt ≤ x.toInt ∧ x.toInt ≤ ((nI (aN a)) - 1).toInt)) = 0 := by
      rw [e0, e1, decide_eq_false (by omega)]
      rfl
    refine same hw (-2) (fun σ h => ?_) (fun σ h => ?_)
    · rw [eF_force 0, h.2.2.1, c_in, q, bs]; (try dsimp only); rw [if_pos rfl]
      exact ⟨σ, rfl, Fr.rf⟩
    · rw [eM_force 0, h.2.2.1, m_in, q, bs]; (try dsimp only); rw [if_pos rfl]
      exact ⟨σ, rfl, Fr.rf⟩
theorem s_asks {a : Ab} (hw : WfA a) (x y : Int32) : Step nF_asks nM_asks [.int x, .int y] a := by
  have ho := hw.1
  have e0 : (0 : Int32).toInt = 0 := by decide
  have e2 : (2 : Int32).toInt = 2 := by decide
  by_cases hx : 0 ≤ x.toInt ∧ x.toInt < 3
  · have q : b2 (decide ((0 : Int32).toInt ≤ x.toInt ∧ x.toInt ≤ (2 : Int32).toInt)) = 1 := b2_t (by rw [e0, e2]; omega)
    obtain ⟨part, hp, ep⟩ := nI_in1 (n := 3) (by omega) hx
    cases hy : isOneS (aT a) y with
    | false =>
      refine same hw (-1000) (fun σ h => ?_) (fun σ h => ?_)
      · rw [eF_asks 0, c_in, q, bs]; (try dsimp only); rw [if_neg n10, c_has32 h12 h.at.1 ho.n, bs]; (try dsimp only); rw [hy, b2F, if_pos rfl]
        exact ⟨σ, rfl, Fr.rf⟩
      · rw [eM_asks 0, m_in, q, bs]; (try dsimp only); rw [if_neg n10, m_one h.at.1 ho.n, bs]; (try dsimp only); rw [hy, b2F, if_pos rfl]
        exact ⟨σ, rfl, Fr.rf⟩
    | true =>
      obtain ⟨p, hp2, ep2⟩ := one_of ho.n hy
      refine same hw (saysS (aX a) (aT a) part p) (fun σ h => ?_) (fun σ h => ?_)
      · obtain ⟨σ', e, f⟩ := c_saysA (k := 0) h12 h.at ho hp2 hp
        rw [eF_asks 0, c_in, q, bs]; (try dsimp only); rw [if_neg n10, c_has32 h12 h.at.1 ho.n, bs]; (try dsimp only); rw [hy, b2T, if_neg n10, ep, ep2, e, bs]
        exact ⟨σ', rfl, f⟩
      · obtain ⟨σ', e, f⟩ := m_asks (k := 0) h.at ho hp2 hp
        rw [eM_asks 0, m_in, q, bs]; (try dsimp only); rw [if_neg n10, m_one h.at.1 ho.n, bs]; (try dsimp only); rw [hy, b2T, if_neg n10, ep, ep2, e, bs]
        exact ⟨σ', rfl, f⟩
  · have q : b2 (decide ((0 : Int32).toInt ≤ x.toInt ∧ x.toInt ≤ (2 : Int32).toInt)) = 0 := by
      rw [e0, e2, decide_eq_false (by omega)]
      rfl
    refine same hw (-1000) (fun σ h => ?_) (fun σ h => ?_)
    · rw [eF_asks 0, c_in, q, bs]; (try dsimp only); rw [if_pos rfl]
      exact ⟨σ, rfl, Fr.rf⟩
    · rw [eM_asks 0, m_in, q, bs]; (try dsimp only); rw [if_pos rfl]
      exact ⟨σ, rfl, Fr.rf⟩
theorem Ok.hid {TX : TXT} {K : Nat} {t : St} (h : Ok TX K t) {p : Nat} (hp : p < sN t) : rD t p = 0 ∨ rD t p = 1 := (h.p hp).2.2.2.1
theorem s_told {a : Ab} (hw : WfA a) (x y : Int32) : Step nF_told nM_told [.int x, .int y] a := by
  have ho := hw.1
  cases hx : isOneS (aT a) x with
  | false =>
    refine same hw (-5) (fun σ h => ?_) (fun σ h => ?_)
    · rw [eF_told 0, c_has32 h12 h.at.1 ho.n, bs]; (try dsimp only); rw [hx, b2F, if_pos rfl]
      exact ⟨σ, rfl, Fr.rf⟩
    · rw [eM_told 0, m_one h.at.1 ho.n, bs]; (try dsimp only); rw [hx, b2F, if_pos rfl]
      exact ⟨σ, rfl, Fr.rf⟩
  | true =>
    obtain ⟨p, hp, ep⟩ := one_of ho.n hx
    have h6 : p < 6 := Nat.lt_of_lt_of_le hp ho.n
    have i0 := ibn (show 3 * p < 18 by omega) (by decide)
    have i1 := ibn (show 3 * p + 1 < 18 by omega) (by decide)
    have i2 := ibn (show 3 * p + 2 < 18 by omega) (by decide)
    have j0 := ixn (show 3 * p < 2147483648 by omega)
    have j1 := ixn (show 3 * p + 1 < 2147483648 by omega)
    have j2 := ixn (show 3 * p + 2 < 2147483648 by omega)
    subst ep
    by_cases h0 : y = 0
    · subst h0
      refine same hw (rP (aT a) p) (fun σ h => ⟨σ, ?_, Fr.rf⟩) (fun σ h => ⟨σ, ?_, Fr.rf⟩)
      · rw [eF_told 0, c_has32 h12 h.at.1 ho.n, bs]; (try dsimp only); rw [hx, b2T, if_neg n10, if_pos rfl, if_pos (ib6 h6), ix6 h6, show σ 15 p = _ from h.at.1.P hp]
      · rw [eM_told 0, m_one h.at.1 ho.n, bs]; (try dsimp only); rw [hx, b2T, if_neg n10, if_pos rfl, i3, Int32.add_zero, if_pos i0, j0, h.at.1.P hp]
    by_cases h1 : y = 1
    · subst h1
      refine same hw (rD (aT a) p) (fun σ h => ⟨σ, ?_, Fr.rf⟩) (fun σ h => ⟨σ, ?_, Fr.rf⟩)
      · rw [eF_told 0, c_has32 h12 h.at.1 ho.n, bs]; (try dsimp only); rw [hx, b2T, if_neg n10, if_neg h0, if_pos rfl, if_pos (ib6 h6), ix6 h6, show σ 16 p = _ from h.at.1.D hp, c_bit (ho.hid hp), bs]
      · rw [eM_told 0, m_one h.at.1 ho.n, bs]; (try dsimp only); rw [hx, b2T, if_neg n10, if_neg h0, if_pos rfl, i3, nI_1, if_pos i1, j1, h.at.1.D hp]
    by_cases h2 : y = 2
    · subst h2
      refine same hw (rW (aT a) p) (fun σ h => ⟨σ, ?_, Fr.rf⟩) (fun σ h => ⟨σ, ?_, Fr.rf⟩)
      · rw [eF_told 0, c_has32 h12 h.at.1 ho.n, bs]; (try dsimp only); rw [hx, b2T, if_neg n10, if_neg h0, if_neg h1, if_pos rfl, if_pos (ib6 h6), ix6 h6, show σ 17 p = _ from h.at.1.W hp]
      · rw [eM_told 0, m_one h.at.1 ho.n, bs]; (try dsimp only); rw [hx, b2T, if_neg n10, if_neg h0, if_neg h1, if_pos rfl, i3, nI_2, if_pos i2, j2, h.at.1.W hp]
    by_cases h3 : y = 3
    · subst h3
      refine same hw (rK (aT a) p) (fun σ h => ⟨σ, ?_, Fr.rf⟩) (fun σ h => ⟨σ, ?_, Fr.rf⟩)
      · rw [eF_told 0, c_has32 h12 h.at.1 ho.n, bs]; (try dsimp only); rw [hx, b2T, if_neg n10, if_neg h0, if_neg h1, if_neg h2, if_pos rfl, if_pos (ib6 h6), ix6 h6, show σ 13 p = _ from h.at.1.K hp]
      · rw [eM_told 0, m_one h.at.1 ho.n, bs]; (try dsimp only); rw [hx, b2T, if_neg n10, if_neg h0, if_neg h1, if_neg h2, if_pos rfl, if_pos (ib6 h6), ix6 h6, h.at.1.K hp]
    by_cases h4 : y = 4
    · subst h4
      refine same hw (rM (aT a) p) (fun σ h => ⟨σ, ?_, Fr.rf⟩) (fun σ h => ⟨σ, ?_, Fr.rf⟩)
      · rw [eF_told 0, c_has32 h12 h.at.1 ho.n, bs]; (try dsimp only); rw [hx, b2T, if_neg n10, if_neg h0, if_neg h1, if_neg h2, if_neg h3, if_pos rfl, if_pos (ib6 h6), ix6 h6, show σ 14 p = _ from h.at.1.M hp]
      · rw [eM_told 0, m_one h.at.1 ho.n, bs]; (try dsimp only); rw [hx, b2T, if_neg n10, if_neg h0, if_neg h1, if_neg h2, if_neg h3, if_pos rfl, if_pos (ib6 h6), ix6 h6, h.at.1.M hp]
    by_cases h5 : y = 5
    · subst h5
      refine same hw (gapS (aX a) (aT a) p) (fun σ h => ?_) (fun σ h => ?_)
      · obtain ⟨σ', e, f⟩ := c_gap (k := 0) h12 h.at ho hp
        exact ⟨σ', by rw [eF_told 0, c_has32 h12 h.at.1 ho.n, bs]; (try dsimp only); rw [hx, b2T, if_neg n10, if_neg h0, if_neg h1, if_neg h2, if_neg h3, if_neg h4, if_pos rfl, e, bs], f⟩
      · obtain ⟨σ', e, f⟩ := m_gap (k := 0) h.at ho hp
        exact ⟨σ', by rw [eM_told 0, m_one h.at.1 ho.n, bs]; (try dsimp only); rw [hx, b2T, if_neg n10, if_neg h0, if_neg h1, if_neg h2, if_neg h3, if_neg h4, if_pos rfl, e, bs], f⟩
    by_cases h7 : y = 6
    · subst h7
      refine same hw (likedS (aX a) (aT a) p + 1000) (fun σ h => ?_) (fun σ h => ?_)
      · obtain ⟨σ', e, f⟩ := c_liked (k := 0) h12 h.at ho hp
        exact ⟨σ', by rw [eF_told 0, c_has32 h12 h.at.1 ho.n, bs]; (try dsimp only); rw [hx, b2T, if_neg n10, if_neg h0, if_neg h1, if_neg h2, if_neg h3, if_neg h4, if_neg h5, if_pos rfl, e, bs], f⟩
      · obtain ⟨σ', e, f⟩ := m_liked (k := 0) h.at ho hp
        exact ⟨σ', by rw [eM_told 0, m_one h.at.1 ho.n, bs]; (try dsimp only); rw [hx, b2T, if_neg n10, if_neg h0, if_neg h1, if_neg h2, if_neg h3, if_neg h4, if_neg h5, if_pos rfl, e, bs]; (try dsimp only); rw [Int32.add_comm], f⟩
    by_cases h8 : y = 7
    · subst h8
      refine same hw (walksS (aX a) (aT a) p + 1000) (fun σ h => ?_) (fun σ h => ?_)
      · obtain ⟨σ', e, f⟩ := c_walks (k := 0) h12 h.at ho hp
        exact ⟨σ', by rw [eF_told 0, c_has32 h12 h.at.1 ho.n, bs]; (try dsimp only); rw [hx, b2T, if_neg n10, if_neg h0, if_neg h1, if_neg h2, if_neg h3, if_neg h4, if_neg h5, if_neg h7, if_pos rfl, e, bs], f⟩
      · obtain ⟨σ', e, f⟩ := m_walks (k := 0) h.at ho hp
        exact ⟨σ', by rw [eM_told 0, m_one h.at.1 ho.n, bs]; (try dsimp only); rw [hx, b2T, if_neg n10, if_neg h0, if_neg h1, if_neg h2, if_neg h3, if_neg h4, if_neg h5, if_neg h7, if_pos rfl, e, bs]; (try dsimp only); rw [Int32.add_comm], f⟩
    by_cases h9 : y = 8
    · subst h9
      refine same hw (b2 (aloneS (aX a) (aT a) p)) (fun σ h => ?_) (fun σ h => ?_)
      · obtain ⟨σ', e, f⟩ := c_alone (k := 0) h12 h.at ho hp
        exact ⟨σ', by rw [eF_told 0, c_has32 h12 h.at.1 ho.n, bs]; (try dsimp only); rw [hx, b2T, if_neg n10, if_neg h0, if_neg h1, if_neg h2, if_neg h3, if_neg h4, if_neg h5, if_neg h7, if_neg h8, if_pos rfl, e, bs]; (try dsimp only); rw [c_bitb, bs], f⟩
      · obtain ⟨σ', e, f⟩ := m_alone (k := 0) h.at ho hp
        refine ⟨σ', ?_, f⟩
        rw [eM_told 0, m_one h.at.1 ho.n, bs]; (try dsimp only); rw [hx, b2T, if_neg n10, if_neg h0, if_neg h1, if_neg h2, if_neg h3, if_neg h4, if_neg h5, if_neg h7, if_neg h8, if_pos rfl, e, bs]
        cases h10 : aloneS (aX a) (aT a) p with
        | false => rw [if_pos (show (b2 false, (0 : Int64), σ').1 = 0 from rfl), eM_told_50 0]; rfl
        | true => rw [if_neg (show ¬ (b2 true, (0 : Int64), σ').1 = 0 from n10), eM_told_50 0]; rfl
    by_cases h11 : y = 9
    · subst h11
      refine same hw (farS (aT a) p (sN (aT a))) (fun σ h => ?_) (fun σ h => ?_)
      · exact ⟨σ, by rw [eF_told 0, c_has32 h12 h.at.1 ho.n, bs]; (try dsimp only); rw [hx, b2T, if_neg n10, if_neg h0, if_neg h1, if_neg h2, if_neg h3, if_neg h4, if_neg h5, if_neg h7, if_neg h8, if_neg h9, if_pos rfl, c_far h12 h.at.1 ho.n hp, bs], Fr.rf⟩
      · exact ⟨σ, by rw [eM_told 0, m_one h.at.1 ho.n, bs]; (try dsimp only); rw [hx, b2T, if_neg n10, if_neg h0, if_neg h1, if_neg h2, if_neg h3, if_neg h4, if_neg h5, if_neg h7, if_neg h8, if_neg h9, if_pos rfl, m_far h.at.1 ho.n hp, bs], Fr.rf⟩
    · refine same hw (-7) (fun σ h => ?_) (fun σ h => ?_)
      · exact ⟨σ, by rw [eF_told 0, c_has32 h12 h.at.1 ho.n, bs]; (try dsimp only); rw [hx, b2T, if_neg n10, if_neg h0, if_neg h1, if_neg h2, if_neg h3, if_neg h4, if_neg h5, if_neg h7, if_neg h8, if_neg h9, if_neg h11], Fr.rf⟩
      · exact ⟨σ, by rw [eM_told 0, m_one h.at.1 ho.n, bs]; (try dsimp only); rw [hx, b2T, if_neg n10, if_neg h0, if_neg h1, if_neg h2, if_neg h3, if_neg h4, if_neg h5, if_neg h7, if_neg h8, if_neg h9, if_neg h11], Fr.rf⟩
end
section
theorem InvM.gen {l : List Nat} {σ σ' : Sto} {a : Ab} {t : St} (h : InvM σ a) (hf : Fr l σ σ') (hl : ∀ c, c ∈ l → c ≤ 34 ∨ 43 ≤ c) (h9 : σ' 30 9 = σ 30 9) (h6 : σ' 30 6 = σ 30 6) (h11 : σ' 30 11 = σ 30 11) (hr : RepM σ' t) : InvM σ' (setT a t) := by
  have w : ∀ c, 35 ≤ c → c < 43 → σ' c = σ c := fun c h1 h2 => hf c fun hm => by have := hl c hm; omega
  obtain ⟨⟨g1, g2⟩, g3, g4, g5, g6, g7, g8⟩ := h
  refine ⟨⟨hr, g2.fr hf (fun hm => by have := hl _ hm; omega) (fun hm => by have := hl _ hm; omega)⟩, fun hi => ?_, ?_, ?_, ?_, ?_, ?_⟩
  · unfold Img
    rw [w 38 (by omega) (by omega), w 39 (by omega) (by omega)]
    exact g3 hi
  · rw [h9]; exact g4
  · rw [h6]; exact g5
  · rw [h11]; exact g6
  · rw [w 35 (by omega) (by omega)]; exact g7
  · rw [w 40 (by omega) (by omega), w 41 (by omega) (by omega), w 42 (by omega) (by omega)]; exact g8
theorem walk1_K {TX : TXT} {t : St} {p : Nat} : rK (walk1S TX t p) = rK t ∧ rM (walk1S TX t p) = rM t := by
  unfold walk1S
  split <;> exact ⟨rfl, rfl⟩
theorem walk_K {TX : TXT} {t : St} : ∀ m, rK (walkS TX t m) = rK t ∧ rM (walkS TX t m) = rM t := by
  intro m
  induction m with
  | zero => exact ⟨rfl, rfl⟩
  | succ m ih => exact ⟨walk1_K.1.trans ih.1, walk1_K.2.trans ih.2⟩
theorem ferry_K {TX : TXT} {t : St} : rK (ferryS TX t) = rK t ∧ rM (ferryS TX t) = rM t := by
  unfold ferryS
  split
  · split <;> exact ⟨rfl, rfl⟩
  · split <;> exact ⟨rfl, rfl⟩
theorem hour_K {TX : TXT} {t : St} : rK (hourS TX t) = rK t ∧ rM (hourS TX t) = rM t := ⟨(walk_K _).1.trans ferry_K.1, (walk_K _).2.trans ferry_K.2⟩
theorem s_hour {a : Ab} (hw : WfA a) : Step nF_hour nM_hour [] a := by
  have ho := hw.1
  have e9 : (9999 : Int32).toInt = 9999 := by decide
  have e1 : (1 : Int32).toInt = 1 := by decide
  by_cases h0 : sH (aT a) = 9999
  · refine same hw (-3) (fun σ h => ?_) (fun σ h => ?_)
    · rw [eF_hour 0, h.at.1.H, h0, if_neg (by decide)]
      exact ⟨σ, rfl, Fr.rf⟩
    · rw [eM_hour 0, z3, h.at.1.H, if_pos h0]
      exact ⟨σ, rfl, Fr.rf⟩
  · have h1 : sH (aT a) < 9999 := by
      rw [i_eq, e9] at h0
      rw [i_lt, e9]
      have := hw.2.1
      omega
    have hh : (sH (hourS (aX a) (aT a))).toInt ≤ 9999 := by
      show (sH (aT a) + 1).toInt ≤ 9999
      have h3 := Int32.le_toInt (sH (aT a))
      rw [i_lt, e9] at h1
      rw [i_add (by omega) (by omega), e1]
      omega
    refine ⟨(whoS (aX a) (aT a), 0), setT a (hourS (aX a) (aT a)), hw.st ho.hour hh (by rw [hour_n]; exact Nat.le_refl _) (fun i _ => by rw [hour_K.1, hour_K.2]; exact ⟨rfl, rfl⟩), fun σ h => ?_, fun σ h => ?_⟩
    · obtain ⟨σ', e, r, f⟩ := c_hour (k := 0) h12 h.at ho
      rw [eF_hour 0, h.at.1.H, if_pos h1, e, bs]
      exact ⟨σ', rfl, h.st f r.1, wrc f⟩
    · obtain ⟨σ', e, r, f⟩ := m_hour (k := 0) h.at ho
      rw [eM_hour 0, z3, h.at.1.H, if_neg h0, e, bs]
      exact ⟨σ', rfl, h.st f r.1, wmm f⟩
theorem in_t {lo hi v : Int32} {l h : Int} (e1 : lo.toInt = l) (e2 : hi.toInt = h) (hv : l ≤ v.toInt ∧ v.toInt ≤ h) : b2 (decide (lo.toInt ≤ v.toInt ∧ v.toInt ≤ hi.toInt)) = 1 := b2_t (by rw [e1, e2]; exact hv)
theorem in_f {lo hi v : Int32} {l h : Int} (e1 : lo.toInt = l) (e2 : hi.toInt = h) (hv : ¬ (l ≤ v.toInt ∧ v.toInt ≤ h)) : b2 (decide (lo.toInt ≤ v.toInt ∧ v.toInt ≤ hi.toInt)) = 0 := by rw [e1, e2, decide_eq_false hv]; rfl
theorem s_walk {a : Ab} (hw : WfA a) (x y : Int32) : Step nF_walk nM_walk [.int x, .int y] a := by
  have ho := hw.1
  have e1 : (-63 : Int32).toInt = -63 := by decide
  have e2 : (63 : Int32).toInt = 63 := by decide
  cases hx : isOneS (aT a) x with
  | false =>
    refine same hw (-5) (fun σ h => ?_) (fun σ h => ?_)
    · rw [eF_walk 0, c_has32 h12 h.at.1 ho.n, bs]; (try dsimp only); rw [hx, b2F, if_pos rfl]
      exact ⟨σ, rfl, Fr.rf⟩
    · rw [eM_walk 0, m_one h.at.1 ho.n, bs]; (try dsimp only); rw [hx, b2F, if_pos rfl]
      exact ⟨σ, rfl, Fr.rf⟩
  | true =>
    obtain ⟨p, hp, ep⟩ := one_of ho.n hx
    subst ep
    have h6 : p < 6 := Nat.lt_of_lt_of_le hp ho.n
    by_cases hy : -63 ≤ y.toInt ∧ y.toInt ≤ 63
    · have q := in_t e1 e2 hy
      by_cases h1 : rP (aT a) p = -1
      · refine same hw (-3) (fun σ h => ?_) (fun σ h => ?_)
        · rw [eF_walk 0, c_has32 h12 h.at.1 ho.n, bs]; (try dsimp only); rw [hx, b2T, if_neg n10, c_in, q, bs]; (try dsimp only); rw [if_neg n10, if_pos (ib6 h6), ix6 h6, if_pos (show σ 15 p = -1 from (h.at.1.P hp).trans h1)]
          exact ⟨σ, rfl, Fr.rf⟩
        · rw [eM_walk 0, m_one h.at.1 ho.n, bs]; (try dsimp only); rw [hx, b2T, if_neg n10, m_in, q, bs]; (try dsimp only); rw [if_neg n10, m_isAt h.at.1 ho.n hp, bs]; (try dsimp only); rw [if_pos (show b2 (decide (¬ rP (aT a) p = -1)) = 0 by simp [h1, b2])]
          exact ⟨σ, rfl, Fr.rf⟩
      · refine ⟨(maxI 0 (minI 63 (rP (aT a) p + y)), 0), setT a (goOnS (aT a) p y), hw.st ho.goOn hw.2.1 (Nat.le_refl _) (fun i _ => ⟨rfl, rfl⟩), fun σ h => ?_, fun σ h => ?_⟩
        · obtain ⟨e3, r3⟩ := c_goOn (k := 0) h12 h.at.1 ho.n hp (far := y)
          rw [eF_walk 0, c_has32 h12 h.at.1 ho.n, bs]; (try dsimp only); rw [hx, b2T, if_neg n10, c_in, q, bs]; (try dsimp only); rw [if_neg n10, if_pos (ib6 h6), ix6 h6, if_neg (show ¬ σ 15 p = -1 from fun e => h1 ((h.at.1.P hp).symm.trans e)), e3, bs]; (try dsimp only); rw [if_pos (ib6 h6), su_e]
          exact ⟨_, rfl, h.st (Fr.rf.su (by decide)) r3, FC.rf.su (by decide)⟩
        · rw [eM_walk 0, m_one h.at.1 ho.n, bs]; (try dsimp only); rw [hx, b2T, if_neg n10, m_in, q, bs]; (try dsimp only); rw [if_neg n10, m_isAt h.at.1 ho.n hp, bs]; (try dsimp only); rw [if_neg (show ¬ b2 (decide (¬ rP (aT a) p = -1)) = 0 by simp [h1, b2]), i3, if_pos (ibn (show 3 * p < 18 by omega) (by decide)), ixn (show 3 * p < 2147483648 by omega), h.at.1.P hp, m_within (by decide), bs]; (try dsimp only); rw [if_pos (ibn (show 3 * p < 18 by omega) (by decide)), if_pos (ibn (show 3 * p < 18 by omega) (by decide)), su_e]
          exact ⟨_, rfl, h.st (Fr.rf.su (by decide)) h.at.1.sP, FM.rf.su (by decide) (by decide)⟩
    · have q := in_f e1 e2 hy
      refine same hw (-7) (fun σ h => ?_) (fun σ h => ?_)
      · rw [eF_walk 0, c_has32 h12 h.at.1 ho.n, bs]; (try dsimp only); rw [hx, b2T, if_neg n10, c_in, q, bs]; (try dsimp only); rw [if_pos rfl]
        exact ⟨σ, rfl, Fr.rf⟩
      · rw [eM_walk 0, m_one h.at.1 ho.n, bs]; (try dsimp only); rw [hx, b2T, if_neg n10, m_in, q, bs]; (try dsimp only); rw [if_pos rfl]
        exact ⟨σ, rfl, Fr.rf⟩
theorem s_put {a : Ab} (hw : WfA a) (x y z : Int32) : Step nF_put nM_put [.int x, .int y, .int z] a := by
  have ho := hw.1
  have e0 : (0 : Int32).toInt = 0 := by decide
  have e1 : (1 : Int32).toInt = 1 := by decide
  have e2 : (2 : Int32).toInt = 2 := by decide
  have em : (-1 : Int32).toInt = -1 := by decide
  have e63 : (63 : Int32).toInt = 63 := by decide
  have e99 : (99 : Int32).toInt = 99 := by decide
  cases hx : isOneS (aT a) x with
  | false =>
    refine same hw (-5) (fun σ h => ?_) (fun σ h => ?_)
    · rw [eF_put 0, c_has32 h12 h.at.1 ho.n, bs]; (try dsimp only); rw [hx, b2F, if_pos rfl]
      exact ⟨σ, rfl, Fr.rf⟩
    · rw [eM_put 0, m_one h.at.1 ho.n, bs]; (try dsimp only); rw [hx, b2F, if_pos rfl]
      exact ⟨σ, rfl, Fr.rf⟩
  | true =>
    obtain ⟨p, hp, ep⟩ := one_of ho.n hx
    subst ep
    have h6 : p < 6 := Nat.lt_of_lt_of_le hp ho.n
    have i0 := ibn (show 3 * p < 18 by omega) (by decide)
    have i1 := ibn (show 3 * p + 1 < 18 by omega) (by decide)
    have i2 := ibn (show 3 * p + 2 < 18 by omega) (by decide)
    have j0 := ixn (show 3 * p < 2147483648 by omega)
    have j1 := ixn (show 3 * p + 1 < 2147483648 by omega)
    have j2 := ixn (show 3 * p + 2 < 2147483648 by omega)
    by_cases h0 : y = 0
    · subst h0
      by_cases hz : -1 ≤ z.toInt ∧ z.toInt ≤ 63
      · have q := in_t em e63 hz
        by_cases hb : sB (aT a) = nI p
        · refine same hw (-7) (fun σ h => ?_) (fun σ h => ?_)
          · rw [eF_put 0, c_has32 h12 h.at.1 ho.n, bs]; (try dsimp only); rw [hx, b2T, if_neg n10, if_pos rfl, if_pos (show σ 12 9 = nI p from h.at.1.B.trans hb), eF_put_35 0, if_neg (by decide), eF_put_62 0, if_neg (by decide)]
            exact ⟨σ, rfl, Fr.rf⟩
          · rw [eM_put 0, m_one h.at.1 ho.n, bs]; (try dsimp only); rw [hx, b2T, if_neg n10, if_pos rfl, eM_put_16 0, m_in, bs]; (try dsimp only); rw [if_neg (by decide), if_pos rfl, eM_put_28 0, m_in, q, bs]; (try dsimp only); rw [if_neg n10, if_pos rfl, z1, if_pos (show σ 34 1 = nI p from h.at.1.B.trans hb)]
            exact ⟨σ, rfl, Fr.rf⟩
        · refine ⟨(rP (aT a) p, 0), setT a (pP (aT a) (upd (rP (aT a)) p z)), hw.st (Ok.pP ho hz.1 hz.2) hw.2.1 (Nat.le_refl _) (fun i _ => ⟨rfl, rfl⟩), fun σ h => ?_, fun σ h => ?_⟩
          · rw [eF_put 0, c_has32 h12 h.at.1 ho.n, bs]; (try dsimp only); rw [hx, b2T, if_neg n10, if_pos rfl, if_neg (show ¬ σ 12 9 = nI p from fun e => hb (h.at.1.B.symm.trans e)), c_in, q, bs]; (try dsimp only); rw [if_neg n10, if_pos (ib6 h6), if_pos (ib6 h6), ix6 h6, show σ 15 p = _ from h.at.1.P hp]
            exact ⟨_, rfl, h.st (Fr.rf.su (by decide)) (h.at.1.sP h12), FC.rf.su (by decide)⟩
          · rw [eM_put 0, m_one h.at.1 ho.n, bs]; (try dsimp only); rw [hx, b2T, if_neg n10, if_pos rfl, eM_put_16 0, m_in, bs]; (try dsimp only); rw [if_neg (by decide), if_pos rfl, eM_put_28 0, m_in, q, bs]; (try dsimp only); rw [if_neg n10, if_pos rfl, z1, if_neg (show ¬ σ 34 1 = nI p from fun e => hb (h.at.1.B.symm.trans e)), i3, Int32.add_zero, if_pos i0, if_pos i0, j0, h.at.1.P hp]
            exact ⟨_, rfl, h.st (Fr.rf.su (by decide)) h.at.1.sP, FM.rf.su (by decide) (by decide)⟩
      · have q := in_f em e63 hz
        refine same hw (-7) (fun σ h => ?_) (fun σ h => ?_)
        · by_cases hb : sB (aT a) = nI p
          · rw [eF_put 0, c_has32 h12 h.at.1 ho.n, bs]; (try dsimp only); rw [hx, b2T, if_neg n10, if_pos rfl, if_pos (show σ 12 9 = nI p from h.at.1.B.trans hb), eF_put_35 0, if_neg (by decide), eF_put_62 0, if_neg (by decide)]
            exact ⟨σ, rfl, Fr.rf⟩
          · rw [eF_put 0, c_has32 h12 h.at.1 ho.n, bs]; (try dsimp only); rw [hx, b2T, if_neg n10, if_pos rfl, if_neg (show ¬ σ 12 9 = nI p from fun e => hb (h.at.1.B.symm.trans e)), c_in, q, bs]; (try dsimp only); rw [if_pos rfl, eF_put_35 0, if_neg (by decide), eF_put_62 0, if_neg (by decide)]
            exact ⟨σ, rfl, Fr.rf⟩
        · rw [eM_put 0, m_one h.at.1 ho.n, bs]; (try dsimp only); rw [hx, b2T, if_neg n10, if_pos rfl, eM_put_16 0, m_in, bs]; (try dsimp only); rw [if_neg (by decide), if_pos rfl, eM_put_28 0, m_in, q, bs]; (try dsimp only); rw [if_pos rfl]
          exact ⟨σ, rfl, Fr.rf⟩
    by_cases h1 : y = 1
    · subst h1
      by_cases hz : 0 ≤ z.toInt ∧ z.toInt ≤ 1
      · have q := in_t e0 e1 hz
        have hz2 : z = 0 ∨ z = 1 := by rw [i_eq, i_eq, e0, e1]; omega
        refine ⟨(rD (aT a) p, 0), setT a (pD (aT a) (upd (rD (aT a)) p z)), hw.st (Ok.pD ho hz2) hw.2.1 (Nat.le_refl _) (fun i _ => ⟨rfl, rfl⟩), fun σ h => ?_, fun σ h => ?_⟩
        · rw [eF_put 0, c_has32 h12 h.at.1 ho.n, bs]; (try dsimp only); rw [hx, b2T, if_neg n10, if_neg (by decide), eF_put_35 0, if_pos rfl, c_in, q, bs]; (try dsimp only); rw [if_neg n10, if_pos (ib6 h6), ix6 h6, show σ 16 p = _ from h.at.1.D hp, c_bit (ho.hid hp), bs]; (try dsimp only); rw [if_pos (show inb (nI p) 6 = true ∧ zb 1 = true from ⟨ib6 h6, by decide⟩), if_pos (show inb (nI p) 6 = true ∧ zb 0 = true from ⟨ib6 h6, by decide⟩)]
          rcases hz2 with hz2 | hz2
          · subst hz2
            rw [if_neg (by decide)]
            exact ⟨_, rfl, h.st (Fr.rf.su (by decide)) (h.at.1.sD h12), FC.rf.su (by decide)⟩
          · subst hz2
            rw [if_pos rfl]
            exact ⟨_, rfl, h.st (Fr.rf.su (by decide)) (h.at.1.sD h12), FC.rf.su (by decide)⟩
        · rw [eM_put 0, m_one h.at.1 ho.n, bs]; (try dsimp only); rw [hx, b2T, if_neg n10, if_neg (by decide), if_pos rfl, eM_put_16 0, m_in, bs]; (try dsimp only); rw [if_neg (by decide), if_neg (by decide), eM_put_28 0, m_in, q, bs]; (try dsimp only); rw [if_neg n10, if_neg (by decide), i3, nI_1, if_pos i1, if_pos i1, j1, h.at.1.D hp]
          exact ⟨_, rfl, h.st (Fr.rf.su (by decide)) h.at.1.sD, FM.rf.su (by decide) (by decide)⟩
      · have q := in_f e0 e1 hz
        refine same hw (-7) (fun σ h => ?_) (fun σ h => ?_)
        · rw [eF_put 0, c_has32 h12 h.at.1 ho.n, bs]; (try dsimp only); rw [hx, b2T, if_neg n10, if_neg (by decide), eF_put_35 0, if_pos rfl, c_in, q, bs]; (try dsimp only); rw [if_pos rfl, eF_put_62 0, if_neg (by decide)]
          exact ⟨σ, rfl, Fr.rf⟩
        · rw [eM_put 0, m_one h.at.1 ho.n, bs]; (try dsimp only); rw [hx, b2T, if_neg n10, if_neg (by decide), if_pos rfl, eM_put_16 0, m_in, bs]; (try dsimp only); rw [if_neg (by decide), if_neg (by decide), eM_put_28 0, m_in, q, bs]; (try dsimp only); rw [if_pos rfl]
          exact ⟨σ, rfl, Fr.rf⟩
    by_cases h2 : y = 2
    · subst h2
      by_cases hz : 0 ≤ z.toInt ∧ z.toInt ≤ 99
      · have q := in_t e0 e99 hz
        refine ⟨(rW (aT a) p, 0), setT a (pW (aT a) (upd (rW (aT a)) p z)), hw.st (Ok.pW ho hz.1 hz.2) hw.2.1 (Nat.le_refl _) (fun i _ => ⟨rfl, rfl⟩), fun σ h => ?_, fun σ h => ?_⟩
        · rw [eF_put 0, c_has32 h12 h.at.1 ho.n, bs]; (try dsimp only); rw [hx, b2T, if_neg n10, if_neg (by decide), eF_put_35 0, if_neg (by decide), eF_put_62 0, if_pos rfl, c_in, q, bs]; (try dsimp only); rw [if_neg n10, if_pos (ib6 h6), if_pos (ib6 h6), ix6 h6, show σ 17 p = _ from h.at.1.W hp]
          exact ⟨_, rfl, h.st (Fr.rf.su (by decide)) (h.at.1.sW h12), FC.rf.su (by decide)⟩
        · rw [eM_put 0, m_one h.at.1 ho.n, bs]; (try dsimp only); rw [hx, b2T, if_neg n10, if_neg (by decide), if_neg (by decide), eM_put_16 0, m_in, bs]; (try dsimp only); rw [if_neg (by decide), if_neg (by decide), eM_put_28 0, m_in, q, bs]; (try dsimp only); rw [if_neg n10, if_neg (by decide), i3, nI_2, if_pos i2, if_pos i2, j2, h.at.1.W hp]
          exact ⟨_, rfl, h.st (Fr.rf.su (by decide)) h.at.1.sW, FM.rf.su (by decide) (by decide)⟩
      · have q := in_f e0 e99 hz
        refine same hw (-7) (fun σ h => ?_) (fun σ h => ?_)
        · rw [eF_put 0, c_has32 h12 h.at.1 ho.n, bs]; (try dsimp only); rw [hx, b2T, if_neg n10, if_neg (by decide), eF_put_35 0, if_neg (by decide), eF_put_62 0, if_pos rfl, c_in, q, bs]; (try dsimp only); rw [if_pos rfl]
          exact ⟨σ, rfl, Fr.rf⟩
        · rw [eM_put 0, m_one h.at.1 ho.n, bs]; (try dsimp only); rw [hx, b2T, if_neg n10, if_neg (by decide), if_neg (by decide), eM_put_16 0, m_in, bs]; (try dsimp only); rw [if_neg (by decide), if_neg (by decide), eM_put_28 0, m_in, q, bs]; (try dsimp only); rw [if_pos rfl]
          exact ⟨σ, rfl, Fr.rf⟩
    · have q : b2 (decide ((0 : Int32).toInt ≤ y.toInt ∧ y.toInt ≤ (2 : Int32).toInt)) = 0 := in_f e0 e2 (by
        rw [i_eq, e0] at h0
        rw [i_eq, e1] at h1
        rw [i_eq, e2] at h2
        omega)
      refine same hw (-7) (fun σ h => ?_) (fun σ h => ?_)
      · rw [eF_put 0, c_has32 h12 h.at.1 ho.n, bs]; (try dsimp only); rw [hx, b2T, if_neg n10, if_neg h0, eF_put_35 0, if_neg h1, eF_put_62 0, if_neg h2]
        exact ⟨σ, rfl, Fr.rf⟩
      · rw [eM_put 0, m_one h.at.1 ho.n, bs]; (try dsimp only); rw [hx, b2T, if_neg n10, if_neg h0, if_neg h1, eM_put_16 0, m_in, q, bs]; (try dsimp only); rw [if_pos rfl]
        exact ⟨σ, rfl, Fr.rf⟩
end
section
/-! ONE MORE OF PEOPLE -/
def welS (t : St) (x y : Int32) : St := ((sN t + 1, sH t, sO t, sB t, sF t, sL t), upd (rK t) (sN t) (x / 10), upd (rM t) (sN t) (x - x / 10 * 10), upd (rP t) (sN t) y, upd (rD t) (sN t) 0, upd (rW t) (sN t) 0)
theorem RepS.wel {σ : Sto} {t : St} (h : RepS σ 12 t) {x y : Int32} : RepS (su (su (su (su (su (su σ 13 (sN t) (x / 10)) 14 (sN t) (x - x / 10 * 10)) 15 (sN t) y) 16 (sN t) 0) 17 (sN t) 0) 12 6 (nI (sN t + 1))) 12 (welS t x y) := by
  have e12 : (su (su (su (su (su (su σ 13 (sN t) (x / 10)) 14 (sN t) (x - x / 10 * 10)) 15 (sN t) y) 16 (sN t) 0) 17 (sN t) 0) 12 6 (nI (sN t + 1))) 12 = upd (σ 12) 6 (nI (sN t + 1)) := by
    rw [su_row, su_ne (by decide), su_ne (by decide), su_ne (by decide), su_ne (by decide), su_ne (by decide)]
  have e13 : (su (su (su (su (su (su σ 13 (sN t) (x / 10)) 14 (sN t) (x - x / 10 * 10)) 15 (sN t) y) 16 (sN t) 0) 17 (sN t) 0) 12 6 (nI (sN t + 1))) 13 = upd (σ 13) (sN t) (x / 10) := by
    rw [su_ne (by decide), su_ne (by decide), su_ne (by decide), su_ne (by decide), su_ne (by decide), su_row]
  have e14 : (su (su (su (su (su (su σ 13 (sN t) (x / 10)) 14 (sN t) (x - x / 10 * 10)) 15 (sN t) y) 16 (sN t) 0) 17 (sN t) 0) 12 6 (nI (sN t + 1))) 14 = upd (σ 14) (sN t) (x - x / 10 * 10) := by
    rw [su_ne (by decide), su_ne (by decide), su_ne (by decide), su_ne (by decide), su_row, su_ne (by decide)]
  have e15 : (su (su (su (su (su (su σ 13 (sN t) (x / 10)) 14 (sN t) (x - x / 10 * 10)) 15 (sN t) y) 16 (sN t) 0) 17 (sN t) 0) 12 6 (nI (sN t + 1))) 15 = upd (σ 15) (sN t) y := by
    rw [su_ne (by decide), su_ne (by decide), su_ne (by decide), su_row, su_ne (by decide), su_ne (by decide)]
  have e16 : (su (su (su (su (su (su σ 13 (sN t) (x / 10)) 14 (sN t) (x - x / 10 * 10)) 15 (sN t) y) 16 (sN t) 0) 17 (sN t) 0) 12 6 (nI (sN t + 1))) 16 = upd (σ 16) (sN t) 0 := by
    rw [su_ne (by decide), su_ne (by decide), su_row, su_ne (by decide), su_ne (by decide), su_ne (by decide)]
  have e17 : (su (su (su (su (su (su σ 13 (sN t) (x / 10)) 14 (sN t) (x - x / 10 * 10)) 15 (sN t) y) 16 (sN t) 0) 17 (sN t) 0) 12 6 (nI (sN t + 1))) 17 = upd (σ 17) (sN t) 0 := by
    rw [su_ne (by decide), su_row, su_ne (by decide), su_ne (by decide), su_ne (by decide), su_ne (by decide)]
  refine ⟨?_, fun i hi => ?_⟩
  · rw [e12]
    exact ⟨upd_s, (upd_n (by decide)).trans h.H, (upd_n (by decide)).trans h.O, (upd_n (by decide)).trans h.B, (upd_n (by decide)).trans h.F, (upd_n (by decide)).trans h.L⟩
  · have hi : i < sN t + 1 := hi
    rw [e13, e14, e15, e16, e17]
    show upd (σ 13) (sN t) (x / 10) i = upd (rK t) (sN t) (x / 10) i ∧ upd (σ 14) (sN t) (x - x / 10 * 10) i = upd (rM t) (sN t) (x - x / 10 * 10) i ∧ upd (σ 15) (sN t) y i = upd (rP t) (sN t) y i ∧
      upd (σ 16) (sN t) 0 i = upd (rD t) (sN t) 0 i ∧ upd (σ 17) (sN t) 0 i = upd (rW t) (sN t) 0 i
    by_cases hn : i = sN t
    · subst hn
      simp only [upd_s, and_self]
    · have hi2 : i < sN t := by omega
      simp only [upd_n hn]
      exact ⟨h.K hi2, h.M hi2, h.P hi2, h.D hi2, h.W hi2⟩
theorem RepM.wel {σ : Sto} {t : St} (h : RepM σ t) {x y : Int32} : RepM (su (su (su (su (su (su σ 31 (sN t) (x / 10)) 32 (sN t) (x - x / 10 * 10)) 33 (3 * sN t) y) 33 (3 * sN t + 1) 0) 33 (3 * sN t + 2) 0) 30 0 (nI (sN t + 1))) (welS t x y) := by
  have e30 : (su (su (su (su (su (su σ 31 (sN t) (x / 10)) 32 (sN t) (x - x / 10 * 10)) 33 (3 * sN t) y) 33 (3 * sN t + 1) 0) 33 (3 * sN t + 2) 0) 30 0 (nI (sN t + 1))) 30 = upd (σ 30) 0 (nI (sN t + 1)) := by
    rw [su_row, su_ne (by decide), su_ne (by decide), su_ne (by decide), su_ne (by decide), su_ne (by decide)]
  have e31 : (su (su (su (su (su (su σ 31 (sN t) (x / 10)) 32 (sN t) (x - x / 10 * 10)) 33 (3 * sN t) y) 33 (3 * sN t + 1) 0) 33 (3 * sN t + 2) 0) 30 0 (nI (sN t + 1))) 31 = upd (σ 31) (sN t) (x / 10) := by
    rw [su_ne (by decide), su_ne (by decide), su_ne (by decide), su_ne (by decide), su_ne (by decide), su_row]
  have e32 : (su (su (su (su (su (su σ 31 (sN t) (x / 10)) 32 (sN t) (x - x / 10 * 10)) 33 (3 * sN t) y) 33 (3 * sN t + 1) 0) 33 (3 * sN t + 2) 0) 30 0 (nI (sN t + 1))) 32 = upd (σ 32) (sN t) (x - x / 10 * 10) := by
    rw [su_ne (by decide), su_ne (by decide), su_ne (by decide), su_ne (by decide), su_row, su_ne (by decide)]
  have e33 : (su (su (su (su (su (su σ 31 (sN t) (x / 10)) 32 (sN t) (x - x / 10 * 10)) 33 (3 * sN t) y) 33 (3 * sN t + 1) 0) 33 (3 * sN t + 2) 0) 30 0 (nI (sN t + 1))) 33 = upd (upd (upd (σ 33) (3 * sN t) y) (3 * sN t + 1) 0) (3 * sN t + 2) 0 := by
    rw [su_ne (by decide), su_row, su_row, su_row, su_ne (by decide), su_ne (by decide)]
  have e34 : (su (su (su (su (su (su σ 31 (sN t) (x / 10)) 32 (sN t) (x - x / 10 * 10)) 33 (3 * sN t) y) 33 (3 * sN t + 1) 0) 33 (3 * sN t + 2) 0) 30 0 (nI (sN t + 1))) 34 = σ 34 := by
    rw [su_ne (by decide), su_ne (by decide), su_ne (by decide), su_ne (by decide), su_ne (by decide), su_ne (by decide)]
  refine ⟨?_, fun i hi => ?_⟩
  · rw [e30, e34]
    exact ⟨upd_s, (upd_n (by decide)).trans h.L, h.O, h.B, h.F, h.H⟩
  · have hi : i < sN t + 1 := hi
    rw [e31, e32, e33]
    show upd (σ 31) (sN t) (x / 10) i = upd (rK t) (sN t) (x / 10) i ∧ upd (σ 32) (sN t) (x - x / 10 * 10) i = upd (rM t) (sN t) (x - x / 10 * 10) i ∧
      upd (upd (upd (σ 33) (3 * sN t) y) (3 * sN t + 1) 0) (3 * sN t + 2) 0 (3 * i) = upd (rP t) (sN t) y i ∧
      upd (upd (upd (σ 33) (3 * sN t) y) (3 * sN t + 1) 0) (3 * sN t + 2) 0 (3 * i + 1) = upd (rD t) (sN t) 0 i ∧
      upd (upd (upd (σ 33) (3 * sN t) y) (3 * sN t + 1) 0) (3 * sN t + 2) 0 (3 * i + 2) = upd (rW t) (sN t) 0 i
    by_cases hn : i = sN t
    · subst hn
      refine ⟨?_, ?_, ?_, ?_, ?_⟩
      · rw [upd_s, upd_s]
      · rw [upd_s, upd_s]
      · rw [upd_n (by omega), upd_n (by omega), upd_s, upd_s]
      · rw [upd_n (by omega), upd_s, upd_s]
      · rw [upd_s, upd_s]
    · have hi2 : i < sN t := by omega
      simp only [upd_n hn]
      rw [upd_n (by omega), upd_n (by omega), upd_n (by omega), upd_n (by omega), upd_n (by omega), upd_n (by omega), upd_n (by omega), upd_n (by omega), upd_n (by omega)]
      exact ⟨h.K hi2, h.M hi2, h.P hi2, h.D hi2, h.W hi2⟩
theorem kindMore : ∀ j : Fin 60, (0 ≤ (nI j.1 / 10).toInt ∧ (nI j.1 / 10).toInt ≤ 5) ∧ (0 ≤ (nI j.1 - nI j.1 / 10 * 10).toInt ∧ (nI j.1 - nI j.1 / 10 * 10).toInt ≤ 9) := by decide +kernel
theorem Ok.wel {TX : TXT} {K : Nat} {t : St} (h : Ok TX K t) {x y : Int32} (hn : sN t < 6) (hx : 0 ≤ x.toInt ∧ x.toInt ≤ 59) (hy : 0 ≤ y.toInt ∧ y.toInt ≤ 63) : Ok TX K (welS t x y) := by
  refine ⟨⟨Nat.succ_le_of_lt hn, h.1.2.1, h.1.2.2.1, fun i hi => ?_⟩, h.2⟩
  have hi : i < sN t + 1 := hi
  obtain ⟨j, hj, ej⟩ := nI_in1 (x := x) (n := 60) (by omega) (by omega)
  have hk := kindMore ⟨j, hj⟩
  simp only [← ej] at hk
  unfold okP
  show (0 ≤ (upd (rK t) (sN t) (x / 10) i).toInt ∧ (upd (rK t) (sN t) (x / 10) i).toInt ≤ 5) ∧ (0 ≤ (upd (rM t) (sN t) (x - x / 10 * 10) i).toInt ∧ (upd (rM t) (sN t) (x - x / 10 * 10) i).toInt ≤ 9) ∧
    (-1 ≤ (upd (rP t) (sN t) y i).toInt ∧ (upd (rP t) (sN t) y i).toInt ≤ 63) ∧ (upd (rD t) (sN t) 0 i = 0 ∨ upd (rD t) (sN t) 0 i = 1) ∧ (0 ≤ (upd (rW t) (sN t) 0 i).toInt ∧ (upd (rW t) (sN t) 0 i).toInt ≤ 99)
  by_cases hni : i = sN t
  · subst hni
    simp only [upd_s]
    exact ⟨hk.1, hk.2, ⟨by omega, hy.2⟩, Or.inl trivial, by decide, by decide⟩
  · simp only [upd_n hni]
    exact h.p (by omega)
/-- what a welcome answers, and how it leaves the strand -/
def welV (t : St) (x y : Int32) : Int32 := if 0 ≤ x.toInt ∧ x.toInt ≤ 59 then (if 0 ≤ y.toInt ∧ y.toInt ≤ 63 then (if sN t < 6 then nI (sN t) else -4) else -2) else -2
def welT (t : St) (x y : Int32) : St := if 0 ≤ x.toInt ∧ x.toInt ≤ 59 then (if 0 ≤ y.toInt ∧ y.toInt ≤ 63 then (if sN t < 6 then welS t x y else t) else t) else t
theorem WfA.wel {a : Ab} (hw : WfA a) (x y : Int32) : WfA (setT a (welT (aT a) x y)) := by
  unfold welT
  split
  · split
    · split
      · rename_i h1 h2 h3
        refine hw.st (hw.1.wel h3 h1 h2) hw.2.1 (Nat.le_succ _) fun i hi => ⟨upd_n (by omega), upd_n (by omega)⟩
      · exact hw
    · exact hw
  · exact hw
theorem setT_t (a : Ab) : setT a (aT a) = a := rfl
theorem c_welcome {a : Ab} (hw : WfA a) {k : Nat} {σ : Sto} (h : InvC σ a) (x y : Int32) : ∃ σ', C nS_welcome k [.ref 12, .int x, .int y] σ = some (welV (aT a) x y, 0, σ') ∧ InvC σ' (setT a (welT (aT a) x y)) ∧ FC σ σ' := by
  have ho := hw.1
  have e0 : (0 : Int32).toInt = 0 := by decide
  have e59 : (59 : Int32).toInt = 59 := by decide
  have e63 : (63 : Int32).toInt = 63 := by decide
  unfold welV welT
  by_cases hx : 0 ≤ x.toInt ∧ x.toInt ≤ 59
  · have q1 := in_t e0 e59 hx
    by_cases hy : 0 ≤ y.toInt ∧ y.toInt ≤ 63
    · have q2 := in_t e0 e63 hy
      by_cases hn : sN (aT a) < 6
      · rw [if_pos hx, if_pos hx, if_pos hy, if_pos hy, if_pos hn, if_pos hn]
        have i6 : inb (σ 12 6) 6 = true := by rw [h.at.1.n]; exact ib6 hn
        rw [eS_welcome k 12 h12, c_in, q1, bs]; (try dsimp only); rw [if_neg n10, c_in, q2, bs]; (try dsimp only); rw [if_neg n10, if_pos (show σ 12 6 < 6 from by rw [h.at.1.n]; exact nI_lt (b := 6) hn (by omega)), if_pos i6, if_pos i6, if_pos i6,
          if_pos (show inb (σ 12 6) 6 = true ∧ zb 0 = true from ⟨i6, by decide⟩), if_pos i6, h.at.1.n, ix6 hn, show (su (su (su (su (su σ 13 (sN (aT a)) (x / 10)) 14 (sN (aT a)) (x - x / 10 * 10)) 15 (sN (aT a)) y) 16 (sN (aT a)) 0) 17 (sN (aT a)) 0) 12 6 = nI (sN (aT a)) from h.at.1.n, nI_1]
        refine ⟨_, rfl, h.st ?_ h.at.1.wel, ?_⟩
        · exact (((((Fr.rf.su (by decide)).su (by decide)).su (by decide)).su (by decide)).su (by decide)).su (by decide)
        · exact (((((FC.rf.su (by decide)).su (by decide)).su (by decide)).su (by decide)).su (by decide)).su (by decide)
      · rw [if_pos hx, if_pos hx, if_pos hy, if_pos hy, if_neg hn, if_neg hn]
        rw [eS_welcome k 12 h12, c_in, q1, bs]; (try dsimp only); rw [if_neg n10, c_in, q2, bs]; (try dsimp only); rw [if_neg n10, if_neg (show ¬ σ 12 6 < 6 from by rw [h.at.1.n]; exact nI_nlt (b := 6) (by omega) (by have := ho.n; omega))]
        exact ⟨σ, rfl, h, FC.rf⟩
    · have q2 := in_f e0 e63 hy
      rw [if_pos hx, if_pos hx, if_neg hy, if_neg hy]
      rw [eS_welcome k 12 h12, c_in, q1, bs]; (try dsimp only); rw [if_neg n10, c_in, q2, bs]; (try dsimp only); rw [if_pos rfl]
      exact ⟨σ, rfl, h, FC.rf⟩
  · have q1 := in_f e0 e59 hx
    rw [if_neg hx, if_neg hx]
    rw [eS_welcome k 12 h12, c_in, q1, bs]; (try dsimp only); rw [if_pos rfl]
    exact ⟨σ, rfl, h, FC.rf⟩
theorem m_traveller {a : Ab} (hw : WfA a) {k : Nat} {σ : Sto} (h : InvM σ a) (x y : Int32) : ∃ σ', C nM_traveller k [.ref 30, .int x, .int y] σ = some (welV (aT a) x y, 0, σ') ∧ InvM σ' (setT a (welT (aT a) x y)) ∧ FM σ σ' := by
  have ho := hw.1
  have hN := ho.n
  have e0 : (0 : Int32).toInt = 0 := by decide
  have e59 : (59 : Int32).toInt = 59 := by decide
  have e63 : (63 : Int32).toInt = 63 := by decide
  unfold welV welT
  by_cases hx : 0 ≤ x.toInt ∧ x.toInt ≤ 59
  · have q1 := in_t e0 e59 hx
    by_cases hy : 0 ≤ y.toInt ∧ y.toInt ≤ 63
    · have q2 := in_t e0 e63 hy
      by_cases hn : sN (aT a) < 6
      · rw [if_pos hx, if_pos hx, if_pos hy, if_pos hy, if_pos hn, if_pos hn]
        rw [eM_traveller k, m_in, q1, bs]; (try dsimp only); rw [if_neg n10, m_in, q2, bs]; (try dsimp only); rw [if_neg n10, if_neg (show ¬ σ 30 0 = 6 from fun e => by have := (nI_eq (a := sN (aT a)) (b := 6) (by omega) (by omega)).mp (h.at.1.n.symm.trans e); omega), if_pos (show inb (σ 30 0) 6 = true from by rw [h.at.1.n]; exact ib6 hn), h.at.1.n, ix6 hn, eM_traveller_26 k,
          su_ne (show 30 ≠ 31 by decide), h.at.1.n, if_pos (ib6 hn), ix6 hn, eM_traveller_34 k, su_ne (show 30 ≠ 32 by decide), su_ne (show 30 ≠ 31 by decide), h.at.1.n, i3, if_pos (ibn (show 3 * sN (aT a) < 18 by omega) (by decide)), ixn (show 3 * sN (aT a) < 2147483648 by omega),
          eM_traveller_42 k, su_ne (show 30 ≠ 33 by decide), su_ne (show 30 ≠ 32 by decide), su_ne (show 30 ≠ 31 by decide), h.at.1.n, i3, nI_1, if_pos (ibn (show 3 * sN (aT a) + 1 < 18 by omega) (by decide)), ixn (show 3 * sN (aT a) + 1 < 2147483648 by omega),
          eM_traveller_52 k, su_ne (show 30 ≠ 33 by decide), su_ne (show 30 ≠ 33 by decide), su_ne (show 30 ≠ 32 by decide), su_ne (show 30 ≠ 31 by decide), h.at.1.n, i3, nI_2, if_pos (ibn (show 3 * sN (aT a) + 2 < 18 by omega) (by decide)), ixn (show 3 * sN (aT a) + 2 < 2147483648 by omega),
          eM_traveller_62 k, su_e, su_ne (show 30 ≠ 33 by decide), su_ne (show 30 ≠ 33 by decide), su_ne (show 30 ≠ 33 by decide), su_ne (show 30 ≠ 32 by decide), su_ne (show 30 ≠ 31 by decide), h.at.1.n, nI_1, nI_pred]
        have fr : Fr [30, 31, 32, 33] σ (su (su (su (su (su (su σ 31 (sN (aT a)) (x / 10)) 32 (sN (aT a)) (x - x / 10 * 10)) 33 (3 * sN (aT a)) y) 33 (3 * sN (aT a) + 1) 0) 33 (3 * sN (aT a) + 2) 0) 30 0 (nI (sN (aT a) + 1))) :=
          (((((Fr.rf.su (by decide)).su (by decide)).su (by decide)).su (by decide)).su (by decide)).su (by decide)
        refine ⟨_, rfl, h.gen fr (by decide) ?_ ?_ ?_ h.at.1.wel, fr.m (by decide)⟩
        · rw [su_o (by decide), su_ne (by decide), su_ne (by decide), su_ne (by decide), su_ne (by decide), su_ne (by decide)]
        · rw [su_o (by decide), su_ne (by decide), su_ne (by decide), su_ne (by decide), su_ne (by decide), su_ne (by decide)]
        · rw [su_o (by decide), su_ne (by decide), su_ne (by decide), su_ne (by decide), su_ne (by decide), su_ne (by decide)]
      · rw [if_pos hx, if_pos hx, if_pos hy, if_pos hy, if_neg hn, if_neg hn]
        rw [eM_traveller k, m_in, q1, bs]; (try dsimp only); rw [if_neg n10, m_in, q2, bs]; (try dsimp only); rw [if_neg n10, if_pos (show σ 30 0 = 6 from h.at.1.n.trans (by rw [show sN (aT a) = 6 by omega]; rfl))]
        exact ⟨σ, rfl, h, FM.rf⟩
    · have q2 := in_f e0 e63 hy
      rw [if_pos hx, if_pos hx, if_neg hy, if_neg hy]
      rw [eM_traveller k, m_in, q1, bs]; (try dsimp only); rw [if_neg n10, m_in, q2, bs]; (try dsimp only); rw [if_pos rfl]
      exact ⟨σ, rfl, h, FM.rf⟩
  · have q1 := in_f e0 e59 hx
    rw [if_neg hx, if_neg hx]
    rw [eM_traveller k, m_in, q1, bs]; (try dsimp only); rw [if_pos rfl]
    exact ⟨σ, rfl, h, FM.rf⟩
theorem s_traveller {a : Ab} (hw : WfA a) (x y : Int32) : Step nF_traveller nM_traveller [.int x, .int y] a := by
  refine ⟨(welV (aT a) x y, 0), _, hw.wel x y, fun σ h => ?_, fun σ h => m_traveller hw h x y⟩
  obtain ⟨σ', e, i, f⟩ := c_welcome (k := 0) hw h x y
  rw [eF_traveller 0, e, bs]
  exact ⟨σ', rfl, i, f⟩
end
section
/-! A STRAND BECOMES ANOTHER; THE MODEL'S ROWS ARE KEPT AND LAID BACK -/
def ws (c : Nat) : List Nat := [c, c + 1, c + 2, c + 3, c + 4, c + 5]
theorem c_becomes {k c d : Nat} (hc : (c = 18 ∧ d = 12) ∨ (c = 24 ∧ d = 12) ∨ (c = 12 ∧ d = 24)) {t : St} {TX : TXT} {K : Nat} (ho : Ok TX K t) {σ : Sto} (hr : RepS σ d t) :
    ∃ σ', C nS_becomes k [.ref c, .ref d] σ = some (0, 0, σ') ∧ RepS σ' c t ∧ Fr (ws c) σ σ' := by
  have hN := ho.n
  have hcd : ∀ i j, i < 6 → j < 6 → d + j ≠ c + i := by
    intro i j hi hj
    omega
  have hdc : d ≠ c := hcd 0 0 (by decide) (by decide)
  have eD : ∀ (σ : Sto) i v, su σ c i v d = σ d := fun _ _ _ => su_ne hdc
  have q : ∀ (i j : Nat) (σ : Sto) (p : Nat) (v : Int32), i < 6 → j < 6 → su σ (c + i) p v (d + j) = σ (d + j) := fun i j σ p v hi hj => su_ne (hcd i j hi hj)
  have q12 := fun σ p v => q 1 2 σ p v (by decide) (by decide)
  have q13 := fun σ p v => q 1 3 σ p v (by decide) (by decide)
  have q14 := fun σ p v => q 1 4 σ p v (by decide) (by decide)
  have q15 := fun σ p v => q 1 5 σ p v (by decide) (by decide)
  have q23 := fun σ p v => q 2 3 σ p v (by decide) (by decide)
  have q24 := fun σ p v => q 2 4 σ p v (by decide) (by decide)
  have q25 := fun σ p v => q 2 5 σ p v (by decide) (by decide)
  have q34 := fun σ p v => q 3 4 σ p v (by decide) (by decide)
  have q35 := fun σ p v => q 3 5 σ p v (by decide) (by decide)
  have q45 := fun σ p v => q 4 5 σ p v (by decide) (by decide)
  have L : ∀ δ m σ0, m + δ = sN t → RepS σ0 d t → (∀ i, i < m → σ0 (c + 1) i = rK t i ∧ σ0 (c + 2) i = rM t i ∧ σ0 (c + 3) i = rP t i ∧ σ0 (c + 4) i = rD t i ∧ σ0 (c + 5) i = rW t i) →
      ∃ σ', R nS_becomes k 2 [.ref c, .ref d, .int (nI m)] [] σ0 = some (0, 0, σ') ∧ RepS σ' c t ∧ Fr (ws c) σ0 σ' := by
    intro δ
    induction δ with
    | zero =>
      intro m σ0 hm hr0 hi
      have e : m = sN t := by omega
      subst e
      rw [eS_becomes_2 k c d hc, if_neg (show ¬ nI (sN t) < σ0 d 6 from by rw [hr0.n]; exact nI_nlt (by omega) (by omega))]
      simp only [eD, hr0.n, hr0.H, hr0.O, hr0.B, hr0.F, hr0.L]
      refine ⟨_, rfl, ⟨?_, fun i hi2 => ?_⟩, ?_⟩
      · simp [su_at]
      · have n1 : c + 1 ≠ c := by omega
        have n2 : c + 2 ≠ c := by omega
        have n3 : c + 3 ≠ c := by omega
        have n4 : c + 4 ≠ c := by omega
        have n5 : c + 5 ≠ c := by omega
        rw [su_ne n1, su_ne n1, su_ne n1, su_ne n1, su_ne n1, su_ne n1, su_ne n2, su_ne n2, su_ne n2, su_ne n2, su_ne n2, su_ne n2, su_ne n3, su_ne n3, su_ne n3, su_ne n3, su_ne n3, su_ne n3,
          su_ne n4, su_ne n4, su_ne n4, su_ne n4, su_ne n4, su_ne n4, su_ne n5, su_ne n5, su_ne n5, su_ne n5, su_ne n5, su_ne n5]
        exact hi i hi2
      · have m0 : c ∈ ws c := by unfold ws; simp
        exact (((((Fr.rf.su m0).su m0).su m0).su m0).su m0).su m0
    | succ δ ih =>
      intro m σ0 hm hr0 hi
      have h1 : m < sN t := by omega
      have h6 : m < 6 := by omega
      have hz : zb (rD t m) = true := by
        rcases ho.hid h1 with h | h
        · rw [h]; decide
        · rw [h]; decide
      rw [eS_becomes_2 k c d hc, if_pos (show nI m < σ0 d 6 from by rw [hr0.n]; exact nI_lt h1 (by omega))]
      simp only [ib6 h6, ix6 h6, q12, q13, q14, q15, q23, q24, q25, q34, q35, q45, hr0.K h1, hr0.M h1, hr0.P h1, hr0.D h1, hr0.W h1, hz, and_self, ↓reduceIte, nI_1]
      have m1 : c + 1 ∈ ws c := by unfold ws; simp
      have m2 : c + 2 ∈ ws c := by unfold ws; simp
      have m3 : c + 3 ∈ ws c := by unfold ws; simp
      have m4 : c + 4 ∈ ws c := by unfold ws; simp
      have m5 : c + 5 ∈ ws c := by unfold ws; simp
      have fr : Fr (ws c) σ0 (su (su (su (su (su σ0 (c + 1) m (rK t m)) (c + 2) m (rM t m)) (c + 3) m (rP t m)) (c + 4) m (rD t m)) (c + 5) m (rW t m)) := ((((Fr.rf.su m1).su m2).su m3).su m4).su m5
      obtain ⟨σ', e1, r1, f1⟩ := ih (m + 1) _ (by omega) (hr0.fr fr fun j hj hm2 => by
        unfold ws at hm2
        simp only [List.mem_cons, List.not_mem_nil, or_false] at hm2
        have g0 := hcd 0 j (by omega) hj
        have g1 := hcd 1 j (by omega) hj
        have g2 := hcd 2 j (by omega) hj
        have g3 := hcd 3 j (by omega) hj
        have g4 := hcd 4 j (by omega) hj
        have g5 := hcd 5 j (by omega) hj
        omega) (fun i hi2 => by
          have v1 : (su (su (su (su (su σ0 (c + 1) m (rK t m)) (c + 2) m (rM t m)) (c + 3) m (rP t m)) (c + 4) m (rD t m)) (c + 5) m (rW t m)) (c + 1) = upd (σ0 (c + 1)) m (rK t m) := by
            rw [su_ne (by omega), su_ne (by omega), su_ne (by omega), su_ne (by omega), su_row]
          have v2 : (su (su (su (su (su σ0 (c + 1) m (rK t m)) (c + 2) m (rM t m)) (c + 3) m (rP t m)) (c + 4) m (rD t m)) (c + 5) m (rW t m)) (c + 2) = upd (σ0 (c + 2)) m (rM t m) := by
            rw [su_ne (by omega), su_ne (by omega), su_ne (by omega), su_row, su_ne (by omega)]
          have v3 : (su (su (su (su (su σ0 (c + 1) m (rK t m)) (c + 2) m (rM t m)) (c + 3) m (rP t m)) (c + 4) m (rD t m)) (c + 5) m (rW t m)) (c + 3) = upd (σ0 (c + 3)) m (rP t m) := by
            rw [su_ne (by omega), su_ne (by omega), su_row, su_ne (by omega), su_ne (by omega)]
          have v4 : (su (su (su (su (su σ0 (c + 1) m (rK t m)) (c + 2) m (rM t m)) (c + 3) m (rP t m)) (c + 4) m (rD t m)) (c + 5) m (rW t m)) (c + 4) = upd (σ0 (c + 4)) m (rD t m) := by
            rw [su_ne (by omega), su_row, su_ne (by omega), su_ne (by omega), su_ne (by omega)]
          have v5 : (su (su (su (su (su σ0 (c + 1) m (rK t m)) (c + 2) m (rM t m)) (c + 3) m (rP t m)) (c + 4) m (rD t m)) (c + 5) m (rW t m)) (c + 5) = upd (σ0 (c + 5)) m (rW t m) := by
            rw [su_row, su_ne (by omega), su_ne (by omega), su_ne (by omega), su_ne (by omega)]
          rw [v1, v2, v3, v4, v5]
          by_cases hn : i = m
          · subst hn
            exact ⟨upd_s, upd_s, upd_s, upd_s, upd_s⟩
          · rw [upd_n hn, upd_n hn, upd_n hn, upd_n hn, upd_n hn]
            exact hi i (by omega))
      exact ⟨σ', e1, r1, fr.tr f1⟩
  rw [eS_becomes k c d hc]
  exact L (sN t) 0 σ (Nat.zero_add _) hr (fun i hi => (by omega))
theorem t_becomes {k : Nat} {σ : Sto} {a : Ab} (hw : WfA a) (h : InvC σ a) : ∃ σ', C nS_becomes k [.ref 18, .ref 12] σ = some (0, 0, σ') ∧ At σ' 18 (aX a) (aN a) (aT a) ∧ InvC σ' a ∧ FC σ σ' := by
  obtain ⟨σ', e, r, f⟩ := c_becomes (k := k) (Or.inl ⟨rfl, rfl⟩) hw.1 h.at.1
  have hi := h.fr f (by decide)
  exact ⟨σ', e, ⟨r, hi.at.2⟩, hi, f.c (by decide)⟩
theorem keeps_l1 {k : Nat} : ∀ d m σ, m + d = 18 → ∃ σ', R nM_keeps k 2 [.ref 30, .int (nI m)] [] σ = R nM_keeps k 2 [.ref 30, .int (nI 18)] [] σ' ∧ Fr [48] σ σ' ∧ ∀ j, σ' 48 j = if m ≤ j ∧ j < 18 then σ 33 j else σ 48 j := by
  intro d
  induction d with
  | zero =>
    intro m σ hm
    have e : m = 18 := by omega
    subst e
    exact ⟨σ, rfl, Fr.rf, fun j => by rw [if_neg (by omega)]⟩
  | succ d ih =>
    intro m σ hm
    have f0 : Fr [48] σ (su σ 48 m (σ 33 m)) := Fr.rf.su (by decide)
    obtain ⟨σ', e, f, g⟩ := ih (m + 1) (su σ 48 m (σ 33 m)) (by omega)
    refine ⟨σ', ?_, f0.tr f, fun j => ?_⟩
    · rw [eM_keeps_2 k (nI m), if_pos (show nI m < 18 from nI_lt (b := 18) (by omega) (by decide)), if_pos (ibn (by omega) (by decide)), if_pos (ibn (by omega) (by decide)), ixn (by omega), nI_1]
      exact e
    · rw [g, su_ne (show 33 ≠ 48 by decide), su_row]
      by_cases hj : j = m
      · subst hj
        rw [if_neg (by omega), upd_s, if_pos (by omega)]
      · rw [upd_n hj]
        by_cases hj2 : m + 1 ≤ j ∧ j < 18
        · rw [if_pos hj2, if_pos (by omega)]
        · rw [if_neg hj2, if_neg (by omega)]
theorem keeps_l2 {k : Nat} : ∀ d m σ, m + d = 4 → ∃ σ', R nM_keeps k 17 [.ref 30, .int (nI m)] [] σ = R nM_keeps k 17 [.ref 30, .int (nI 4)] [] σ' ∧ Fr [48] σ σ' ∧ ∀ j, σ' 48 j = if 18 + m ≤ j ∧ j < 22 then σ 34 (j - 18) else σ 48 j := by
  intro d
  induction d with
  | zero =>
    intro m σ hm
    have e : m = 4 := by omega
    subst e
    exact ⟨σ, rfl, Fr.rf, fun j => by rw [if_neg (by omega)]⟩
  | succ d ih =>
    intro m σ hm
    have f0 : Fr [48] σ (su σ 48 (18 + m) (σ 34 m)) := Fr.rf.su (by decide)
    have e18 : 18 + nI m = nI (18 + m) := nI_add 18 m
    obtain ⟨σ', e, f, g⟩ := ih (m + 1) (su σ 48 (18 + m) (σ 34 m)) (by omega)
    refine ⟨σ', ?_, f0.tr f, fun j => ?_⟩
    · rw [eM_keeps_17 k (nI m), if_pos (show nI m < 4 from nI_lt (b := 4) (by omega) (by decide)), e18, if_pos (ibn (by omega) (by decide)), if_pos (ibn (by omega) (by decide)), ixn (by omega), ixn (by omega), nI_1]
      exact e
    · rw [g, su_ne (show 34 ≠ 48 by decide), su_row]
      by_cases hj : j = 18 + m
      · subst hj
        rw [if_neg (by omega), upd_s, if_pos (by omega), show 18 + m - 18 = m by omega]
      · rw [upd_n hj]
        by_cases hj2 : 18 + (m + 1) ≤ j ∧ j < 22
        · rw [if_pos hj2, if_pos (by omega)]
        · rw [if_neg hj2, if_neg (by omega)]
theorem lays_l1 {k : Nat} : ∀ d m σ, m + d = 18 → ∃ σ', R nM_lays k 2 [.ref 30, .int (nI m)] [] σ = R nM_lays k 2 [.ref 30, .int (nI 18)] [] σ' ∧ Fr [33] σ σ' ∧ ∀ j, σ' 33 j = if m ≤ j ∧ j < 18 then σ 48 j else σ 33 j := by
  intro d
  induction d with
  | zero =>
    intro m σ hm
    have e : m = 18 := by omega
    subst e
    exact ⟨σ, rfl, Fr.rf, fun j => by rw [if_neg (by omega)]⟩
  | succ d ih =>
    intro m σ hm
    have f0 : Fr [33] σ (su σ 33 m (σ 48 m)) := Fr.rf.su (by decide)
    obtain ⟨σ', e, f, g⟩ := ih (m + 1) (su σ 33 m (σ 48 m)) (by omega)
    refine ⟨σ', ?_, f0.tr f, fun j => ?_⟩
    · rw [eM_lays_2 k (nI m), if_pos (show nI m < 18 from nI_lt (b := 18) (by omega) (by decide)), if_pos (ibn (by omega) (by decide)), if_pos (ibn (by omega) (by decide)), ixn (by omega), nI_1]
      exact e
    · rw [g, su_ne (show 48 ≠ 33 by decide), su_row]
      by_cases hj : j = m
      · subst hj
        rw [if_neg (by omega), upd_s, if_pos (by omega)]
      · rw [upd_n hj]
        by_cases hj2 : m + 1 ≤ j ∧ j < 18
        · rw [if_pos hj2, if_pos (by omega)]
        · rw [if_neg hj2, if_neg (by omega)]
theorem lays_l2 {k : Nat} : ∀ d m σ, m + d = 4 → ∃ σ', R nM_lays k 17 [.ref 30, .int (nI m)] [] σ = R nM_lays k 17 [.ref 30, .int (nI 4)] [] σ' ∧ Fr [34] σ σ' ∧ ∀ j, σ' 34 j = if m ≤ j ∧ j < 4 then σ 48 (18 + j) else σ 34 j := by
  intro d
  induction d with
  | zero =>
    intro m σ hm
    have e : m = 4 := by omega
    subst e
    exact ⟨σ, rfl, Fr.rf, fun j => by rw [if_neg (by omega)]⟩
  | succ d ih =>
    intro m σ hm
    have f0 : Fr [34] σ (su σ 34 m (σ 48 (18 + m))) := Fr.rf.su (by decide)
    have e18 : 18 + nI m = nI (18 + m) := nI_add 18 m
    obtain ⟨σ', e, f, g⟩ := ih (m + 1) (su σ 34 m (σ 48 (18 + m))) (by omega)
    refine ⟨σ', ?_, f0.tr f, fun j => ?_⟩
    · rw [eM_lays_17 k (nI m), if_pos (show nI m < 4 from nI_lt (b := 4) (by omega) (by decide)), e18, if_pos (ibn (by omega) (by decide)), if_pos (ibn (by omega) (by decide)), ixn (by omega), ixn (by omega), nI_1]
      exact e
    · rw [g, su_ne (show 48 ≠ 34 by decide), su_row]
      by_cases hj : j = m
      · subst hj
        rw [if_neg (by omega), upd_s, if_pos (by omega)]
      · rw [upd_n hj]
        by_cases hj2 : m + 1 ≤ j ∧ j < 4
        · rw [if_pos hj2, if_pos (by omega)]
        · rw [if_neg hj2, if_neg (by omega)]
theorem image_l1 {k : Nat} : ∀ d m σ, m + d = 18 → ∃ σ', R nM_image k 5 [.ref 30, .int (nI m)] [] σ = R nM_image k 5 [.ref 30, .int (nI 18)] [] σ' ∧ Fr [38] σ σ' ∧ ∀ j, σ' 38 j = if m ≤ j ∧ j < 18 then σ 33 j else σ 38 j := by
  intro d
  induction d with
  | zero =>
    intro m σ hm
    have e : m = 18 := by omega
    subst e
    exact ⟨σ, rfl, Fr.rf, fun j => by rw [if_neg (by omega)]⟩
  | succ d ih =>
    intro m σ hm
    have f0 : Fr [38] σ (su σ 38 m (σ 33 m)) := Fr.rf.su (by decide)
    obtain ⟨σ', e, f, g⟩ := ih (m + 1) (su σ 38 m (σ 33 m)) (by omega)
    refine ⟨σ', ?_, f0.tr f, fun j => ?_⟩
    · rw [eM_image_5 k (nI m), if_pos (show nI m < 18 from nI_lt (b := 18) (by omega) (by decide)), if_pos (ibn (by omega) (by decide)), if_pos (ibn (by omega) (by decide)), ixn (by omega), nI_1]
      exact e
    · rw [g, su_ne (show 33 ≠ 38 by decide), su_row]
      by_cases hj : j = m
      · subst hj
        rw [if_neg (by omega), upd_s, if_pos (by omega)]
      · rw [upd_n hj]
        by_cases hj2 : m + 1 ≤ j ∧ j < 18
        · rw [if_pos hj2, if_pos (by omega)]
        · rw [if_neg hj2, if_neg (by omega)]
theorem image_l2 {k : Nat} : ∀ d m σ, m + d = 4 → ∃ σ', R nM_image k 20 [.ref 30, .int (nI m)] [] σ = R nM_image k 20 [.ref 30, .int (nI 4)] [] σ' ∧ Fr [38] σ σ' ∧ ∀ j, σ' 38 j = if 18 + m ≤ j ∧ j < 22 then σ 34 (j - 18) else σ 38 j := by
  intro d
  induction d with
  | zero =>
    intro m σ hm
    have e : m = 4 := by omega
    subst e
    exact ⟨σ, rfl, Fr.rf, fun j => by rw [if_neg (by omega)]⟩
  | succ d ih =>
    intro m σ hm
    have f0 : Fr [38] σ (su σ 38 (18 + m) (σ 34 m)) := Fr.rf.su (by decide)
    have e18 : 18 + nI m = nI (18 + m) := nI_add 18 m
    obtain ⟨σ', e, f, g⟩ := ih (m + 1) (su σ 38 (18 + m) (σ 34 m)) (by omega)
    refine ⟨σ', ?_, f0.tr f, fun j => ?_⟩
    · rw [eM_image_20 k (nI m), if_pos (show nI m < 4 from nI_lt (b := 4) (by omega) (by decide)), e18, if_pos (ibn (by omega) (by decide)), if_pos (ibn (by omega) (by decide)), ixn (by omega), ixn (by omega), nI_1]
      exact e
    · rw [g, su_ne (show 34 ≠ 38 by decide), su_row]
      by_cases hj : j = 18 + m
      · subst hj
        rw [if_neg (by omega), upd_s, if_pos (by omega), show 18 + m - 18 = m by omega]
      · rw [upd_n hj]
        by_cases hj2 : 18 + (m + 1) ≤ j ∧ j < 22
        · rw [if_pos hj2, if_pos (by omega)]
        · rw [if_neg hj2, if_neg (by omega)]
theorem back_l1 {k : Nat} : ∀ d m σ, m + d = 18 → ∃ σ', R nM_back k 7 [.ref 30, .int (nI m)] [] σ = R nM_back k 7 [.ref 30, .int (nI 18)] [] σ' ∧ Fr [33] σ σ' ∧ ∀ j, σ' 33 j = if m ≤ j ∧ j < 18 then σ 38 j else σ 33 j := by
  intro d
  induction d with
  | zero =>
    intro m σ hm
    have e : m = 18 := by omega
    subst e
    exact ⟨σ, rfl, Fr.rf, fun j => by rw [if_neg (by omega)]⟩
  | succ d ih =>
    intro m σ hm
    have f0 : Fr [33] σ (su σ 33 m (σ 38 m)) := Fr.rf.su (by decide)
    obtain ⟨σ', e, f, g⟩ := ih (m + 1) (su σ 33 m (σ 38 m)) (by omega)
    refine ⟨σ', ?_, f0.tr f, fun j => ?_⟩
    · rw [eM_back_7 k (nI m), if_pos (show nI m < 18 from nI_lt (b := 18) (by omega) (by decide)), if_pos (ibn (by omega) (by decide)), if_pos (ibn (by omega) (by decide)), ixn (by omega), nI_1]
      exact e
    · rw [g, su_ne (show 38 ≠ 33 by decide), su_row]
      by_cases hj : j = m
      · subst hj
        rw [if_neg (by omega), upd_s, if_pos (by omega)]
      · rw [upd_n hj]
        by_cases hj2 : m + 1 ≤ j ∧ j < 18
        · rw [if_pos hj2, if_pos (by omega)]
        · rw [if_neg hj2, if_neg (by omega)]
theorem back_l2 {k : Nat} : ∀ d m σ, m + d = 4 → ∃ σ', R nM_back k 22 [.ref 30, .int (nI m)] [] σ = R nM_back k 22 [.ref 30, .int (nI 4)] [] σ' ∧ Fr [34] σ σ' ∧ ∀ j, σ' 34 j = if m ≤ j ∧ j < 4 then σ 38 (18 + j) else σ 34 j := by
  intro d
  induction d with
  | zero =>
    intro m σ hm
    have e : m = 4 := by omega
    subst e
    exact ⟨σ, rfl, Fr.rf, fun j => by rw [if_neg (by omega)]⟩
  | succ d ih =>
    intro m σ hm
    have f0 : Fr [34] σ (su σ 34 m (σ 38 (18 + m))) := Fr.rf.su (by decide)
    have e18 : 18 + nI m = nI (18 + m) := nI_add 18 m
    obtain ⟨σ', e, f, g⟩ := ih (m + 1) (su σ 34 m (σ 38 (18 + m))) (by omega)
    refine ⟨σ', ?_, f0.tr f, fun j => ?_⟩
    · rw [eM_back_22 k (nI m), if_pos (show nI m < 4 from nI_lt (b := 4) (by omega) (by decide)), e18, if_pos (ibn (by omega) (by decide)), if_pos (ibn (by omega) (by decide)), ixn (by omega), ixn (by omega), nI_1]
      exact e
    · rw [g, su_ne (show 38 ≠ 34 by decide), su_row]
      by_cases hj : j = m
      · subst hj
        rw [if_neg (by omega), upd_s, if_pos (by omega)]
      · rw [upd_n hj]
        by_cases hj2 : m + 1 ≤ j ∧ j < 4
        · rw [if_pos hj2, if_pos (by omega)]
        · rw [if_neg hj2, if_neg (by omega)]
/-- the strand as the model keeps it -/
def K48 (σ : Sto) (t : St) : Prop := (∀ i, i < sN t → σ 48 (3 * i) = rP t i ∧ σ 48 (3 * i + 1) = rD t i ∧ σ 48 (3 * i + 2) = rW t i) ∧ σ 48 18 = sO t ∧ σ 48 19 = sB t ∧ σ 48 20 = sF t ∧ σ 48 21 = sH t
theorem K48.fr {l : List Nat} {σ σ' : Sto} {t : St} (h : K48 σ t) (hf : Fr l σ σ') (hl : 48 ∉ l) : K48 σ' t := by
  unfold K48
  rw [hf 48 hl]
  exact h
theorem m_keeps {k : Nat} {σ : Sto} {t : St} (hr : RepM σ t) (hN : sN t ≤ 6) : ∃ σ', C nM_keeps k [.ref 30] σ = some (0, 0, σ') ∧ K48 σ' t ∧ Fr [48] σ σ' := by
  obtain ⟨σ1, e1, f1, g1⟩ := keeps_l1 (k := k) 18 0 σ rfl
  obtain ⟨σ2, e2, f2, g2⟩ := keeps_l2 (k := k) 4 0 σ1 rfl
  rw [eM_keeps k, show (0 : Int32) = nI 0 from rfl, e1, eM_keeps_2 k, if_neg (by decide), show (0 : Int32) = nI 0 from rfl, e2, eM_keeps_17 k, if_neg (by decide)]
  have e34 : σ1 34 = σ 34 := f1 34 (by decide)
  refine ⟨σ2, rfl, ⟨fun i hi => ?_, ?_⟩, f1.tr f2⟩
  · rw [g2, g2, g2, if_neg (by omega), if_neg (by omega), if_neg (by omega), g1, g1, g1, if_pos (by omega), if_pos (by omega), if_pos (by omega)]
    exact ⟨hr.P hi, hr.D hi, hr.W hi⟩
  · rw [g2, g2, g2, g2, if_pos (by omega), if_pos (by omega), if_pos (by omega), if_pos (by omega), e34]
    exact ⟨hr.O, hr.B, hr.F, hr.H⟩
theorem m_lays {k : Nat} {σ : Sto} {t : St} (hN : sN t ≤ 6) (hk : K48 σ t) (h1 : σ 30 0 = nI (sN t)) (h2 : σ 30 10 = nI (sL t)) (h3 : ∀ i, i < sN t → σ 31 i = rK t i ∧ σ 32 i = rM t i) :
    ∃ σ', C nM_lays k [.ref 30] σ = some (0, 0, σ') ∧ RepM σ' t ∧ Fr [33, 34] σ σ' := by
  obtain ⟨σ1, e1, f1, g1⟩ := lays_l1 (k := k) 18 0 σ rfl
  obtain ⟨σ2, e2, f2, g2⟩ := lays_l2 (k := k) 4 0 σ1 rfl
  rw [eM_lays k, show (0 : Int32) = nI 0 from rfl, e1, eM_lays_2 k, if_neg (by decide), show (0 : Int32) = nI 0 from rfl, e2, eM_lays_17 k, if_neg (by decide)]
  have e48 : σ1 48 = σ 48 := f1 48 (by decide)
  have fr : Fr [33, 34] σ σ2 := (f1.mono (by decide)).tr (f2.mono (by decide))
  refine ⟨σ2, rfl, ⟨?_, fun i hi => ?_⟩, fr⟩
  · rw [fr 30 (by decide), g2, g2, g2, g2, if_pos (by omega), if_pos (by omega), if_pos (by omega), if_pos (by omega), e48]
    exact ⟨h1, h2, hk.2⟩
  · rw [fr 31 (by decide), fr 32 (by decide), f2 33 (by decide), g1, g1, g1, if_pos (by omega), if_pos (by omega), if_pos (by omega)]
    exact ⟨(h3 i hi).1, (h3 i hi).2, hk.1 i hi⟩
theorem s_image {a : Ab} (hw : WfA a) : Step nF_image nM_image [] a := by
  have ho := hw.1
  have hN := ho.n
  refine ⟨(nI (sN (aT a)), 0), ((aT a, aT a, true), a.2), ⟨ho, hw.2.1, fun _ => ⟨ho, hw.2.1, Nat.le_refl _, fun i _ => ⟨rfl, rfl⟩⟩, hw.2.2.2⟩, fun σ h => ?_, fun σ h => ?_⟩
  · obtain ⟨σ', e, r, f⟩ := c_becomes (k := 0) (Or.inr (Or.inl ⟨rfl, rfl⟩)) ho h.at.1
    have w : ∀ c, c < 18 → σ' c = σ c := fun c hc => f c (by unfold ws; simp only [List.mem_cons, List.not_mem_nil, or_false, not_or]; omega)
    have w1 : ∀ c, c < 18 → c ≠ 0 → su σ' 0 8 1 c = σ c := fun c hc h0 => (su_ne h0).trans (w c hc)
    rw [eF_image 0, e, bs]; (try dsimp only); rw [show su σ' 0 8 1 12 6 = nI (sN (aT a)) from by rw [w1 12 (by omega) (by omega)]; exact h.at.1.n]
    obtain ⟨⟨h1, h2⟩, h3, h4, h5, h6, h7, h8⟩ := h
    have f2 : Fr [0, 24, 25, 26, 27, 28, 29] σ (su σ' 0 8 1) := (f.mono (by decide)).su (by decide)
    refine ⟨_, rfl, ⟨⟨h1.fr f2 (by decide), h2.fr f2 (by decide) (by decide) (by decide)⟩, fun _ => r.fr (l := [0]) (Fr.rf.su (by decide)) (by decide), ?_, ?_, ?_, ?_, ?_⟩, f2.c (by decide)⟩
    · rw [w1 2 (by omega) (by omega)]; exact h4
    · rw [su_o (by decide), w 0 (by omega)]; exact h5
    · rw [su_e]; rfl
    · rw [w1 1 (by omega) (by omega)]; exact h7
    · rw [w1 9 (by omega) (by omega), w1 10 (by omega) (by omega), w1 11 (by omega) (by omega)]; exact h8
  · obtain ⟨σ1, e1, f1, g1⟩ := image_l1 (k := 0) 18 0 (su σ 30 11 1) rfl
    obtain ⟨σ2, e2, f2, g2⟩ := image_l2 (k := 0) 4 0 σ1 rfl
    have hr := h.at.1
    have f0 : Fr [30, 38] σ σ2 := (Fr.su (c := 30) (i := 11) (v := 1) Fr.rf (by decide)).tr ((f1.mono (by decide)).tr (f2.mono (by decide)))
    have e30 : σ2 30 = upd (σ 30) 11 1 := by rw [f2 30 (by decide), f1 30 (by decide), su_row]
    have n30 : σ2 30 0 = nI (sN (aT a)) := by rw [e30, upd_n (by decide)]; exact hr.n
    have l30 : σ2 30 10 = nI (sL (aT a)) := by rw [e30, upd_n (by decide)]; exact hr.L
    rw [eM_image 0, show (0 : Int32) = nI 0 from rfl, e1, eM_image_5 0, if_neg (by decide), show (0 : Int32) = nI 0 from rfl, e2, eM_image_20 0, if_neg (by decide), z0, z1]
    simp only [su_ne (show 30 ≠ 39 by decide), n30, l30]
    have f3 : Fr [30, 38, 39] σ (su (su σ2 39 0 (nI (sN (aT a)))) 39 1 (nI (sL (aT a)))) := ((f0.mono (by decide)).su (by decide)).su (by decide)
    have w : ∀ c, c ≠ 30 → c ≠ 38 → c ≠ 39 → (su (su σ2 39 0 (nI (sN (aT a)))) 39 1 (nI (sL (aT a)))) c = σ c := fun c a1 a2 a3 => f3 c (by simp only [List.mem_cons, List.not_mem_nil, or_false, not_or]; omega)
    have w30 : (su (su σ2 39 0 (nI (sN (aT a)))) 39 1 (nI (sL (aT a)))) 30 = upd (σ 30) 11 1 := by rw [su_ne (by decide), su_ne (by decide), e30]
    obtain ⟨⟨h1, h2⟩, h3, h4, h5, h6, h7, h8⟩ := h
    refine ⟨_, rfl, ⟨⟨?_, h2.fr f3 (by decide) (by decide)⟩, fun _ => ?_, ?_, ?_, ?_, ?_, ?_⟩, f3.m (by decide)⟩
    · refine ⟨?_, fun i hi => ?_⟩
      · rw [w30, w 34 (by decide) (by decide) (by decide), upd_n (by decide), upd_n (by decide)]
        exact h1.1
      · rw [w 31 (by decide) (by decide) (by decide), w 32 (by decide) (by decide) (by decide), w 33 (by decide) (by decide) (by decide)]
        exact h1.2 i hi
    · have e38 : (su (su σ2 39 0 (nI (sN (aT a)))) 39 1 (nI (sL (aT a)))) 38 = σ2 38 := by rw [su_ne (by decide), su_ne (by decide)]
      have e33 : su σ 30 11 1 33 = σ 33 := su_ne (by decide)
      have e34 : σ1 34 = σ 34 := by rw [f1 34 (by decide), su_ne (by decide)]
      unfold Img
      rw [e38]
      refine ⟨fun i hi => ?_, ?_, ?_, ?_, ?_, ?_, ?_⟩
      · have hi : i < sN (aT a) := hi
        rw [g2, g2, g2, if_neg (by omega), if_neg (by omega), if_neg (by omega), g1, g1, g1, if_pos (by omega), if_pos (by omega), if_pos (by omega), e33]
        exact ⟨hr.P hi, hr.D hi, hr.W hi⟩
      · rw [g2, if_pos (by omega), e34]; exact hr.O
      · rw [g2, if_pos (by omega), e34]; exact hr.B
      · rw [g2, if_pos (by omega), e34]; exact hr.F
      · rw [g2, if_pos (by omega), e34]; exact hr.H
      · rw [su_o (by decide), su_e]; rfl
      · rw [su_e]; rfl
    · rw [w30, upd_n (by decide)]; exact h4
    · rw [w30, upd_n (by decide)]; exact h5
    · rw [w30, upd_s]; rfl
    · rw [w 35 (by decide) (by decide) (by decide)]; exact h7
    · rw [w 40 (by decide) (by decide) (by decide), w 41 (by decide) (by decide) (by decide), w 42 (by decide) (by decide) (by decide)]; exact h8
end
section
theorem s_back {a : Ab} (hw : WfA a) : Step nF_back nM_back [] a := by
  cases hi : aI a with
  | false =>
    refine same hw (-3) (fun σ h => ?_) (fun σ h => ?_)
    · rw [eF_back 0, if_pos (show σ 0 8 = 0 from by rw [h.2.2.2.2.1, hi]; rfl)]
      exact ⟨σ, rfl, Fr.rf⟩
    · rw [eM_back 0, if_pos (show σ 30 11 = 0 from by rw [h.2.2.2.2.1, hi]; rfl)]
      exact ⟨σ, rfl, Fr.rf⟩
  | true =>
    obtain ⟨hok, hh, hn, hkk⟩ := hw.2.2.1 hi
    have hN := hok.n
    refine ⟨(nI (sN (aK a)), 0), ((aK a, aK a, true), a.2), ⟨hok, hh, fun _ => ⟨hok, hh, Nat.le_refl _, fun i _ => ⟨rfl, rfl⟩⟩, hw.2.2.2⟩, fun σ h => ?_, fun σ h => ?_⟩
    · have hk := h.2.1 hi
      obtain ⟨σ', e, r, f⟩ := c_becomes (k := 0) (Or.inr (Or.inr ⟨rfl, rfl⟩)) hok hk
      have w : ∀ c, c < 12 ∨ 17 < c → σ' c = σ c := fun c hc => f c (by unfold ws; simp only [List.mem_cons, List.not_mem_nil, or_false, not_or]; omega)
      rw [eF_back 0, if_neg (show ¬ σ 0 8 = 0 from by rw [h.2.2.2.2.1, hi]; exact n10), e, bs]; (try dsimp only); rw [r.n]
      obtain ⟨⟨h1, h2⟩, h3, h4, h5, h6, h7, h8⟩ := h
      refine ⟨σ', rfl, ⟨⟨r, h2.fr f (by decide) (by decide) (by decide)⟩, fun _ => hk.fr f (by decide), ?_, ?_, ?_, ?_, ?_⟩, f.c (by decide)⟩
      · rw [w 2 (by omega)]; exact h4
      · rw [w 0 (by omega)]; exact h5
      · rw [w 0 (by omega), h6, hi]; rfl
      · rw [w 1 (by omega)]; exact h7
      · rw [w 9 (by omega), w 10 (by omega), w 11 (by omega)]; exact h8
    · have hk := h.2.1 hi
      have hr := h.at.1
      obtain ⟨σ1, e1, f1, g1⟩ := back_l1 (k := 0) 18 0 σ rfl
      obtain ⟨σ2, e2, f2, g2⟩ := back_l2 (k := 0) 4 0 σ1 rfl
      have f0 : Fr [33, 34] σ σ2 := (f1.mono (by decide)).tr (f2.mono (by decide))
      have e38 : σ1 38 = σ 38 := f1 38 (by decide)
      have e39 : σ2 39 = σ 39 := f0 39 (by decide)
      have k0 : σ2 39 0 = nI (sN (aK a)) := by rw [e39]; exact hk.2.2.2.2.2.1
      have k1 : σ2 39 1 = nI (sL (aK a)) := by rw [e39]; exact hk.2.2.2.2.2.2
      rw [eM_back 0, if_neg (show ¬ σ 30 11 = 0 from by rw [h.2.2.2.2.1, hi]; exact n10), show (0 : Int32) = nI 0 from rfl, e1, eM_back_7 0, if_neg (by decide), show (0 : Int32) = nI 0 from rfl, e2, eM_back_22 0, if_neg (by decide), z0, z1]
      simp only [su_ne (show 39 ≠ 30 by decide), k0, k1]
      have f3 : Fr [30, 33, 34] σ (su (su σ2 30 0 (nI (sN (aK a)))) 30 10 (nI (sL (aK a)))) := ((f0.mono (by decide)).su (by decide)).su (by decide)
      have w : ∀ c, c ≠ 30 → c ≠ 33 → c ≠ 34 → (su (su σ2 30 0 (nI (sN (aK a)))) 30 10 (nI (sL (aK a)))) c = σ c := fun c a1 a2 a3 => f3 c (by simp only [List.mem_cons, List.not_mem_nil, or_false, not_or]; omega)
      have w30 : (su (su σ2 30 0 (nI (sN (aK a)))) 30 10 (nI (sL (aK a)))) 30 = upd (upd (σ 30) 0 (nI (sN (aK a)))) 10 (nI (sL (aK a))) := by rw [su_row, su_row, f0 30 (by decide)]
      obtain ⟨⟨h1, h2⟩, h3, h4, h5, h6, h7, h8⟩ := h
      refine ⟨_, by rw [w30, upd_n (by decide), upd_s], ⟨⟨⟨?_, fun i hi2 => ?_⟩, h2.fr f3 (by decide) (by decide)⟩, fun _ => ?_, ?_, ?_, ?_, ?_, ?_⟩, f3.m (by decide)⟩
      · rw [w30, su_ne (show 34 ≠ 30 by decide), su_ne (show 34 ≠ 30 by decide), g2, g2, g2, g2, if_pos (by omega), if_pos (by omega), if_pos (by omega), if_pos (by omega), e38]
        exact ⟨by rw [upd_n (by decide), upd_s]; rfl, by rw [upd_s]; rfl, hk.2.1, hk.2.2.1, hk.2.2.2.1, hk.2.2.2.2.1⟩
      · have hi2 : i < sN (aK a) := hi2
        obtain ⟨q1, q2⟩ := hkk i hi2
        rw [w 31 (by decide) (by decide) (by decide), w 32 (by decide) (by decide) (by decide), su_ne (show 33 ≠ 30 by decide), su_ne (show 33 ≠ 30 by decide), f2 33 (by decide), g1, g1, g1, if_pos (by omega), if_pos (by omega), if_pos (by omega)]
        exact ⟨(h1.K (by omega)).trans q1, (h1.M (by omega)).trans q2, hk.1 i hi2⟩
      · unfold Img
        rw [w 38 (by decide) (by decide) (by decide), w 39 (by decide) (by decide) (by decide)]
        exact hk
      · rw [w30, upd_n (by decide), upd_n (by decide)]; exact h4
      · rw [w30, upd_n (by decide), upd_n (by decide)]; exact h5
      · rw [w30, upd_n (by decide), upd_n (by decide), h6, hi]; rfl
      · rw [w 35 (by decide) (by decide) (by decide)]; exact h7
      · rw [w 40 (by decide) (by decide) (by decide), w 41 (by decide) (by decide) (by decide), w 42 (by decide) (by decide) (by decide)]; exact h8
/-! SHEETS -/
def setS (a : Ab) (so : Rw) (si : Nat → Nat) (ce : Nat → Rw) : Ab := (a.1, a.2.1, a.2.2.1, so, si, ce)
theorem WfA.sh {a : Ab} (h : WfA a) {so : Rw} {si : Nat → Nat} {ce : Nat → Rw} (h1 : ∀ s, s < 4 → (-1 ≤ (so s).toInt ∧ (so s).toInt ≤ 2) ∧ si s ≤ 40) : WfA (setS a so si ce) := ⟨h.1, h.2.1, h.2.2.1, h.2.2.2.1, h1⟩
theorem InvC.sh {σ σ' : Sto} {a : Ab} (h : InvC σ a) (hf : Fr [9, 10, 11] σ σ') {so : Rw} {si : Nat → Nat} {ce : Nat → Rw} (hr : RepH (σ' 10) (σ' 11) (σ' 9) (setS a so si ce)) : InvC σ' (setS a so si ce) := by
  obtain ⟨⟨h1, h2⟩, h3, h4, h5, h6, h7, h8⟩ := h
  have w : ∀ c, c < 9 → σ' c = σ c := fun c hc => hf c (by simp only [List.mem_cons, List.not_mem_nil, or_false, not_or]; omega)
  refine ⟨⟨h1.fr hf (by decide), h2.fr hf (by decide) (by decide) (by decide)⟩, fun hi => (h3 hi).fr hf (by decide), ?_, ?_, ?_, ?_, hr⟩
  · rw [w 2 (by omega)]; exact h4
  · rw [w 0 (by omega)]; exact h5
  · rw [w 0 (by omega)]; exact h6
  · rw [w 1 (by omega)]; exact h7
theorem InvM.sh {σ σ' : Sto} {a : Ab} (h : InvM σ a) (hf : Fr [40, 41, 42] σ σ') {so : Rw} {si : Nat → Nat} {ce : Nat → Rw} (hr : RepH (σ' 40) (σ' 41) (σ' 42) (setS a so si ce)) : InvM σ' (setS a so si ce) := by
  obtain ⟨⟨h1, h2⟩, h3, h4, h5, h6, h7, h8⟩ := h
  have w : ∀ c, c < 40 → σ' c = σ c := fun c hc => hf c (by simp only [List.mem_cons, List.not_mem_nil, or_false, not_or]; omega)
  refine ⟨⟨h1.fr hf (by decide), h2.fr hf (by decide) (by decide)⟩, fun hi => ?_, ?_, ?_, ?_, ?_, hr⟩
  · unfold Img
    rw [w 38 (by omega), w 39 (by omega)]
    exact h3 hi
  · rw [w 30 (by omega)]; exact h4
  · rw [w 30 (by omega)]; exact h5
  · rw [w 30 (by omega)]; exact h6
  · rw [w 35 (by omega)]; exact h7
theorem c_hasH {k : Nat} {σ : Sto} (x : Int32) : C nH_has k [.ref 8, .int x] σ = some (b2 (decide (0 ≤ x.toInt ∧ x.toInt ≤ 3)), 0, σ) := by
  have e0 : (0 : Int32).toInt = 0 := by decide
  have e4 : (4 : Int32).toInt = 4 := by decide
  rw [eH_has k]
  by_cases h1 : x < 0
  · rw [if_pos h1]
    rw [i_lt, e0] at h1
    rw [decide_eq_false (by omega)]
    rfl
  · rw [if_neg h1]
    rw [i_lt, e0] at h1
    by_cases h2 : x < 4
    · rw [if_pos h2]
      rw [i_lt, e4] at h2
      rw [decide_eq_true (by omega)]
      rfl
    · rw [if_neg h2]
      rw [i_lt, e4] at h2
      rw [decide_eq_false (by omega)]
      rfl
theorem nI_40 (s m : Nat) : nI s * 40 + nI m = nI (40 * s + m) := by
  show nI s * nI 40 + nI m = _
  rw [pk_mul, nI_add, Nat.mul_comm]
theorem nI_40' (s m : Nat) : 40 * nI s + nI m = nI (40 * s + m) := by
  show nI 40 * nI s + nI m = _
  rw [pk_mul, nI_add]
def updN (f : Nat → Nat) (s v : Nat) : Nat → Nat := fun j => if j = s then v else f j
def updC (f : Nat → Rw) (s : Nat) (v : Rw) : Nat → Rw := fun j => if j = s then v else f j
theorem c_renew {k : Nat} {σ : Sto} {s n : Nat} (hs : s < 4) (hn : n ≤ 40) (sort : Int32) : ∃ σ', C nH_renew k [.ref 8, .int (nI s), .int sort, .int (nI n)] σ = some (0, 0, σ') ∧ Fr [9, 10, 11] σ σ' ∧ σ' 10 = upd (σ 10) s sort ∧ σ' 11 = upd (σ 11) s (nI n) ∧
    ∀ j, σ' 9 j = if 40 * s ≤ j ∧ j < 40 * s + n then 0 else σ 9 j := by
  have L : ∀ d m σ, m + d = n → ∃ σ', R nH_renew k 12 [.ref 8, .int (nI s), .int sort, .int (nI n), .int (nI m)] [] σ = some (0, 0, σ') ∧ Fr [9] σ σ' ∧ ∀ j, σ' 9 j = if 40 * s + m ≤ j ∧ j < 40 * s + n then 0 else σ 9 j := by
    intro d
    induction d with
    | zero =>
      intro m σ hm
      rw [eH_renew_12 k, if_neg (nI_nlt (by omega) (by omega))]
      exact ⟨σ, rfl, Fr.rf, fun j => by rw [if_neg (by omega)]⟩
    | succ d ih =>
      intro m σ hm
      obtain ⟨σ', e, f, g⟩ := ih (m + 1) (su σ 9 (40 * s + m) 0) (by omega)
      rw [eH_renew_12 k, if_pos (nI_lt (by omega) (by omega)), nI_40, if_pos (ibn (by omega) (by decide)), ixn (by omega), nI_1]
      refine ⟨σ', e, (Fr.rf.su (by decide)).tr f, fun j => ?_⟩
      rw [g, su_row]
      by_cases hj : j = 40 * s + m
      · subst hj
        rw [if_neg (by omega), upd_s, if_pos (by omega)]
      · rw [upd_n hj]
        by_cases hj2 : 40 * s + (m + 1) ≤ j ∧ j < 40 * s + n
        · rw [if_pos hj2, if_pos (by omega)]
        · rw [if_neg hj2, if_neg (by omega)]
  have i4 : inb (nI s) 4 = true := ibn hs (by decide)
  obtain ⟨σ', e, f, g⟩ := L n 0 (su (su σ 10 s sort) 11 s (nI n)) (Nat.zero_add _)
  rw [eH_renew k, if_pos i4, if_pos i4, ixn (by omega)]
  refine ⟨σ', e, ((Fr.rf.su (by decide)).su (by decide)).tr (f.mono (by decide)), ?_, ?_, fun j => ?_⟩
  · rw [f 10 (by decide), su_ne (by decide), su_row]
  · rw [f 11 (by decide), su_row, su_ne (by decide)]
  · rw [g, su_ne (by decide), su_ne (by decide), Nat.add_zero]
theorem m_sheetL {k : Nat} {s : Nat} (hs : s < 4) {v2 v3 : Int32} : ∀ d m σ, m + d = 40 → ∃ σ', R nM_sheet k 42 [.ref 30, .int (nI s), .int v2, .int v3, .int (nI m)] [] σ = some (1, 0, σ') ∧ Fr [42] σ σ' ∧ ∀ j, σ' 42 j = if 40 * s + m ≤ j ∧ j < 40 * s + 40 then 0 else σ 42 j := by
  intro d
  induction d with
  | zero =>
    intro m σ hm
    rw [eM_sheet_42 k, if_neg (show ¬ nI m < 40 from nI_nlt (b := 40) (by omega) (by omega))]
    exact ⟨σ, rfl, Fr.rf, fun j => by rw [if_neg (by omega)]⟩
  | succ d ih =>
    intro m σ hm
    obtain ⟨σ', e, f, g⟩ := ih (m + 1) (su σ 42 (40 * s + m) 0) (by omega)
    rw [eM_sheet_42 k, if_pos (show nI m < 40 from nI_lt (b := 40) (by omega) (by omega)), nI_40', if_pos (ibn (by omega) (by decide)), ixn (by omega), nI_1]
    refine ⟨σ', e, (Fr.rf.su (by decide)).tr f, fun j => ?_⟩
    rw [g, su_row]
    by_cases hj : j = 40 * s + m
    · subst hj
      rw [if_neg (by omega), upd_s, if_pos (by omega)]
    · rw [upd_n hj]
      by_cases hj2 : 40 * s + (m + 1) ≤ j ∧ j < 40 * s + 40
      · rw [if_pos hj2, if_pos (by omega)]
      · rw [if_neg hj2, if_neg (by omega)]
/-- a sheet is new -/
def newS (a : Ab) (s : Nat) (sort : Int32) (n : Nat) : Ab := setS a (upd (aS a) s sort) (updN (aZ a) s n) (updC (aC a) s (fun _ => 0))
theorem RepH.new {so si ce so' si' ce' : Rw} {a : Ab} (h : RepH so si ce a) (hw : WfA a) {s n w : Nat} {sort : Int32} (hs : s < 4) (hn : n ≤ w) (hw40 : w ≤ 40) (h1 : so' = upd so s sort) (h2 : si' = upd si s (nI n)) (h3 : ∀ j, ce' j = if 40 * s ≤ j ∧ j < 40 * s + w then 0 else ce j) : RepH so' si' ce' (newS a s sort n) := by
  intro r hr
  have hz : aZ a r ≤ 40 := (hw.2.2.2.2 r hr).2
  show so' r = upd (aS a) s sort r ∧ (¬ upd (aS a) s sort r = -1 → si' r = nI (updN (aZ a) s n r) ∧ ∀ i, i < updN (aZ a) s n r → ce' (40 * r + i) = updC (aC a) s (fun _ => 0) r i)
  rw [h1, h2]
  unfold updN updC
  by_cases e : r = s
  · subst e
    rw [upd_s, upd_s, upd_s, if_pos rfl, if_pos rfl]
    refine ⟨rfl, fun _ => ⟨rfl, fun i hi => ?_⟩⟩
    rw [h3, if_pos (by omega)]
  · rw [upd_n e, upd_n e, upd_n e, if_neg e, if_neg e]
    refine ⟨(h r hr).1, fun hne => ⟨((h r hr).2 hne).1, fun i hi => ?_⟩⟩
    rw [h3, if_neg (by omega)]
    exact ((h r hr).2 hne).2 i hi
theorem WfA.new {a : Ab} (hw : WfA a) {s n : Nat} {sort : Int32} (hn : n ≤ 40) (h1 : -1 ≤ sort.toInt) (h2 : sort.toInt ≤ 2) : WfA (newS a s sort n) := by
  refine hw.sh fun r hr => ?_
  unfold updN
  by_cases e : r = s
  · subst e
    rw [upd_s, if_pos rfl]
    exact ⟨⟨h1, h2⟩, hn⟩
  · rw [upd_n e, if_neg e]
    exact hw.2.2.2.2 r hr
theorem s_sheet {a : Ab} (hw : WfA a) (x y z : Int32) : Step nF_sheet nM_sheet [.int x, .int y, .int z] a := by
  have e0 : (0 : Int32).toInt = 0 := by decide
  have e3 : (3 : Int32).toInt = 3 := by decide
  have em : (-1 : Int32).toInt = -1 := by decide
  have e2 : (2 : Int32).toInt = 2 := by decide
  have e40 : (40 : Int32).toInt = 40 := by decide
  by_cases hx : 0 ≤ x.toInt ∧ x.toInt ≤ 3
  · have q1 := in_t e0 e3 hx
    have p1 : b2 (decide (0 ≤ x.toInt ∧ x.toInt ≤ 3)) = 1 := b2_t hx
    by_cases hy : -1 ≤ y.toInt ∧ y.toInt ≤ 2
    · have q2 := in_t em e2 hy
      obtain ⟨s, hs, es⟩ := nI_in1 (x := x) (n := 4) (by omega) (by omega)
      subst es
      have i4 : inb (nI s) 4 = true := ibn hs (by decide)
      by_cases hm : y = -1
      · subst hm
        refine ⟨(1, 0), newS a s (-1) 0, hw.new (by omega) (by decide) (by decide), fun σ h => ?_, fun σ h => ?_⟩
        · obtain ⟨σ', e, f, g1, g2, g3⟩ := c_renew (k := 0) (σ := σ) hs (show 0 ≤ 40 by omega) (-1)
          rw [show nI 0 = 0 from rfl] at e
          rw [eF_sheet 0, c_hasH, p1, bs]; (try dsimp only); rw [if_neg n10, c_in, q2, bs]; (try dsimp only); rw [if_neg n10, if_pos rfl, e, bs]
          exact ⟨σ', rfl, h.sh f (h.2.2.2.2.2.2.new hw hs (Nat.le_refl _) (by omega) g1 g2 g3), f.c (by decide)⟩
        · obtain ⟨σ', e, f, g⟩ := m_sheetL (k := 0) hs (v2 := -1) (v3 := z) 40 0 (su (su σ 40 s (-1)) 41 s 0) rfl
          rw [eM_sheet 0, m_in, q1, bs]; (try dsimp only); rw [if_neg n10, m_in, q2, bs]; (try dsimp only); rw [if_neg n10, if_pos rfl, if_pos rfl, eM_sheet_25 0, if_pos i4, if_pos rfl, if_pos i4, ixn (by omega)]
          have fr : Fr [40, 41, 42] σ σ' := ((Fr.rf.su (by decide)).su (by decide)).tr (f.mono (by decide))
          refine ⟨σ', e, h.sh fr (h.2.2.2.2.2.2.new hw hs (show 0 ≤ 40 by omega) (Nat.le_refl _) ?_ ?_ fun j => ?_), fr.m (by decide)⟩
          · rw [f 40 (by decide), su_ne (by decide), su_row]
          · rw [f 41 (by decide), su_row, su_ne (by decide)]; rfl
          · rw [g, su_ne (by decide), su_ne (by decide), Nat.add_zero]
      · by_cases h40 : (40 : Int32) < z
        · refine same hw (-2) (fun σ h => ?_) (fun σ h => ?_)
          · rw [eF_sheet 0, c_hasH, p1, bs]; (try dsimp only); rw [if_neg n10, c_in, q2, bs]; (try dsimp only); rw [if_neg n10, if_neg hm, if_pos h40]
            exact ⟨σ, rfl, Fr.rf⟩
          · rw [eM_sheet 0, m_in, q1, bs]; (try dsimp only); rw [if_neg n10, m_in, q2, bs]; (try dsimp only); rw [if_neg n10, if_neg hm, if_pos h40]
            exact ⟨σ, rfl, Fr.rf⟩
        by_cases h0 : z < 0
        · refine same hw (-14) (fun σ h => ?_) (fun σ h => ?_)
          · rw [eF_sheet 0, c_hasH, p1, bs]; (try dsimp only); rw [if_neg n10, c_in, q2, bs]; (try dsimp only); rw [if_neg n10, if_neg hm, if_neg h40, if_pos h0]
            exact ⟨σ, rfl, Fr.rf⟩
          · rw [eM_sheet 0, m_in, q1, bs]; (try dsimp only); rw [if_neg n10, m_in, q2, bs]; (try dsimp only); rw [if_neg n10, if_neg hm, if_neg h40, if_neg hm, if_pos h0]
            exact ⟨σ, rfl, Fr.rf⟩
        · obtain ⟨n, hn, en⟩ := nI_in1 (x := z) (n := 41) (by omega) (by rw [i_lt, e40] at h40; rw [i_lt, e0] at h0; omega)
          subst en
          refine ⟨(1, 0), newS a s y n, hw.new (by omega) hy.1 hy.2, fun σ h => ?_, fun σ h => ?_⟩
          · obtain ⟨σ', e, f, g1, g2, g3⟩ := c_renew (k := 0) (σ := σ) hs (show n ≤ 40 by omega) y
            rw [eF_sheet 0, c_hasH, p1, bs]; (try dsimp only); rw [if_neg n10, c_in, q2, bs]; (try dsimp only); rw [if_neg n10, if_neg hm, if_neg h40, if_neg h0, e, bs]
            exact ⟨σ', rfl, h.sh f (h.2.2.2.2.2.2.new hw hs (Nat.le_refl _) (by omega) g1 g2 g3), f.c (by decide)⟩
          · obtain ⟨σ', e, f, g⟩ := m_sheetL (k := 0) hs (v2 := y) (v3 := nI n) 40 0 (su (su σ 40 s y) 41 s (nI n)) rfl
            rw [eM_sheet 0, m_in, q1, bs]; (try dsimp only); rw [if_neg n10, m_in, q2, bs]; (try dsimp only); rw [if_neg n10, if_neg hm, if_neg h40, if_neg hm, if_neg h0, eM_sheet_25 0, if_pos i4, if_neg hm, if_pos i4, ixn (show s < 2147483648 by omega)]
            have fr : Fr [40, 41, 42] σ σ' := ((Fr.rf.su (by decide)).su (by decide)).tr (f.mono (by decide))
            refine ⟨σ', e, h.sh fr (h.2.2.2.2.2.2.new hw hs (show n ≤ 40 by omega) (Nat.le_refl _) ?_ ?_ fun j => ?_), fr.m (by decide)⟩
            · rw [f 40 (by decide), su_ne (by decide), su_row]
            · rw [f 41 (by decide), su_row, su_ne (by decide)]
            · rw [g, su_ne (by decide), su_ne (by decide), Nat.add_zero]
    · have q2 := in_f em e2 hy
      refine same hw (-2) (fun σ h => ?_) (fun σ h => ?_)
      · rw [eF_sheet 0, c_hasH, p1, bs]; (try dsimp only); rw [if_neg n10, c_in, q2, bs]; (try dsimp only); rw [if_pos rfl]
        exact ⟨σ, rfl, Fr.rf⟩
      · rw [eM_sheet 0, m_in, q1, bs]; (try dsimp only); rw [if_neg n10, m_in, q2, bs]; (try dsimp only); rw [if_pos rfl]
        exact ⟨σ, rfl, Fr.rf⟩
  · have q1 := in_f e0 e3 hx
    have p1 : b2 (decide (0 ≤ x.toInt ∧ x.toInt ≤ 3)) = 0 := by rw [decide_eq_false hx]; rfl
    refine same hw (-2) (fun σ h => ?_) (fun σ h => ?_)
    · rw [eF_sheet 0, c_hasH, p1, bs]; (try dsimp only); rw [if_pos rfl]
      exact ⟨σ, rfl, Fr.rf⟩
    · rw [eM_sheet 0, m_in, q1, bs]; (try dsimp only); rw [if_pos rfl]
      exact ⟨σ, rfl, Fr.rf⟩
end
section
theorem lg_gt (x : Int64) (y : Int64) : (0 < lg_cmp x y) ↔ y.toInt < x.toInt := by
  unfold lg_cmp
  by_cases h : y < x
  · rw [if_pos h]
    rw [Int64.lt_iff_toInt_lt] at h
    exact ⟨fun _ => h, fun _ => (by decide)⟩
  · rw [if_neg h]
    rw [Int64.lt_iff_toInt_lt] at h
    by_cases h2 : x = y
    · rw [if_pos h2, h2]
      exact ⟨fun hh => absurd hh (by decide), fun hh => (by omega)⟩
    · rw [if_neg h2]
      exact ⟨fun hh => absurd hh (by decide), fun hh => (by omega)⟩
theorem l_add {a b : Int64} (h1 : -9223372036854775808 ≤ a.toInt + b.toInt) (h2 : a.toInt + b.toInt < 9223372036854775808) : (a + b).toInt = a.toInt + b.toInt := by
  rw [Int64.toInt_add, Int.bmod_eq_of_le (by omega) (by omega)]
theorem l_mul {a b : Int64} (h1 : -9223372036854775808 ≤ a.toInt * b.toInt) (h2 : a.toInt * b.toInt < 9223372036854775808) : (a * b).toInt = a.toInt * b.toInt := by
  rw [Int64.toInt_mul, Int.bmod_eq_of_le (by omega) (by omega)]
theorem nI_subN {n m : Nat} (h : m ≤ n) (hn : n < 2147483648) : nI n - nI m = nI (n - m) := by
  rw [i_eq, i_sub (by rw [nI_toInt (by omega), nI_toInt (by omega)]; omega) (by rw [nI_toInt (by omega), nI_toInt (by omega)]; omega), nI_toInt (by omega), nI_toInt (by omega), nI_toInt (by omega)]
  omega
theorem c_holds {k : Nat} {σ : Sto} {s z : Nat} (hs : s < 4) (hz : σ 11 s = nI z) (hz40 : z ≤ 40) {x : Int64} {n : Int32} (hx1 : -100000000000 ≤ x.toInt) (hx2 : x.toInt ≤ 100000000000) :
    C nH_holds k [.ref 8, .int (nI s), .long x, .int n] σ = some (b2 (decide (0 ≤ x.toInt ∧ x.toInt + n.toInt ≤ (z : Int))), 0, σ) := by
  have e0 : (0 : Int64).toInt = 0 := by decide
  have n1 := Int32.le_toInt n
  have n2 := Int32.toInt_lt n
  have es : (x + Int32.toInt64 n).toInt = x.toInt + n.toInt := by rw [l_add (by rw [Int32.toInt_toInt64]; omega) (by rw [Int32.toInt_toInt64]; omega), Int32.toInt_toInt64]
  have ez : (Int32.toInt64 (nI z)).toInt = (z : Int) := by rw [Int32.toInt_toInt64, nI_toInt (by omega)]
  rw [eH_holds k]
  by_cases h1 : lg_cmp x 0 < 0
  · rw [if_pos h1]
    rw [lg_lt, e0] at h1
    rw [decide_eq_false (by omega)]
    rfl
  · rw [if_neg h1, if_pos (ibn hs (by decide)), ixn (by omega), hz]
    rw [lg_lt, e0] at h1
    by_cases h2 : 0 < lg_cmp (x + Int32.toInt64 n) (Int32.toInt64 (nI z))
    · rw [if_pos h2]
      rw [lg_gt, es, ez] at h2
      rw [decide_eq_false (by omega)]
      rfl
    · rw [if_neg h2]
      rw [lg_gt, es, ez] at h2
      rw [decide_eq_true (by omega)]
      rfl
/-- what a sheet keeps of a number -/
def narS (so v : Int32) : Int32 := if so = 0 then (Int32.toInt8 v).toInt32 else if so = 1 then (Int32.toInt16 v).toInt32 else v
theorem c_write {k : Nat} {σ : Sto} {s i : Nat} (hs : s < 4) (hi : i < 40) (v : Int32) : C nH_write k [.ref 8, .int (nI s), .int (nI i), .int v] σ = some (0, 0, su σ 9 (40 * s + i) (narS (σ 10 s) v)) := by
  have i4 : inb (nI s) 4 = true := ibn hs (by decide)
  rw [eH_write k, if_pos i4, if_pos i4, ixn (show s < 2147483648 by omega), nI_40, if_pos (ibn (show 40 * s + i < 160 by omega) (by decide)), if_pos (ibn (show 40 * s + i < 160 by omega) (by decide)), if_pos (ibn (show 40 * s + i < 160 by omega) (by decide)), ixn (show 40 * s + i < 2147483648 by omega)]
  unfold narS
  by_cases h0 : σ 10 s = 0
  · rw [if_pos h0, if_pos h0]
  · rw [if_neg h0, if_neg h0]
    by_cases h1 : σ 10 s = 1
    · rw [if_pos h1, if_pos h1]
    · rw [if_neg h1, if_neg h1]
theorem RepH.put {so si ce : Rw} {a : Ab} (h : RepH so si ce a) (hw : WfA a) {s i : Nat} {w : Int32} (hs : s < 4) (hi : i < 40) : RepH so si (upd ce (40 * s + i) w) (setS a (aS a) (aZ a) (updC (aC a) s (upd (aC a s) i w))) := by
  intro r hr
  have hz : aZ a r ≤ 40 := (hw.2.2.2.2 r hr).2
  refine ⟨(h r hr).1, fun hne => ⟨((h r hr).2 hne).1, fun j hj => ?_⟩⟩
  have hj : j < aZ a r := hj
  show upd ce (40 * s + i) w (40 * r + j) = updC (aC a) s (upd (aC a s) i w) r j
  unfold updC
  by_cases e : r = s
  · subst e
    rw [if_pos rfl]
    by_cases ej : j = i
    · subst ej
      rw [upd_s, upd_s]
    · rw [upd_n (by omega), upd_n ej]
      exact ((h r hr).2 hne).2 j hj
  · rw [if_neg e, upd_n (by omega)]
    exact ((h r hr).2 hne).2 j hj
theorem s_cell {a : Ab} (hw : WfA a) (x y z : Int32) : Step nF_cell nM_cell [.int x, .int y, .int z] a := by
  have e0 : (0 : Int32).toInt = 0 := by decide
  have e3 : (3 : Int32).toInt = 3 := by decide
  by_cases hx : 0 ≤ x.toInt ∧ x.toInt ≤ 3
  · have q1 := in_t e0 e3 hx
    have p1 : b2 (decide (0 ≤ x.toInt ∧ x.toInt ≤ 3)) = 1 := b2_t hx
    obtain ⟨s, hs, es⟩ := nI_in1 (x := x) (n := 4) (by omega) (by omega)
    subst es
    have i4 : inb (nI s) 4 = true := ibn hs (by decide)
    have hz40 := (hw.2.2.2.2 s hs).2
    by_cases hm : aS a s = -1
    · refine same hw (-11) (fun σ h => ?_) (fun σ h => ?_)
      · rw [eF_cell 0, c_hasH, p1, bs]; (try dsimp only); rw [if_neg n10, if_pos i4, ixn (by omega), if_pos (show σ 10 s = -1 from (h.2.2.2.2.2.2 s hs).1.trans hm)]
        exact ⟨σ, rfl, Fr.rf⟩
      · rw [eM_cell 0, m_in, q1, bs]; (try dsimp only); rw [if_neg n10, if_pos i4, ixn (by omega), if_pos (show σ 40 s = -1 from (h.2.2.2.2.2.2 s hs).1.trans hm)]
        exact ⟨σ, rfl, Fr.rf⟩
    · have em1 := nI_m1 (n := aZ a s) (by omega)
      by_cases hy : 0 ≤ y.toInt ∧ y.toInt ≤ (aZ a s : Int) - 1
      · obtain ⟨i, hi, ei⟩ := nI_in1 (x := y) (n := aZ a s) (by omega) (by omega)
        subst ei
        have q2 := in_t (hi := nI (aZ a s) - 1) e0 em1 hy
        refine ⟨(1, 0), setS a (aS a) (aZ a) (updC (aC a) s (upd (aC a s) i (narS (aS a s) z))), hw.sh fun r hr => hw.2.2.2.2 r hr, fun σ h => ?_, fun σ h => ?_⟩
        · have g := (h.2.2.2.2.2.2 s hs).1
          rw [eF_cell 0, c_hasH, p1, bs]; (try dsimp only); rw [if_neg n10, if_pos i4, ixn (by omega), if_neg (show ¬ σ 10 s = -1 from fun e => hm (g.symm.trans e)), if_pos i4, ((h.2.2.2.2.2.2 s hs).2 hm).1, c_in, q2, bs]; (try dsimp only); rw [if_neg n10, c_write hs (by omega), bs]; (try dsimp only); rw [g]
          exact ⟨_, rfl, h.sh (Fr.rf.su (by decide)) (by rw [su_row, su_ne (by decide), su_ne (by decide)]; exact h.2.2.2.2.2.2.put hw hs (by omega)), FC.rf.su (by decide)⟩
        · have g : σ 40 s = aS a s := (h.2.2.2.2.2.2 s hs).1
          have fin : ∃ σ', some (1, 0, su σ 42 (40 * s + i) (narS (aS a s) z)) = some ((1 : Int32), (0 : Int64), σ') ∧ InvM σ' (setS a (aS a) (aZ a) (updC (aC a) s (upd (aC a s) i (narS (aS a s) z)))) ∧ FM σ σ' :=
            ⟨_, rfl, h.sh (Fr.rf.su (by decide)) (by rw [su_row, su_ne (by decide), su_ne (by decide)]; exact h.2.2.2.2.2.2.put hw hs (by omega)), FM.rf.su (by decide) (by decide)⟩
          rw [eM_cell 0, m_in, q1, bs]; (try dsimp only); rw [if_neg n10, if_pos i4, ixn (show s < 2147483648 by omega), if_neg (show ¬ σ 40 s = -1 from fun e => hm (g.symm.trans e)), if_pos i4, ((h.2.2.2.2.2.2 s hs).2 hm).1, m_in, q2, bs]; (try dsimp only); rw [if_neg n10, if_pos i4, if_pos i4, nI_40', if_pos (ibn (show 40 * s + i < 160 by omega) (by decide)), if_pos (ibn (show 40 * s + i < 160 by omega) (by decide)), if_pos (ibn (show 40 * s + i < 160 by omega) (by decide)), ixn (show 40 * s + i < 2147483648 by omega)]
          unfold narS at fin ⊢
          by_cases h0 : aS a s = 0
          · rw [if_pos (show σ 40 s = 0 from g.trans h0)]
            rw [if_pos h0] at fin ⊢
            exact fin
          · rw [if_neg (show ¬ σ 40 s = 0 from fun e => h0 (g.symm.trans e))]
            rw [if_neg h0] at fin ⊢
            by_cases h1 : aS a s = 1
            · rw [if_pos (show σ 40 s = 1 from g.trans h1)]
              rw [if_pos h1] at fin ⊢
              exact fin
            · rw [if_neg (show ¬ σ 40 s = 1 from fun e => h1 (g.symm.trans e))]
              rw [if_neg h1] at fin ⊢
              exact fin
      · have q2 := in_f (hi := nI (aZ a s) - 1) e0 em1 hy
        refine same hw (-12) (fun σ h => ?_) (fun σ h => ?_)
        · rw [eF_cell 0, c_hasH, p1, bs]; (try dsimp only); rw [if_neg n10, if_pos i4, ixn (by omega), if_neg (show ¬ σ 10 s = -1 from fun e => hm ((h.2.2.2.2.2.2 s hs).1.symm.trans e)), if_pos i4, ((h.2.2.2.2.2.2 s hs).2 hm).1, c_in, q2, bs]; (try dsimp only); rw [if_pos rfl]
          exact ⟨σ, rfl, Fr.rf⟩
        · rw [eM_cell 0, m_in, q1, bs]; (try dsimp only); rw [if_neg n10, if_pos i4, ixn (by omega), if_neg (show ¬ σ 40 s = -1 from fun e => hm ((h.2.2.2.2.2.2 s hs).1.symm.trans e)), if_pos i4, ((h.2.2.2.2.2.2 s hs).2 hm).1, m_in, q2, bs]; (try dsimp only); rw [if_pos rfl]
          exact ⟨σ, rfl, Fr.rf⟩
  · have q1 := in_f e0 e3 hx
    have p1 : b2 (decide (0 ≤ x.toInt ∧ x.toInt ≤ 3)) = 0 := by rw [decide_eq_false hx]; rfl
    refine same hw (-2) (fun σ h => ?_) (fun σ h => ?_)
    · rw [eF_cell 0, c_hasH, p1, bs]; (try dsimp only); rw [if_pos rfl]
      exact ⟨σ, rfl, Fr.rf⟩
    · rw [eM_cell 0, m_in, q1, bs]; (try dsimp only); rw [if_pos rfl]
      exact ⟨σ, rfl, Fr.rf⟩
theorem mod6 : ∀ j : Fin 12, nI j.1 - nI j.1 / 6 * 6 = nI (j.1 % 6) := by decide +kernel
theorem kind_same {k : Nat} {σ : Sto} (x y : Int32) : ∃ v, C nF_isOfKind k [.int x, .int y] σ = some (b2 v, 0, σ) ∧ (∀ k' σ', C nM_isUnder k' [.int x, .int y] σ' = some (b2 v, 0, σ')) ∧ (y = 6 → 0 ≤ x.toInt → x.toInt ≤ 5 → v = false) := by
  have h : ∃ v, (∀ k σ, C nF_isOfKind k [.int x, .int y] σ = some (b2 v, 0, σ)) ∧ (∀ k' σ', C nM_isUnder k' [.int x, .int y] σ' = some (b2 v, 0, σ')) ∧ (y = 6 → 0 ≤ x.toInt → x.toInt ≤ 5 → v = false) := by
    have e6 : (6 : Int32).toInt = 6 := by decide
    by_cases h0 : y = 0
    · exact ⟨true, fun k σ => by rw [eF_isOfKind k, if_pos h0]; rfl, fun k σ => by rw [eM_isUnder k, if_pos h0]; rfl, fun h => by rw [h] at h0; exact absurd h0 (by decide)⟩
    by_cases h1 : x = y
    · exact ⟨true, fun k σ => by rw [eF_isOfKind k, if_neg h0, if_pos h1]; rfl, fun k σ => by rw [eM_isUnder k, if_neg h0, if_pos h1]; rfl, fun h _ h5 => by rw [h1, h, e6] at h5; omega⟩
    by_cases h2 : y = 1
    · by_cases h3 : x = 3
      · exact ⟨true, fun k σ => by rw [eF_isOfKind k, if_neg h0, if_neg h1, if_pos h2, if_pos h3]; rfl, fun k σ => by rw [eM_isUnder k, if_neg h0, if_neg h1, if_pos h2, if_pos h3]; rfl, fun h => by rw [h] at h2; exact absurd h2 (by decide)⟩
      · have h4 : ¬ y = 2 := by rw [h2]; decide
        exact ⟨false, fun k σ => by rw [eF_isOfKind k, if_neg h0, if_neg h1, if_pos h2, if_neg h3, if_neg h4]; rfl, fun k σ => by rw [eM_isUnder k, if_neg h0, if_neg h1, if_pos h2, if_neg h3, if_neg h4]; rfl, fun _ _ _ => rfl⟩
    by_cases h3 : y = 2
    · by_cases h4 : x = 4
      · exact ⟨true, fun k σ => by rw [eF_isOfKind k, if_neg h0, if_neg h1, if_neg h2, if_pos h3, if_pos h4]; rfl, fun k σ => by rw [eM_isUnder k, if_neg h0, if_neg h1, if_neg h2, if_pos h3, if_pos h4]; rfl, fun h => by rw [h] at h3; exact absurd h3 (by decide)⟩
      · exact ⟨false, fun k σ => by rw [eF_isOfKind k, if_neg h0, if_neg h1, if_neg h2, if_pos h3, if_neg h4]; rfl, fun k σ => by rw [eM_isUnder k, if_neg h0, if_neg h1, if_neg h2, if_pos h3, if_neg h4]; rfl, fun _ _ _ => rfl⟩
    · exact ⟨false, fun k σ => by rw [eF_isOfKind k, if_neg h0, if_neg h1, if_neg h2, if_neg h3]; rfl, fun k σ => by rw [eM_isUnder k, if_neg h0, if_neg h1, if_neg h2, if_neg h3]; rfl, fun _ _ _ => rfl⟩
  obtain ⟨v, h1, h2, h3⟩ := h
  exact ⟨v, h1 k σ, h2, h3⟩
theorem s_taken {a : Ab} (hw : WfA a) (x y : Int32) : Step nF_taken nM_taken [.int x, .int y] a := by
  have ho := hw.1
  have hN := ho.n
  have e0 : (0 : Int32).toInt = 0 := by decide
  have e6 : (6 : Int32).toInt = 6 := by decide
  have e11 : (11 : Int32).toInt = 11 := by decide
  by_cases hy : 0 ≤ y.toInt ∧ y.toInt ≤ 6
  · have q1 := in_t e0 e6 hy
    by_cases hx : 0 ≤ x.toInt ∧ x.toInt ≤ 11
    · have q2 := in_t e0 e11 hx
      obtain ⟨j, hj, ej⟩ := nI_in1 (x := x) (n := 12) (by omega) (by omega)
      subst ej
      have em : nI j - nI j / 6 * 6 = nI (j % 6) := mod6 ⟨j, hj⟩
      have hone : isOneS (aT a) (nI (j % 6)) = decide (j % 6 < sN (aT a)) := by
        unfold isOneS
        rw [nI_toInt (by omega), decide_eq_decide]
        omega
      by_cases hp : j % 6 < sN (aT a)
      · have hp6 : j % 6 < 6 := by omega
        by_cases hj6 : j < 6
        · have ej6 : j % 6 = j := by omega
          rw [ej6] at hp em hone
          obtain ⟨v, kv1, kv2, kv3⟩ := kind_same (k := 0) (σ := fun _ _ => 0) (rK (aT a) j) y
          have kv1' : ∀ σ, C nF_isOfKind 0 [.int (rK (aT a) j), .int y] σ = some (b2 v, 0, σ) := fun σ => by
            obtain ⟨w, w1, w2, _⟩ := kind_same (k := 0) (σ := σ) (rK (aT a) j) y
            have e := (w2 0 σ).symm.trans (kv2 0 σ)
            have e1 : b2 w = b2 v := congrArg (fun r : Rs => r.1) (Option.some.inj e)
            rw [w1, e1]
          have hkb := (ho.p hp).1
          refine same hw (if v = true then nI j else -13) (fun σ h => ?_) (fun σ h => ?_)
          · rw [eF_taken 0, c_in, q1, bs]; (try dsimp only); rw [if_neg n10, c_in, q2, bs]; (try dsimp only); rw [if_neg n10, em, if_pos (show nI j < 6 from nI_lt (b := 6) hj6 (by omega)), c_has32 h12 h.at.1 ho.n, bs]; (try dsimp only); rw [hone, decide_eq_true hp, b2T, if_neg n10, if_pos (ibn hj6 (by omega)), ixn (by omega), show σ 13 j = _ from h.at.1.K hp, kv1' σ, bs]
            cases v
            · exact ⟨σ, rfl, Fr.rf⟩
            · exact ⟨σ, rfl, Fr.rf⟩
          · rw [eM_taken 0, m_in, q1, bs]; (try dsimp only); rw [if_neg n10, m_in, q2, bs]; (try dsimp only); rw [if_neg n10, em, if_pos (show nI j < σ 30 0 from by rw [h.at.1.n]; exact nI_lt hp (by omega)), if_pos (show nI j < 6 from nI_lt (b := 6) hj6 (by omega))]
            by_cases hy6 : y < 6
            · rw [if_pos hy6, if_pos (ibn hj6 (by omega)), ixn (by omega), h.at.1.K hp, kv2 0 σ, bs]
              cases v
              · exact ⟨σ, rfl, Fr.rf⟩
              · exact ⟨σ, rfl, Fr.rf⟩
            · have hy' : y = 6 := by
                rw [i_lt, e6] at hy6
                rw [i_eq, e6]
                omega
              rw [if_neg hy6, kv3 hy' hkb.1 hkb.2]
              exact ⟨σ, rfl, Fr.rf⟩
        · have hnl : ¬ nI j < 6 := nI_nlt (b := 6) (by omega) (by omega)
          by_cases hy6 : y = 6
          · refine same hw (rW (aT a) (j % 6)) (fun σ h => ?_) (fun σ h => ?_)
            · rw [eF_taken 0, c_in, q1, bs]; (try dsimp only); rw [if_neg n10, c_in, q2, bs]; (try dsimp only); rw [if_neg n10, em, if_neg hnl, c_has32 h12 h.at.1 ho.n, bs]; (try dsimp only); rw [hone, decide_eq_true hp, b2T, if_neg n10, if_pos hy6, if_pos (ibn hp6 (by omega)), ixn (by omega), show σ 17 (j % 6) = _ from h.at.1.W hp]
              exact ⟨σ, rfl, Fr.rf⟩
            · have e66 : nI j - 6 = nI (j % 6) := by
                rw [show (6 : Int32) = nI 6 from rfl, nI_subN (by omega) (by omega)]
                congr 1
                omega
              rw [eM_taken 0, m_in, q1, bs]; (try dsimp only); rw [if_neg n10, m_in, q2, bs]; (try dsimp only); rw [if_neg n10, em, if_pos (show nI (j % 6) < σ 30 0 from by rw [h.at.1.n]; exact nI_lt hp (by omega)), if_neg hnl, if_pos hy6, e66, i3, nI_2, if_pos (ibn (show 3 * (j % 6) + 2 < 18 by omega) (by decide)), ixn (by omega), h.at.1.W hp]
              exact ⟨σ, rfl, Fr.rf⟩
          · refine same hw (-13) (fun σ h => ?_) (fun σ h => ?_)
            · rw [eF_taken 0, c_in, q1, bs]; (try dsimp only); rw [if_neg n10, c_in, q2, bs]; (try dsimp only); rw [if_neg n10, em, if_neg hnl, c_has32 h12 h.at.1 ho.n, bs]; (try dsimp only); rw [hone, decide_eq_true hp, b2T, if_neg n10, if_neg hy6]
              exact ⟨σ, rfl, Fr.rf⟩
            · rw [eM_taken 0, m_in, q1, bs]; (try dsimp only); rw [if_neg n10, m_in, q2, bs]; (try dsimp only); rw [if_neg n10, em, if_pos (show nI (j % 6) < σ 30 0 from by rw [h.at.1.n]; exact nI_lt hp (by omega)), if_neg hnl, if_neg hy6]
              exact ⟨σ, rfl, Fr.rf⟩
      · refine same hw (-11) (fun σ h => ?_) (fun σ h => ?_)
        · rw [eF_taken 0, c_in, q1, bs]; (try dsimp only); rw [if_neg n10, c_in, q2, bs]; (try dsimp only); rw [if_neg n10, em]
          by_cases hj6 : nI j < 6
          · rw [if_pos hj6, c_has32 h12 h.at.1 ho.n, bs]; (try dsimp only); rw [hone, decide_eq_false hp, b2F, if_pos rfl]
            exact ⟨σ, rfl, Fr.rf⟩
          · rw [if_neg hj6, c_has32 h12 h.at.1 ho.n, bs]; (try dsimp only); rw [hone, decide_eq_false hp, b2F, if_pos rfl]
            exact ⟨σ, rfl, Fr.rf⟩
        · rw [eM_taken 0, m_in, q1, bs]; (try dsimp only); rw [if_neg n10, m_in, q2, bs]; (try dsimp only); rw [if_neg n10, em, if_neg (show ¬ nI (j % 6) < σ 30 0 from by rw [h.at.1.n]; exact nI_nlt (by omega) (by omega))]
          exact ⟨σ, rfl, Fr.rf⟩
    · have q2 := in_f e0 e11 hx
      refine same hw (-12) (fun σ h => ?_) (fun σ h => ?_)
      · rw [eF_taken 0, c_in, q1, bs]; (try dsimp only); rw [if_neg n10, c_in, q2, bs]; (try dsimp only); rw [if_pos rfl]
        exact ⟨σ, rfl, Fr.rf⟩
      · rw [eM_taken 0, m_in, q1, bs]; (try dsimp only); rw [if_neg n10, m_in, q2, bs]; (try dsimp only); rw [if_pos rfl]
        exact ⟨σ, rfl, Fr.rf⟩
  · have q1 := in_f e0 e6 hy
    refine same hw (-2) (fun σ h => ?_) (fun σ h => ?_)
    · rw [eF_taken 0, c_in, q1, bs]; (try dsimp only); rw [if_pos rfl]
      exact ⟨σ, rfl, Fr.rf⟩
    · rw [eM_taken 0, m_in, q1, bs]; (try dsimp only); rw [if_pos rfl]
      exact ⟨σ, rfl, Fr.rf⟩
end
section
/-! COPY -/
theorem RepH.cop {so si ce ce' : Rw} {a : Ab} (h : RepH so si ce a) (hw : WfA a) {s o i j n : Nat} (hs : s < 4) (hso : o < 4) (hne : ¬ aS a s = -1) (h1 : i + n ≤ aZ a s) (h2 : j + n ≤ aZ a o)
    (h3 : ∀ x, ce' x = if 40 * o + j ≤ x ∧ x < 40 * o + j + n then ce (40 * s + i + (x - (40 * o + j))) else ce x) : RepH so si ce' (setS a (aS a) (aZ a) (updC (aC a) o (fun x => if j ≤ x ∧ x < j + n then aC a s (i + (x - j)) else aC a o x))) := by
  intro r hr
  have hz : aZ a r ≤ 40 := (hw.2.2.2.2 r hr).2
  have hzo : aZ a o ≤ 40 := (hw.2.2.2.2 o hso).2
  refine ⟨(h r hr).1, fun hne2 => ⟨((h r hr).2 hne2).1, fun x hx => ?_⟩⟩
  have hx : x < aZ a r := hx
  show ce' (40 * r + x) = updC (aC a) o (fun x => if j ≤ x ∧ x < j + n then aC a s (i + (x - j)) else aC a o x) r x
  unfold updC
  rw [h3]
  by_cases e : r = o
  · subst e
    rw [if_pos rfl]
    by_cases hjx : j ≤ x ∧ x < j + n
    · rw [if_pos (show 40 * r + j ≤ 40 * r + x ∧ 40 * r + x < 40 * r + j + n by omega), if_pos hjx, show 40 * s + i + (40 * r + x - (40 * r + j)) = 40 * s + (i + (x - j)) by omega]
      exact ((h s hs).2 hne).2 _ (by omega)
    · rw [if_neg (show ¬ (40 * r + j ≤ 40 * r + x ∧ 40 * r + x < 40 * r + j + n) by omega), if_neg hjx]
      exact ((h r hr).2 hne2).2 x hx
  · rw [if_neg e, if_neg (show ¬ (40 * o + j ≤ 40 * r + x ∧ 40 * r + x < 40 * o + j + n) by omega)]
    exact ((h r hr).2 hne2).2 x hx
theorem m_copyUp {k : Nat} {x1 x2 x3 x4 : Int32} {n p q : Nat} (hpq : ¬ p < q) (hp : p + n ≤ 160) (hq : q + n ≤ 160) : ∀ d m σ u, m + d = n → ∃ σ', R nM_copy k 87 [.ref 30, .int x1, .int x2, .int x3, .int x4, .int (nI n), .int (nI p), .int (nI q), .int (nI m), u] [] σ = some (nI n, 0, σ') ∧ Fr [42] σ σ' ∧
    ∀ x, σ' 42 x = if q + m ≤ x ∧ x < q + n then σ 42 (p + (x - q)) else σ 42 x := by
  intro d
  induction d with
  | zero =>
    intro m σ u hm
    rw [eM_copy_87 k, if_neg (nI_nlt (by omega) (by omega))]
    exact ⟨σ, rfl, Fr.rf, fun x => by rw [if_neg (by omega)]⟩
  | succ d ih =>
    intro m σ u hm
    obtain ⟨σ', e, f, g⟩ := ih (m + 1) (su σ 42 (q + m) (σ 42 (p + m))) (.int (nI m)) (by omega)
    rw [eM_copy_87 k, if_pos (nI_lt (by omega) (by omega)), if_neg (nI_nlt (by omega) (by omega)), eM_copy_100 k, nI_add, nI_add, if_pos (ibn (by omega) (by decide)), if_pos (ibn (by omega) (by decide)), ixn (by omega), ixn (by omega), nI_1]
    refine ⟨σ', e, (Fr.rf.su (by decide)).tr f, fun x => ?_⟩
    rw [g, su_row]
    by_cases hx : x = q + m
    · subst hx
      rw [if_neg (by omega), upd_s, if_pos (by omega), show p + (q + m - q) = p + m by omega]
    · rw [upd_n hx]
      by_cases hx2 : q + (m + 1) ≤ x ∧ x < q + n
      · rw [if_pos hx2, if_pos (by omega), upd_n (by omega)]
      · rw [if_neg hx2, if_neg (by omega)]
theorem m_copyDn {k : Nat} {x1 x2 x3 x4 : Int32} {n p q : Nat} (hpq : p < q) (hp : p + n ≤ 160) (hq : q + n ≤ 160) : ∀ d m σ u, m + d = n → ∃ σ', R nM_copy k 87 [.ref 30, .int x1, .int x2, .int x3, .int x4, .int (nI n), .int (nI p), .int (nI q), .int (nI m), u] [] σ = some (nI n, 0, σ') ∧ Fr [42] σ σ' ∧
    ∀ x, σ' 42 x = if q ≤ x ∧ x < q + (n - m) then σ 42 (p + (x - q)) else σ 42 x := by
  intro d
  induction d with
  | zero =>
    intro m σ u hm
    rw [eM_copy_87 k, if_neg (nI_nlt (by omega) (by omega))]
    exact ⟨σ, rfl, Fr.rf, fun x => by rw [if_neg (by omega)]⟩
  | succ d ih =>
    intro m σ u hm
    obtain ⟨σ', e, f, g⟩ := ih (m + 1) (su σ 42 (q + (n - 1 - m)) (σ 42 (p + (n - 1 - m)))) (.int (nI (n - 1 - m))) (by omega)
    have en : nI n - 1 - nI m = nI (n - 1 - m) := by
      rw [show (1 : Int32) = nI 1 from rfl, nI_subN (by omega) (by omega), nI_subN (by omega) (by omega)]
    rw [eM_copy_87 k, if_pos (nI_lt (by omega) (by omega)), if_pos (nI_lt (by omega) (by omega)), en, eM_copy_100 k, nI_add, nI_add, if_pos (ibn (by omega) (by decide)), if_pos (ibn (by omega) (by decide)), ixn (by omega), ixn (by omega), nI_1]
    refine ⟨σ', e, (Fr.rf.su (by decide)).tr f, fun x => ?_⟩
    rw [g, su_row]
    by_cases hx : x = q + (n - 1 - m)
    · subst hx
      rw [if_neg (by omega), upd_s, if_pos (by omega), show p + (q + (n - 1 - m) - q) = p + (n - 1 - m) by omega]
    · rw [upd_n hx]
      by_cases hx2 : q ≤ x ∧ x < q + (n - (m + 1))
      · rw [if_pos hx2, if_pos (by omega), upd_n (by omega)]
      · rw [if_neg hx2, if_neg (by omega)]
theorem s_copy {a : Ab} (hw : WfA a) (x y z u v : Int32) : Step nF_copy nM_copy [.int x, .int y, .int z, .int u, .int v] a := by
  have e0 : (0 : Int32).toInt = 0 := by decide
  have e3 : (3 : Int32).toInt = 3 := by decide
  by_cases hx : 0 ≤ x.toInt ∧ x.toInt ≤ 3
  rotate_left
  · have q1 := in_f e0 e3 hx
    have p1 : b2 (decide (0 ≤ x.toInt ∧ x.toInt ≤ 3)) = 0 := by rw [decide_eq_false hx]; rfl
    refine same hw (-2) (fun σ h => ?_) (fun σ h => ?_)
    · rw [eF_copy 0, c_hasH, p1, bs]; (try dsimp only); rw [if_pos rfl]
      exact ⟨σ, rfl, Fr.rf⟩
    · rw [eM_copy 0, m_in, q1, bs]; (try dsimp only); rw [if_pos rfl, eM_copy_10 0]
      exact ⟨σ, rfl, Fr.rf⟩
  have q1 := in_t e0 e3 hx
  have p1 : b2 (decide (0 ≤ x.toInt ∧ x.toInt ≤ 3)) = 1 := b2_t hx
  by_cases hz : 0 ≤ z.toInt ∧ z.toInt ≤ 3
  rotate_left
  · have q2 := in_f e0 e3 hz
    have p2 : b2 (decide (0 ≤ z.toInt ∧ z.toInt ≤ 3)) = 0 := by rw [decide_eq_false hz]; rfl
    refine same hw (-2) (fun σ h => ?_) (fun σ h => ?_)
    · rw [eF_copy 0, c_hasH, p1, bs]; (try dsimp only); rw [if_neg n10, c_hasH, p2, bs]; (try dsimp only); rw [if_pos rfl]
      exact ⟨σ, rfl, Fr.rf⟩
    · rw [eM_copy 0, m_in, q1, bs]; (try dsimp only); rw [if_neg n10, m_in, q2, bs]; (try dsimp only); rw [if_pos rfl, eM_copy_10 0]
      exact ⟨σ, rfl, Fr.rf⟩
  have q2 := in_t e0 e3 hz
  have p2 : b2 (decide (0 ≤ z.toInt ∧ z.toInt ≤ 3)) = 1 := b2_t hz
  obtain ⟨s, hs, es⟩ := nI_in1 (x := x) (n := 4) (by omega) (by omega)
  obtain ⟨o, hso, eo⟩ := nI_in1 (x := z) (n := 4) (by omega) (by omega)
  subst es
  subst eo
  have i4 : inb (nI s) 4 = true := ibn hs (by decide)
  have o4 : inb (nI o) 4 = true := ibn hso (by decide)
  have hzs := (hw.2.2.2.2 s hs).2
  have hzo := (hw.2.2.2.2 o hso).2
  by_cases hm : aS a s = -1
  · refine same hw (-11) (fun σ h => ?_) (fun σ h => ?_)
    · rw [eF_copy 0, c_hasH, p1, bs]; (try dsimp only); rw [if_neg n10, c_hasH, p2, bs]; (try dsimp only); rw [if_neg n10, if_pos i4, ixn (show s < 2147483648 by omega), if_pos (show σ 10 s = -1 from (h.2.2.2.2.2.2 s hs).1.trans hm)]
      exact ⟨σ, rfl, Fr.rf⟩
    · rw [eM_copy 0, m_in, q1, bs]; (try dsimp only); rw [if_neg n10, m_in, q2, bs]; (try dsimp only); rw [if_neg n10, if_pos i4, ixn (show s < 2147483648 by omega), if_pos (show σ 40 s = -1 from (h.2.2.2.2.2.2 s hs).1.trans hm), eM_copy_24 0]
      exact ⟨σ, rfl, Fr.rf⟩
  by_cases hm2 : aS a o = -1
  · refine same hw (-11) (fun σ h => ?_) (fun σ h => ?_)
    · rw [eF_copy 0, c_hasH, p1, bs]; (try dsimp only); rw [if_neg n10, c_hasH, p2, bs]; (try dsimp only); rw [if_neg n10, if_pos i4, ixn (show s < 2147483648 by omega), if_neg (show ¬ σ 10 s = -1 from fun e => hm ((h.2.2.2.2.2.2 s hs).1.symm.trans e)), if_pos o4, ixn (show o < 2147483648 by omega), if_pos (show σ 10 o = -1 from (h.2.2.2.2.2.2 o hso).1.trans hm2)]
      exact ⟨σ, rfl, Fr.rf⟩
    · rw [eM_copy 0, m_in, q1, bs]; (try dsimp only); rw [if_neg n10, m_in, q2, bs]; (try dsimp only); rw [if_neg n10, if_pos i4, ixn (show s < 2147483648 by omega), if_neg (show ¬ σ 40 s = -1 from fun e => hm ((h.2.2.2.2.2.2 s hs).1.symm.trans e)), if_pos o4, ixn (show o < 2147483648 by omega), if_pos (show σ 40 o = -1 from (h.2.2.2.2.2.2 o hso).1.trans hm2), eM_copy_24 0]
      exact ⟨σ, rfl, Fr.rf⟩
  by_cases hso2 : aS a s = aS a o
  rotate_left
  · refine same hw (-13) (fun σ h => ?_) (fun σ h => ?_)
    · rw [eF_copy 0, c_hasH, p1, bs]; (try dsimp only); rw [if_neg n10, c_hasH, p2, bs]; (try dsimp only); rw [if_neg n10, if_pos i4, ixn (show s < 2147483648 by omega), if_neg (show ¬ σ 10 s = -1 from fun e => hm ((h.2.2.2.2.2.2 s hs).1.symm.trans e)), if_pos o4, ixn (show o < 2147483648 by omega), if_neg (show ¬ σ 10 o = -1 from fun e => hm2 ((h.2.2.2.2.2.2 o hso).1.symm.trans e)), if_pos i4, if_pos o4,
        if_neg (show ¬ σ 10 s = σ 10 o from fun e => hso2 ((h.2.2.2.2.2.2 s hs).1.symm.trans (e.trans (h.2.2.2.2.2.2 o hso).1)))]
      exact ⟨σ, rfl, Fr.rf⟩
    · rw [eM_copy 0, m_in, q1, bs]; (try dsimp only); rw [if_neg n10, m_in, q2, bs]; (try dsimp only); rw [if_neg n10, if_pos i4, ixn (show s < 2147483648 by omega), if_neg (show ¬ σ 40 s = -1 from fun e => hm ((h.2.2.2.2.2.2 s hs).1.symm.trans e)), if_pos o4, ixn (show o < 2147483648 by omega), if_neg (show ¬ σ 40 o = -1 from fun e => hm2 ((h.2.2.2.2.2.2 o hso).1.symm.trans e)), if_pos i4, if_pos o4,
        if_neg (show ¬ σ 40 s = σ 40 o from fun e => hso2 ((h.2.2.2.2.2.2 s hs).1.symm.trans (e.trans (h.2.2.2.2.2.2 o hso).1)))]
      exact ⟨σ, rfl, Fr.rf⟩
  have u1 := Int32.le_toInt u
  have u2 := Int32.toInt_lt u
  have y1 := Int32.le_toInt y
  have y2 := Int32.toInt_lt y
  have tz : (nI (aZ a s)).toInt = (aZ a s : Int) := nI_toInt (by omega)
  have to' : (nI (aZ a o)).toInt = (aZ a o : Int) := nI_toInt (by omega)
  by_cases hc : 0 ≤ v.toInt ∧ (0 ≤ y.toInt ∧ y.toInt + v.toInt ≤ (aZ a s : Int)) ∧ (0 ≤ u.toInt ∧ u.toInt + v.toInt ≤ (aZ a o : Int))
  · obtain ⟨i, hi, ei⟩ := nI_in1 (x := y) (n := 41) (by omega) (by omega)
    obtain ⟨j, hj, ej⟩ := nI_in1 (x := u) (n := 41) (by omega) (by omega)
    obtain ⟨n, hn, en⟩ := nI_in1 (x := v) (n := 41) (by omega) (by omega)
    subst ei
    subst ej
    subst en
    rw [nI_toInt (by omega), nI_toInt (by omega), nI_toInt (by omega)] at hc
    have h1 : i + n ≤ aZ a s := by omega
    have h2 : j + n ≤ aZ a o := by omega
    refine ⟨(nI n, 0), setS a (aS a) (aZ a) (updC (aC a) o (fun x => if j ≤ x ∧ x < j + n then aC a s (i + (x - j)) else aC a o x)), hw.sh fun r hr => hw.2.2.2.2 r hr, fun σ h => ?_, fun σ h => ?_⟩
    · have g1 := c_holds (k := 0) (σ := σ) hs ((h.2.2.2.2.2.2 s hs).2 hm).1 hzs (x := Int32.toInt64 (nI i)) (n := nI n) (by rw [Int32.toInt_toInt64, nI_toInt (by omega)]; omega) (by rw [Int32.toInt_toInt64, nI_toInt (by omega)]; omega)
      have g2 := c_holds (k := 0) (σ := σ) hso ((h.2.2.2.2.2.2 o hso).2 hm2).1 hzo (x := Int32.toInt64 (nI j)) (n := nI n) (by rw [Int32.toInt_toInt64, nI_toInt (by omega)]; omega) (by rw [Int32.toInt_toInt64, nI_toInt (by omega)]; omega)
      rw [Int32.toInt_toInt64, nI_toInt (show i < 2 ^ 31 by omega), nI_toInt (show n < 2 ^ 31 by omega), decide_eq_true (by omega), b2T] at g1
      rw [Int32.toInt_toInt64, nI_toInt (show j < 2 ^ 31 by omega), nI_toInt (show n < 2 ^ 31 by omega), decide_eq_true (by omega), b2T] at g2
      rw [eF_copy 0, c_hasH, p1, bs]; (try dsimp only); rw [if_neg n10, c_hasH, p2, bs]; (try dsimp only); rw [if_neg n10, if_pos i4, ixn (show s < 2147483648 by omega), if_neg (show ¬ σ 10 s = -1 from fun e => hm ((h.2.2.2.2.2.2 s hs).1.symm.trans e)), if_pos o4, ixn (show o < 2147483648 by omega), if_neg (show ¬ σ 10 o = -1 from fun e => hm2 ((h.2.2.2.2.2.2 o hso).1.symm.trans e)), if_pos i4, if_pos o4,
        if_pos (show σ 10 s = σ 10 o from (h.2.2.2.2.2.2 s hs).1.trans (hso2.trans (h.2.2.2.2.2.2 o hso).1.symm)), if_neg (nI_pos (by omega)), g1, bs]; (try dsimp only); rw [if_neg n10, g2, bs]; (try dsimp only); rw [if_neg n10, eH_carry 0, nI_40, nI_40, nI_toInt (show 40 * s + i < 2 ^ 31 by omega), nI_toInt (show 40 * o + j < 2 ^ 31 by omega), nI_toInt (show n < 2 ^ 31 by omega), if_pos (by omega), bs]
      have ec : cpy σ 9 9 (nI (40 * s + i)) (nI (40 * o + j)) (nI n) = fun c' => if c' = 9 then va_cpy (σ 9) (σ 9) (40 * s + i) (40 * o + j) n else σ c' := by
        unfold cpy
        rw [ixn (by omega), ixn (by omega), ixn (by omega)]
      have f : Fr [9] σ (cpy σ 9 9 (nI (40 * s + i)) (nI (40 * o + j)) (nI n)) := fun c hc2 => by
        rw [ec]
        exact if_neg (fun e => hc2 (by rw [e]; decide))
      refine ⟨_, rfl, h.sh (f.mono (by decide)) ?_, f.c (by decide)⟩
      rw [f 10 (by decide), f 11 (by decide)]
      refine h.2.2.2.2.2.2.cop hw hs hso hm h1 h2 fun r => ?_
      rw [ec]
      rfl
    · rw [eM_copy 0, m_in, q1, bs]; (try dsimp only); rw [if_neg n10, m_in, q2, bs]; (try dsimp only); rw [if_neg n10, if_pos i4, ixn (show s < 2147483648 by omega), if_neg (show ¬ σ 40 s = -1 from fun e => hm ((h.2.2.2.2.2.2 s hs).1.symm.trans e)), if_pos o4, ixn (show o < 2147483648 by omega), if_neg (show ¬ σ 40 o = -1 from fun e => hm2 ((h.2.2.2.2.2.2 o hso).1.symm.trans e)), if_pos i4, if_pos o4,
        if_pos (show σ 40 s = σ 40 o from (h.2.2.2.2.2.2 s hs).1.trans (hso2.trans (h.2.2.2.2.2.2 o hso).1.symm)), if_neg (nI_pos (by omega)), if_neg (nI_pos (by omega)), if_neg (nI_pos (by omega)), if_pos i4,
        if_neg (show ¬ σ 41 s < nI i from by rw [((h.2.2.2.2.2.2 s hs).2 hm).1]; exact nI_nlt (by omega) (by omega)), if_pos o4,
        if_neg (show ¬ σ 41 o < nI j from by rw [((h.2.2.2.2.2.2 o hso).2 hm2).1]; exact nI_nlt (by omega) (by omega)), if_pos i4,
        if_neg (show ¬ σ 41 s - nI i < nI n from by rw [((h.2.2.2.2.2.2 s hs).2 hm).1, nI_subN (by omega) (by omega)]; exact nI_nlt (by omega) (by omega)), if_pos o4,
        if_neg (show ¬ σ 41 o - nI j < nI n from by rw [((h.2.2.2.2.2.2 o hso).2 hm2).1, nI_subN (by omega) (by omega)]; exact nI_nlt (by omega) (by omega)), nI_40', nI_40']
      by_cases hpq : 40 * s + i < 40 * o + j
      · obtain ⟨σ', e, f, g⟩ := m_copyDn (k := 0) (x1 := nI s) (x2 := nI i) (x3 := nI o) (x4 := nI j) (n := n) hpq (by omega) (by omega) n 0 σ .null (Nat.zero_add _)
        refine ⟨σ', e, h.sh (f.mono (by decide)) ?_, f.m (by decide)⟩
        rw [f 40 (by decide), f 41 (by decide)]
        exact h.2.2.2.2.2.2.cop hw hs hso hm h1 h2 g
      · obtain ⟨σ', e, f, g⟩ := m_copyUp (k := 0) (x1 := nI s) (x2 := nI i) (x3 := nI o) (x4 := nI j) (n := n) hpq (by omega) (by omega) n 0 σ .null (Nat.zero_add _)
        refine ⟨σ', e, h.sh (f.mono (by decide)) ?_, f.m (by decide)⟩
        rw [f 40 (by decide), f 41 (by decide)]
        exact h.2.2.2.2.2.2.cop hw hs hso hm h1 h2 g
  · refine same hw (-12) (fun σ h => ?_) (fun σ h => ?_)
    · have g1 := c_holds (k := 0) (σ := σ) hs ((h.2.2.2.2.2.2 s hs).2 hm).1 hzs (x := Int32.toInt64 y) (n := v) (by rw [Int32.toInt_toInt64]; omega) (by rw [Int32.toInt_toInt64]; omega)
      have g2 := c_holds (k := 0) (σ := σ) hso ((h.2.2.2.2.2.2 o hso).2 hm2).1 hzo (x := Int32.toInt64 u) (n := v) (by rw [Int32.toInt_toInt64]; omega) (by rw [Int32.toInt_toInt64]; omega)
      rw [Int32.toInt_toInt64] at g1 g2
      rw [eF_copy 0, c_hasH, p1, bs]; (try dsimp only); rw [if_neg n10, c_hasH, p2, bs]; (try dsimp only); rw [if_neg n10, if_pos i4, ixn (show s < 2147483648 by omega), if_neg (show ¬ σ 10 s = -1 from fun e => hm ((h.2.2.2.2.2.2 s hs).1.symm.trans e)), if_pos o4, ixn (show o < 2147483648 by omega), if_neg (show ¬ σ 10 o = -1 from fun e => hm2 ((h.2.2.2.2.2.2 o hso).1.symm.trans e)), if_pos i4, if_pos o4,
        if_pos (show σ 10 s = σ 10 o from (h.2.2.2.2.2.2 s hs).1.trans (hso2.trans (h.2.2.2.2.2.2 o hso).1.symm))]
      by_cases hv : v < 0
      · rw [if_pos hv]
        exact ⟨σ, rfl, Fr.rf⟩
      · rw [if_neg hv, g1, bs]
        rw [i_lt, e0] at hv
        by_cases hA : 0 ≤ y.toInt ∧ y.toInt + v.toInt ≤ (aZ a s : Int)
        · rw [decide_eq_true hA, b2T, if_neg n10, g2, bs]; (try dsimp only); rw [decide_eq_false (by omega), b2F, if_pos rfl]
          exact ⟨σ, rfl, Fr.rf⟩
        · rw [decide_eq_false hA, b2F, if_pos rfl]
          exact ⟨σ, rfl, Fr.rf⟩
    · rw [eM_copy 0, m_in, q1, bs]; (try dsimp only); rw [if_neg n10, m_in, q2, bs]; (try dsimp only); rw [if_neg n10, if_pos i4, ixn (show s < 2147483648 by omega), if_neg (show ¬ σ 40 s = -1 from fun e => hm ((h.2.2.2.2.2.2 s hs).1.symm.trans e)), if_pos o4, ixn (show o < 2147483648 by omega), if_neg (show ¬ σ 40 o = -1 from fun e => hm2 ((h.2.2.2.2.2.2 o hso).1.symm.trans e)), if_pos i4, if_pos o4,
        if_pos (show σ 40 s = σ 40 o from (h.2.2.2.2.2.2 s hs).1.trans (hso2.trans (h.2.2.2.2.2.2 o hso).1.symm))]
      have out : ∃ σ', R nM_copy 0 71 [.ref 30, .int (nI s), .int y, .int (nI o), .int u, .int v, .null, .null, .null, .null] [] σ = some (-12, 0, σ') ∧ Fr [46, 47] σ σ' := ⟨σ, eM_copy_71 0 _ _ _ _ _ σ, Fr.rf⟩
      by_cases hv : v < 0
      · rw [if_pos hv]; exact out
      by_cases hy : y < 0
      · rw [if_neg hv, if_pos hy]; exact out
      by_cases hu : u < 0
      · rw [if_neg hv, if_neg hy, if_pos hu]; exact out
      have gs : σ 41 s = nI (aZ a s) := ((h.2.2.2.2.2.2 s hs).2 hm).1
      have go : σ 41 o = nI (aZ a o) := ((h.2.2.2.2.2.2 o hso).2 hm2).1
      by_cases h1 : σ 41 s < y
      · rw [if_neg hv, if_neg hy, if_neg hu, if_pos i4, if_pos h1]; exact out
      by_cases h2 : σ 41 o < u
      · rw [if_neg hv, if_neg hy, if_neg hu, if_pos i4, if_neg h1, if_pos o4, if_pos h2]; exact out
      by_cases h3 : σ 41 s - y < v
      · rw [if_neg hv, if_neg hy, if_neg hu, if_pos i4, if_neg h1, if_pos o4, if_neg h2, if_pos i4, if_pos h3]; exact out
      by_cases h4 : σ 41 o - u < v
      · rw [if_neg hv, if_neg hy, if_neg hu, if_pos i4, if_neg h1, if_pos o4, if_neg h2, if_pos i4, if_neg h3, if_pos o4, if_pos h4]; exact out
      · exfalso
        rw [gs] at h1 h3
        rw [go] at h2 h4
        rw [i_lt, e0] at hv hy hu
        rw [i_lt, tz] at h1
        rw [i_lt, to'] at h2
        rw [i_lt, i_sub (by omega) (by omega), tz] at h3
        rw [i_lt, i_sub (by omega) (by omega), to'] at h4
        omega
end
