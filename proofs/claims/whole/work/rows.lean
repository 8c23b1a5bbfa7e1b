section
-- ===== PART A: goes FIRST, ahead of the names: the tables' words, and 'selects' of the private methods out of them =====
/-- a private method of a class that the tables say can be made, by its rows of tables_1 -/
def lw_okq (q : MethodName × Nat) : Prop := (q.1.cls ≠ "java/lang/invoke/MethodHandle" ∧ q.1.cls ≠ "java/lang/invoke/VarHandle") ∧ Cond.instantiable q.1.cls q.2 ∈ tables_1 ∧ Cond.privateMethod q.1 ∈ tables_1 ∧ Cond.instanceMethod q.1 ∈ tables_1
theorem lw_p0 : lw_okq (⟨"FerryForAlone", "tapeOne", "(I)V"⟩, 9) := ⟨⟨by decide +kernel, by decide +kernel⟩, List.mem_of_getElem? (i := 15) (by decide +kernel), List.mem_of_getElem? (i := 269) (by decide +kernel), List.mem_of_getElem? (i := 270) (by decide +kernel)⟩
theorem lw_p1 : lw_okq (⟨"FerryForAlone$Reader", "take", "()V"⟩, 9) := ⟨⟨by decide +kernel, by decide +kernel⟩, List.mem_of_getElem? (i := 51) (by decide +kernel), List.mem_of_getElem? (i := 282) (by decide +kernel), List.mem_of_getElem? (i := 283) (by decide +kernel)⟩
theorem lw_p2 : lw_okq (⟨"FerryForAlone$Reader", "takeWord", "()V"⟩, 9) := ⟨⟨by decide +kernel, by decide +kernel⟩, List.mem_of_getElem? (i := 51) (by decide +kernel), List.mem_of_getElem? (i := 289) (by decide +kernel), List.mem_of_getElem? (i := 290) (by decide +kernel)⟩
theorem lw_p3 : lw_okq (⟨"FerryForAlone$Reader", "isWord", "(Ljava/lang/String;)Z"⟩, 9) := ⟨⟨by decide +kernel, by decide +kernel⟩, List.mem_of_getElem? (i := 51) (by decide +kernel), List.mem_of_getElem? (i := 294) (by decide +kernel), List.mem_of_getElem? (i := 295) (by decide +kernel)⟩
theorem lw_p4 : lw_okq (⟨"FerryForAlone$Reader", "takeNumber", "()V"⟩, 9) := ⟨⟨by decide +kernel, by decide +kernel⟩, List.mem_of_getElem? (i := 51) (by decide +kernel), List.mem_of_getElem? (i := 360) (by decide +kernel), List.mem_of_getElem? (i := 361) (by decide +kernel)⟩
theorem lw_p5 : lw_okq (⟨"FerryForAlone$Reader", "expect", "(I)V"⟩, 9) := ⟨⟨by decide +kernel, by decide +kernel⟩, List.mem_of_getElem? (i := 51) (by decide +kernel), List.mem_of_getElem? (i := 367) (by decide +kernel), List.mem_of_getElem? (i := 368) (by decide +kernel)⟩
theorem lw_p6 : lw_okq (⟨"FerryForAlone$Reader", "fail", "()V"⟩, 9) := ⟨⟨by decide +kernel, by decide +kernel⟩, List.mem_of_getElem? (i := 51) (by decide +kernel), List.mem_of_getElem? (i := 371) (by decide +kernel), List.mem_of_getElem? (i := 372) (by decide +kernel)⟩
theorem lw_p7 : lw_okq (⟨"FerryForAlone$Reader", "either", "(I)V"⟩, 9) := ⟨⟨by decide +kernel, by decide +kernel⟩, List.mem_of_getElem? (i := 51) (by decide +kernel), List.mem_of_getElem? (i := 375) (by decide +kernel), List.mem_of_getElem? (i := 376) (by decide +kernel)⟩
theorem lw_p8 : lw_okq (⟨"FerryForAlone$Reader", "both", "(I)V"⟩, 9) := ⟨⟨by decide +kernel, by decide +kernel⟩, List.mem_of_getElem? (i := 51) (by decide +kernel), List.mem_of_getElem? (i := 379) (by decide +kernel), List.mem_of_getElem? (i := 380) (by decide +kernel)⟩
theorem lw_p9 : lw_okq (⟨"FerryForAlone$Reader", "negation", "(I)V"⟩, 9) := ⟨⟨by decide +kernel, by decide +kernel⟩, List.mem_of_getElem? (i := 51) (by decide +kernel), List.mem_of_getElem? (i := 383) (by decide +kernel), List.mem_of_getElem? (i := 384) (by decide +kernel)⟩
theorem lw_p10 : lw_okq (⟨"FerryForAlone$Reader", "comparison", "(I)V"⟩, 9) := ⟨⟨by decide +kernel, by decide +kernel⟩, List.mem_of_getElem? (i := 51) (by decide +kernel), List.mem_of_getElem? (i := 387) (by decide +kernel), List.mem_of_getElem? (i := 388) (by decide +kernel)⟩
theorem lw_p11 : lw_okq (⟨"FerryForAlone$Reader", "sum", "(I)V"⟩, 9) := ⟨⟨by decide +kernel, by decide +kernel⟩, List.mem_of_getElem? (i := 51) (by decide +kernel), List.mem_of_getElem? (i := 391) (by decide +kernel), List.mem_of_getElem? (i := 392) (by decide +kernel)⟩
theorem lw_p12 : lw_okq (⟨"FerryForAlone$Reader", "term", "(I)V"⟩, 9) := ⟨⟨by decide +kernel, by decide +kernel⟩, List.mem_of_getElem? (i := 51) (by decide +kernel), List.mem_of_getElem? (i := 395) (by decide +kernel), List.mem_of_getElem? (i := 396) (by decide +kernel)⟩
theorem lw_p13 : lw_okq (⟨"FerryForAlone$Reader", "one", "(I)V"⟩, 9) := ⟨⟨by decide +kernel, by decide +kernel⟩, List.mem_of_getElem? (i := 51) (by decide +kernel), List.mem_of_getElem? (i := 399) (by decide +kernel), List.mem_of_getElem? (i := 400) (by decide +kernel)⟩
theorem lw_p14 : lw_okq (⟨"FerryForAlone$Reader", "write", "(I)V"⟩, 9) := ⟨⟨by decide +kernel, by decide +kernel⟩, List.mem_of_getElem? (i := 51) (by decide +kernel), List.mem_of_getElem? (i := 403) (by decide +kernel), List.mem_of_getElem? (i := 404) (by decide +kernel)⟩
theorem lw_p15 : lw_okq (⟨"FerryForAlone", "fetchedInThought", "(I)I"⟩, 9) := ⟨⟨by decide +kernel, by decide +kernel⟩, List.mem_of_getElem? (i := 15) (by decide +kernel), List.mem_of_getElem? (i := 496) (by decide +kernel), List.mem_of_getElem? (i := 497) (by decide +kernel)⟩
def lw_privs_1 : List (MethodName × Nat) := [(⟨"FerryForAlone", "tapeOne", "(I)V"⟩, 9), (⟨"FerryForAlone$Reader", "take", "()V"⟩, 9), (⟨"FerryForAlone$Reader", "takeWord", "()V"⟩, 9), (⟨"FerryForAlone$Reader", "isWord", "(Ljava/lang/String;)Z"⟩, 9), (⟨"FerryForAlone$Reader", "takeNumber", "()V"⟩, 9), (⟨"FerryForAlone$Reader", "expect", "(I)V"⟩, 9), (⟨"FerryForAlone$Reader", "fail", "()V"⟩, 9), (⟨"FerryForAlone$Reader", "either", "(I)V"⟩, 9), (⟨"FerryForAlone$Reader", "both", "(I)V"⟩, 9), (⟨"FerryForAlone$Reader", "negation", "(I)V"⟩, 9), (⟨"FerryForAlone$Reader", "comparison", "(I)V"⟩, 9), (⟨"FerryForAlone$Reader", "sum", "(I)V"⟩, 9), (⟨"FerryForAlone$Reader", "term", "(I)V"⟩, 9), (⟨"FerryForAlone$Reader", "one", "(I)V"⟩, 9), (⟨"FerryForAlone$Reader", "write", "(I)V"⟩, 9), (⟨"FerryForAlone", "fetchedInThought", "(I)I"⟩, 9)]
theorem lw_r1 : ∀ q ∈ lw_privs_1, lw_okq q := List.forall_mem_cons.mpr ⟨lw_p0, List.forall_mem_cons.mpr ⟨lw_p1, List.forall_mem_cons.mpr ⟨lw_p2, List.forall_mem_cons.mpr ⟨lw_p3, List.forall_mem_cons.mpr ⟨lw_p4, List.forall_mem_cons.mpr ⟨lw_p5, List.forall_mem_cons.mpr ⟨lw_p6, List.forall_mem_cons.mpr ⟨lw_p7, List.forall_mem_cons.mpr ⟨lw_p8, List.forall_mem_cons.mpr ⟨lw_p9, List.forall_mem_cons.mpr ⟨lw_p10, List.forall_mem_cons.mpr ⟨lw_p11, List.forall_mem_cons.mpr ⟨lw_p12, List.forall_mem_cons.mpr ⟨lw_p13, List.forall_mem_cons.mpr ⟨lw_p14, List.forall_mem_cons.mpr ⟨lw_p15, fun _ h => absurd h List.not_mem_nil⟩⟩⟩⟩⟩⟩⟩⟩⟩⟩⟩⟩⟩⟩⟩⟩
theorem lw_p16 : lw_okq (⟨"FerryForAlone", "hoursTillOver", "(II)I"⟩, 9) := ⟨⟨by decide +kernel, by decide +kernel⟩, List.mem_of_getElem? (i := 15) (by decide +kernel), List.mem_of_getElem? (i := 505) (by decide +kernel), List.mem_of_getElem? (i := 506) (by decide +kernel)⟩
theorem lw_p17 : lw_okq (⟨"FerryForAlone", "wouldBeAlone", "(II)Z"⟩, 9) := ⟨⟨by decide +kernel, by decide +kernel⟩, List.mem_of_getElem? (i := 15) (by decide +kernel), List.mem_of_getElem? (i := 513) (by decide +kernel), List.mem_of_getElem? (i := 514) (by decide +kernel)⟩
theorem lw_p18 : lw_okq (⟨"FerryForAlone", "othersAloneWithout", "(I)Z"⟩, 9) := ⟨⟨by decide +kernel, by decide +kernel⟩, List.mem_of_getElem? (i := 15) (by decide +kernel), List.mem_of_getElem? (i := 527) (by decide +kernel), List.mem_of_getElem? (i := 528) (by decide +kernel)⟩
theorem lw_p19 : lw_okq (⟨"FerryForAlone", "refusalToJudge", "(I)I"⟩, 9) := ⟨⟨by decide +kernel, by decide +kernel⟩, List.mem_of_getElem? (i := 15) (by decide +kernel), List.mem_of_getElem? (i := 552) (by decide +kernel), List.mem_of_getElem? (i := 553) (by decide +kernel)⟩
theorem lw_p20 : lw_okq (⟨"FerryForAlone", "firstOtherwise", "(I)I"⟩, 9) := ⟨⟨by decide +kernel, by decide +kernel⟩, List.mem_of_getElem? (i := 15) (by decide +kernel), List.mem_of_getElem? (i := 560) (by decide +kernel), List.mem_of_getElem? (i := 561) (by decide +kernel)⟩
theorem lw_p21 : lw_okq (⟨"FerryForAlone", "fetchedAmongGulls", "(I)I"⟩, 9) := ⟨⟨by decide +kernel, by decide +kernel⟩, List.mem_of_getElem? (i := 15) (by decide +kernel), List.mem_of_getElem? (i := 605) (by decide +kernel), List.mem_of_getElem? (i := 606) (by decide +kernel)⟩
theorem lw_p22 : lw_okq (⟨"FerryForAloneModel", "next", "()V"⟩, 32) := ⟨⟨by decide +kernel, by decide +kernel⟩, List.mem_of_getElem? (i := 663) (by decide +kernel), List.mem_of_getElem? (i := 673) (by decide +kernel), List.mem_of_getElem? (i := 674) (by decide +kernel)⟩
theorem lw_p23 : lw_okq (⟨"FerryForAloneModel", "wordFrom", "(II)I"⟩, 32) := ⟨⟨by decide +kernel, by decide +kernel⟩, List.mem_of_getElem? (i := 663) (by decide +kernel), List.mem_of_getElem? (i := 680) (by decide +kernel), List.mem_of_getElem? (i := 681) (by decide +kernel)⟩
theorem lw_p24 : lw_okq (⟨"FerryForAloneModel", "eRead", "()Z"⟩, 32) := ⟨⟨by decide +kernel, by decide +kernel⟩, List.mem_of_getElem? (i := 663) (by decide +kernel), List.mem_of_getElem? (i := 684) (by decide +kernel), List.mem_of_getElem? (i := 685) (by decide +kernel)⟩
theorem lw_p25 : lw_okq (⟨"FerryForAloneModel", "puts", "(I)V"⟩, 32) := ⟨⟨by decide +kernel, by decide +kernel⟩, List.mem_of_getElem? (i := 663) (by decide +kernel), List.mem_of_getElem? (i := 689) (by decide +kernel), List.mem_of_getElem? (i := 690) (by decide +kernel)⟩
theorem lw_p26 : lw_okq (⟨"FerryForAloneModel", "unwinds", "(I)V"⟩, 32) := ⟨⟨by decide +kernel, by decide +kernel⟩, List.mem_of_getElem? (i := 663) (by decide +kernel), List.mem_of_getElem? (i := 693) (by decide +kernel), List.mem_of_getElem? (i := 694) (by decide +kernel)⟩
theorem lw_p27 : lw_okq (⟨"FerryForAloneModel", "opensOne", "(I)Z"⟩, 32) := ⟨⟨by decide +kernel, by decide +kernel⟩, List.mem_of_getElem? (i := 663) (by decide +kernel), List.mem_of_getElem? (i := 700) (by decide +kernel), List.mem_of_getElem? (i := 701) (by decide +kernel)⟩
theorem lw_p28 : lw_okq (⟨"FerryForAloneModel", "holds", "(I)V"⟩, 32) := ⟨⟨by decide +kernel, by decide +kernel⟩, List.mem_of_getElem? (i := 663) (by decide +kernel), List.mem_of_getElem? (i := 704) (by decide +kernel), List.mem_of_getElem? (i := 705) (by decide +kernel)⟩
theorem lw_p29 : lw_okq (⟨"FerryForAloneModel", "signOf", "()I"⟩, 32) := ⟨⟨by decide +kernel, by decide +kernel⟩, List.mem_of_getElem? (i := 663) (by decide +kernel), List.mem_of_getElem? (i := 708) (by decide +kernel), List.mem_of_getElem? (i := 709) (by decide +kernel)⟩
theorem lw_p30 : lw_okq (⟨"FerryForAloneModel", "between", "(I)Z"⟩, 32) := ⟨⟨by decide +kernel, by decide +kernel⟩, List.mem_of_getElem? (i := 663) (by decide +kernel), List.mem_of_getElem? (i := 712) (by decide +kernel), List.mem_of_getElem? (i := 713) (by decide +kernel)⟩
theorem lw_p31 : lw_okq (⟨"FerryForAloneModel", "choice", "()I"⟩, 32) := ⟨⟨by decide +kernel, by decide +kernel⟩, List.mem_of_getElem? (i := 663) (by decide +kernel), List.mem_of_getElem? (i := 825) (by decide +kernel), List.mem_of_getElem? (i := 826) (by decide +kernel)⟩
def lw_privs_2 : List (MethodName × Nat) := [(⟨"FerryForAlone", "hoursTillOver", "(II)I"⟩, 9), (⟨"FerryForAlone", "wouldBeAlone", "(II)Z"⟩, 9), (⟨"FerryForAlone", "othersAloneWithout", "(I)Z"⟩, 9), (⟨"FerryForAlone", "refusalToJudge", "(I)I"⟩, 9), (⟨"FerryForAlone", "firstOtherwise", "(I)I"⟩, 9), (⟨"FerryForAlone", "fetchedAmongGulls", "(I)I"⟩, 9), (⟨"FerryForAloneModel", "next", "()V"⟩, 32), (⟨"FerryForAloneModel", "wordFrom", "(II)I"⟩, 32), (⟨"FerryForAloneModel", "eRead", "()Z"⟩, 32), (⟨"FerryForAloneModel", "puts", "(I)V"⟩, 32), (⟨"FerryForAloneModel", "unwinds", "(I)V"⟩, 32), (⟨"FerryForAloneModel", "opensOne", "(I)Z"⟩, 32), (⟨"FerryForAloneModel", "holds", "(I)V"⟩, 32), (⟨"FerryForAloneModel", "signOf", "()I"⟩, 32), (⟨"FerryForAloneModel", "between", "(I)Z"⟩, 32), (⟨"FerryForAloneModel", "choice", "()I"⟩, 32)]
theorem lw_r2 : ∀ q ∈ lw_privs_2, lw_okq q := List.forall_mem_cons.mpr ⟨lw_p16, List.forall_mem_cons.mpr ⟨lw_p17, List.forall_mem_cons.mpr ⟨lw_p18, List.forall_mem_cons.mpr ⟨lw_p19, List.forall_mem_cons.mpr ⟨lw_p20, List.forall_mem_cons.mpr ⟨lw_p21, List.forall_mem_cons.mpr ⟨lw_p22, List.forall_mem_cons.mpr ⟨lw_p23, List.forall_mem_cons.mpr ⟨lw_p24, List.forall_mem_cons.mpr ⟨lw_p25, List.forall_mem_cons.mpr ⟨lw_p26, List.forall_mem_cons.mpr ⟨lw_p27, List.forall_mem_cons.mpr ⟨lw_p28, List.forall_mem_cons.mpr ⟨lw_p29, List.forall_mem_cons.mpr ⟨lw_p30, List.forall_mem_cons.mpr ⟨lw_p31, fun _ h => absurd h List.not_mem_nil⟩⟩⟩⟩⟩⟩⟩⟩⟩⟩⟩⟩⟩⟩⟩⟩
theorem lw_p32 : lw_okq (⟨"FerryForAloneModel", "isAlone", "(I)Z"⟩, 32) := ⟨⟨by decide +kernel, by decide +kernel⟩, List.mem_of_getElem? (i := 663) (by decide +kernel), List.mem_of_getElem? (i := 829) (by decide +kernel), List.mem_of_getElem? (i := 830) (by decide +kernel)⟩
theorem lw_p33 : lw_okq (⟨"FerryForAloneModel", "isSeen", "(I)Z"⟩, 32) := ⟨⟨by decide +kernel, by decide +kernel⟩, List.mem_of_getElem? (i := 663) (by decide +kernel), List.mem_of_getElem? (i := 833) (by decide +kernel), List.mem_of_getElem? (i := 834) (by decide +kernel)⟩
theorem lw_p34 : lw_okq (⟨"FerryForAloneModel", "isAt", "(I)Z"⟩, 32) := ⟨⟨by decide +kernel, by decide +kernel⟩, List.mem_of_getElem? (i := 663) (by decide +kernel), List.mem_of_getElem? (i := 837) (by decide +kernel), List.mem_of_getElem? (i := 838) (by decide +kernel)⟩
theorem lw_p35 : lw_okq (⟨"FerryForAloneModel", "farOf", "(I)I"⟩, 32) := ⟨⟨by decide +kernel, by decide +kernel⟩, List.mem_of_getElem? (i := 663) (by decide +kernel), List.mem_of_getElem? (i := 841) (by decide +kernel), List.mem_of_getElem? (i := 842) (by decide +kernel)⟩
theorem lw_p36 : lw_okq (⟨"FerryForAloneModel", "gapOf", "(I)I"⟩, 32) := ⟨⟨by decide +kernel, by decide +kernel⟩, List.mem_of_getElem? (i := 663) (by decide +kernel), List.mem_of_getElem? (i := 845) (by decide +kernel), List.mem_of_getElem? (i := 846) (by decide +kernel)⟩
theorem lw_p37 : lw_okq (⟨"FerryForAloneModel", "asksOf", "(II)I"⟩, 32) := ⟨⟨by decide +kernel, by decide +kernel⟩, List.mem_of_getElem? (i := 663) (by decide +kernel), List.mem_of_getElem? (i := 849) (by decide +kernel), List.mem_of_getElem? (i := 850) (by decide +kernel)⟩
theorem lw_p38 : lw_okq (⟨"FerryForAloneModel", "seenSet", "()I"⟩, 32) := ⟨⟨by decide +kernel, by decide +kernel⟩, List.mem_of_getElem? (i := 663) (by decide +kernel), List.mem_of_getElem? (i := 853) (by decide +kernel), List.mem_of_getElem? (i := 854) (by decide +kernel)⟩
theorem lw_p39 : lw_okq (⟨"FerryForAloneModel", "says", "(I)I"⟩, 32) := ⟨⟨by decide +kernel, by decide +kernel⟩, List.mem_of_getElem? (i := 663) (by decide +kernel), List.mem_of_getElem? (i := 860) (by decide +kernel), List.mem_of_getElem? (i := 861) (by decide +kernel)⟩
theorem lw_p40 : lw_okq (⟨"FerryForAloneModel", "likedOf", "(I)I"⟩, 32) := ⟨⟨by decide +kernel, by decide +kernel⟩, List.mem_of_getElem? (i := 663) (by decide +kernel), List.mem_of_getElem? (i := 870) (by decide +kernel), List.mem_of_getElem? (i := 871) (by decide +kernel)⟩
theorem lw_p41 : lw_okq (⟨"FerryForAloneModel", "aloneSet", "()I"⟩, 32) := ⟨⟨by decide +kernel, by decide +kernel⟩, List.mem_of_getElem? (i := 663) (by decide +kernel), List.mem_of_getElem? (i := 874) (by decide +kernel), List.mem_of_getElem? (i := 875) (by decide +kernel)⟩
theorem lw_p42 : lw_okq (⟨"FerryForAloneModel", "overSet", "()I"⟩, 32) := ⟨⟨by decide +kernel, by decide +kernel⟩, List.mem_of_getElem? (i := 663) (by decide +kernel), List.mem_of_getElem? (i := 878) (by decide +kernel), List.mem_of_getElem? (i := 879) (by decide +kernel)⟩
theorem lw_p43 : lw_okq (⟨"FerryForAloneModel", "isOver", "(I)Z"⟩, 32) := ⟨⟨by decide +kernel, by decide +kernel⟩, List.mem_of_getElem? (i := 663) (by decide +kernel), List.mem_of_getElem? (i := 882) (by decide +kernel), List.mem_of_getElem? (i := 883) (by decide +kernel)⟩
theorem lw_p44 : lw_okq (⟨"FerryForAloneModel", "isOne", "(I)Z"⟩, 32) := ⟨⟨by decide +kernel, by decide +kernel⟩, List.mem_of_getElem? (i := 663) (by decide +kernel), List.mem_of_getElem? (i := 902) (by decide +kernel), List.mem_of_getElem? (i := 903) (by decide +kernel)⟩
theorem lw_p45 : lw_okq (⟨"FerryForAloneModel", "walksOf", "(I)I"⟩, 32) := ⟨⟨by decide +kernel, by decide +kernel⟩, List.mem_of_getElem? (i := 663) (by decide +kernel), List.mem_of_getElem? (i := 918) (by decide +kernel), List.mem_of_getElem? (i := 919) (by decide +kernel)⟩
theorem lw_p46 : lw_okq (⟨"FerryForAloneModel", "hourOf", "()I"⟩, 32) := ⟨⟨by decide +kernel, by decide +kernel⟩, List.mem_of_getElem? (i := 663) (by decide +kernel), List.mem_of_getElem? (i := 926) (by decide +kernel), List.mem_of_getElem? (i := 927) (by decide +kernel)⟩
theorem lw_p47 : lw_okq (⟨"FerryForAloneModel", "fetches", "(I)V"⟩, 32) := ⟨⟨by decide +kernel, by decide +kernel⟩, List.mem_of_getElem? (i := 663) (by decide +kernel), List.mem_of_getElem? (i := 930) (by decide +kernel), List.mem_of_getElem? (i := 931) (by decide +kernel)⟩
def lw_privs_3 : List (MethodName × Nat) := [(⟨"FerryForAloneModel", "isAlone", "(I)Z"⟩, 32), (⟨"FerryForAloneModel", "isSeen", "(I)Z"⟩, 32), (⟨"FerryForAloneModel", "isAt", "(I)Z"⟩, 32), (⟨"FerryForAloneModel", "farOf", "(I)I"⟩, 32), (⟨"FerryForAloneModel", "gapOf", "(I)I"⟩, 32), (⟨"FerryForAloneModel", "asksOf", "(II)I"⟩, 32), (⟨"FerryForAloneModel", "seenSet", "()I"⟩, 32), (⟨"FerryForAloneModel", "says", "(I)I"⟩, 32), (⟨"FerryForAloneModel", "likedOf", "(I)I"⟩, 32), (⟨"FerryForAloneModel", "aloneSet", "()I"⟩, 32), (⟨"FerryForAloneModel", "overSet", "()I"⟩, 32), (⟨"FerryForAloneModel", "isOver", "(I)Z"⟩, 32), (⟨"FerryForAloneModel", "isOne", "(I)Z"⟩, 32), (⟨"FerryForAloneModel", "walksOf", "(I)I"⟩, 32), (⟨"FerryForAloneModel", "hourOf", "()I"⟩, 32), (⟨"FerryForAloneModel", "fetches", "(I)V"⟩, 32)]
theorem lw_r3 : ∀ q ∈ lw_privs_3, lw_okq q := List.forall_mem_cons.mpr ⟨lw_p32, List.forall_mem_cons.mpr ⟨lw_p33, List.forall_mem_cons.mpr ⟨lw_p34, List.forall_mem_cons.mpr ⟨lw_p35, List.forall_mem_cons.mpr ⟨lw_p36, List.forall_mem_cons.mpr ⟨lw_p37, List.forall_mem_cons.mpr ⟨lw_p38, List.forall_mem_cons.mpr ⟨lw_p39, List.forall_mem_cons.mpr ⟨lw_p40, List.forall_mem_cons.mpr ⟨lw_p41, List.forall_mem_cons.mpr ⟨lw_p42, List.forall_mem_cons.mpr ⟨lw_p43, List.forall_mem_cons.mpr ⟨lw_p44, List.forall_mem_cons.mpr ⟨lw_p45, List.forall_mem_cons.mpr ⟨lw_p46, List.forall_mem_cons.mpr ⟨lw_p47, fun _ h => absurd h List.not_mem_nil⟩⟩⟩⟩⟩⟩⟩⟩⟩⟩⟩⟩⟩⟩⟩⟩
theorem lw_p48 : lw_okq (⟨"FerryForAloneModel", "keeps", "()V"⟩, 32) := ⟨⟨by decide +kernel, by decide +kernel⟩, List.mem_of_getElem? (i := 663) (by decide +kernel), List.mem_of_getElem? (i := 942) (by decide +kernel), List.mem_of_getElem? (i := 943) (by decide +kernel)⟩
theorem lw_p49 : lw_okq (⟨"FerryForAloneModel", "goes", "(I)I"⟩, 32) := ⟨⟨by decide +kernel, by decide +kernel⟩, List.mem_of_getElem? (i := 663) (by decide +kernel), List.mem_of_getElem? (i := 946) (by decide +kernel), List.mem_of_getElem? (i := 947) (by decide +kernel)⟩
theorem lw_p50 : lw_okq (⟨"FerryForAloneModel", "lays", "()V"⟩, 32) := ⟨⟨by decide +kernel, by decide +kernel⟩, List.mem_of_getElem? (i := 663) (by decide +kernel), List.mem_of_getElem? (i := 950) (by decide +kernel), List.mem_of_getElem? (i := 951) (by decide +kernel)⟩
theorem lw_p51 : lw_okq (⟨"FerryForAloneModel", "firstTime", "(II)I"⟩, 32) := ⟨⟨by decide +kernel, by decide +kernel⟩, List.mem_of_getElem? (i := 663) (by decide +kernel), List.mem_of_getElem? (i := 958) (by decide +kernel), List.mem_of_getElem? (i := 959) (by decide +kernel)⟩
theorem lw_p52 : lw_okq (⟨"FerryForAloneModel", "isNow", "(II)Z"⟩, 32) := ⟨⟨by decide +kernel, by decide +kernel⟩, List.mem_of_getElem? (i := 663) (by decide +kernel), List.mem_of_getElem? (i := 962) (by decide +kernel), List.mem_of_getElem? (i := 963) (by decide +kernel)⟩
theorem lw_p53 : lw_okq (⟨"FerryForAloneModel", "fetchedIn", "(I)I"⟩, 32) := ⟨⟨by decide +kernel, by decide +kernel⟩, List.mem_of_getElem? (i := 663) (by decide +kernel), List.mem_of_getElem? (i := 970) (by decide +kernel), List.mem_of_getElem? (i := 971) (by decide +kernel)⟩
theorem lw_p54 : lw_okq (⟨"FerryForAloneModel", "areAllAlone", "(II)Z"⟩, 32) := ⟨⟨by decide +kernel, by decide +kernel⟩, List.mem_of_getElem? (i := 663) (by decide +kernel), List.mem_of_getElem? (i := 986) (by decide +kernel), List.mem_of_getElem? (i := 987) (by decide +kernel)⟩
theorem lw_p55 : lw_okq (⟨"FerryForAloneModel", "isBetween", "(II)Z"⟩, 32) := ⟨⟨by decide +kernel, by decide +kernel⟩, List.mem_of_getElem? (i := 663) (by decide +kernel), List.mem_of_getElem? (i := 994) (by decide +kernel), List.mem_of_getElem? (i := 995) (by decide +kernel)⟩
theorem lw_p56 : lw_okq (⟨"FerryForAloneModel", "sheetWrong", "(I)I"⟩, 32) := ⟨⟨by decide +kernel, by decide +kernel⟩, List.mem_of_getElem? (i := 663) (by decide +kernel), List.mem_of_getElem? (i := 1010) (by decide +kernel), List.mem_of_getElem? (i := 1011) (by decide +kernel)⟩
theorem lw_p57 : lw_okq (⟨"FerryForAloneModel", "unlike", "(I)I"⟩, 32) := ⟨⟨by decide +kernel, by decide +kernel⟩, List.mem_of_getElem? (i := 663) (by decide +kernel), List.mem_of_getElem? (i := 1014) (by decide +kernel), List.mem_of_getElem? (i := 1015) (by decide +kernel)⟩
theorem lw_p58 : lw_okq (⟨"FerryForAloneModel", "gulls", "(I)I"⟩, 32) := ⟨⟨by decide +kernel, by decide +kernel⟩, List.mem_of_getElem? (i := 663) (by decide +kernel), List.mem_of_getElem? (i := 1047) (by decide +kernel), List.mem_of_getElem? (i := 1048) (by decide +kernel)⟩
def lw_privs_4 : List (MethodName × Nat) := [(⟨"FerryForAloneModel", "keeps", "()V"⟩, 32), (⟨"FerryForAloneModel", "goes", "(I)I"⟩, 32), (⟨"FerryForAloneModel", "lays", "()V"⟩, 32), (⟨"FerryForAloneModel", "firstTime", "(II)I"⟩, 32), (⟨"FerryForAloneModel", "isNow", "(II)Z"⟩, 32), (⟨"FerryForAloneModel", "fetchedIn", "(I)I"⟩, 32), (⟨"FerryForAloneModel", "areAllAlone", "(II)Z"⟩, 32), (⟨"FerryForAloneModel", "isBetween", "(II)Z"⟩, 32), (⟨"FerryForAloneModel", "sheetWrong", "(I)I"⟩, 32), (⟨"FerryForAloneModel", "unlike", "(I)I"⟩, 32), (⟨"FerryForAloneModel", "gulls", "(I)I"⟩, 32)]
theorem lw_r4 : ∀ q ∈ lw_privs_4, lw_okq q := List.forall_mem_cons.mpr ⟨lw_p48, List.forall_mem_cons.mpr ⟨lw_p49, List.forall_mem_cons.mpr ⟨lw_p50, List.forall_mem_cons.mpr ⟨lw_p51, List.forall_mem_cons.mpr ⟨lw_p52, List.forall_mem_cons.mpr ⟨lw_p53, List.forall_mem_cons.mpr ⟨lw_p54, List.forall_mem_cons.mpr ⟨lw_p55, List.forall_mem_cons.mpr ⟨lw_p56, List.forall_mem_cons.mpr ⟨lw_p57, List.forall_mem_cons.mpr ⟨lw_p58, fun _ h => absurd h List.not_mem_nil⟩⟩⟩⟩⟩⟩⟩⟩⟩⟩⟩
def lw_privs : List (MethodName × Nat) := lw_privs_1 ++ (lw_privs_2 ++ (lw_privs_3 ++ (lw_privs_4)))
def lw_tbl : List Cond := k2_sels lw_privs ++ tables_1
theorem lw_privs_ok : ∀ q ∈ lw_privs, lw_okq q := by
  show ∀ q ∈ lw_privs_1 ++ (lw_privs_2 ++ (lw_privs_3 ++ (lw_privs_4))), lw_okq q
  exact List.forall_mem_append.mpr ⟨lw_r1, List.forall_mem_append.mpr ⟨lw_r2, List.forall_mem_append.mpr ⟨lw_r3, lw_r4⟩⟩⟩
-- ===== end of PART A =====
/-! NAMES: classes, fields -/
def qR0 : String := "FerryForAlone$Reader"
def qT0 : u_T := fun k => match k with
  | 0 => ("FerryForAlone$Reader", "tape", "[I", true)
  | 1 => ("FerryForAlone$Reader", "texts", "LFerryForAlone$Texts;", true)
  | 2 => ("FerryForAlone$Reader", "size", "I", false)
  | 3 => ("FerryForAlone$Reader", "next", "I", false)
  | 4 => ("FerryForAlone$Reader", "start", "I", false)
  | 5 => ("FerryForAlone$Reader", "token", "I", false)
  | 6 => ("FerryForAlone$Reader", "number", "I", false)
  | 7 => ("FerryForAlone$Reader", "fault", "I", false)
  | _ => ("FerryForAlone$Reader", "written", "I", false)
def qy0 : Nat → FieldType := fun k => match k with
  | 0 => .array .int
  | 1 => .object "FerryForAlone$Texts"
  | 2 => .int
  | 3 => .int
  | 4 => .int
  | 5 => .int
  | 6 => .int
  | 7 => .int
  | _ => .int
def qR1 : String := "FerryForAlone$Sheets"
def qT1 : u_T := fun k => match k with
  | 0 => ("FerryForAlone$Sheets", "cells", "[I", true)
  | 1 => ("FerryForAlone$Sheets", "sort", "[I", true)
  | _ => ("FerryForAlone$Sheets", "size", "[I", true)
def qy1 : Nat → FieldType := fun k => match k with
  | 0 => .array .int
  | 1 => .array .int
  | _ => .array .int
def qR2 : String := "FerryForAlone$Strand"
def qT2 : u_T := fun k => match k with
  | 0 => ("FerryForAlone$Strand", "texts", "LFerryForAlone$Texts;", true)
  | 1 => ("FerryForAlone$Strand", "kind", "[I", true)
  | 2 => ("FerryForAlone$Strand", "more", "[I", true)
  | 3 => ("FerryForAlone$Strand", "place", "[I", true)
  | 4 => ("FerryForAlone$Strand", "hidden", "[Z", true)
  | 5 => ("FerryForAlone$Strand", "waited", "[I", true)
  | 6 => ("FerryForAlone$Strand", "people", "I", false)
  | 7 => ("FerryForAlone$Strand", "hour", "I", false)
  | 8 => ("FerryForAlone$Strand", "out", "I", false)
  | 9 => ("FerryForAlone$Strand", "boat", "I", false)
  | 10 => ("FerryForAlone$Strand", "fetched", "I", false)
  | _ => ("FerryForAlone$Strand", "law", "I", false)
def qy2 : Nat → FieldType := fun k => match k with
  | 0 => .object "FerryForAlone$Texts"
  | 1 => .array .int
  | 2 => .array .int
  | 3 => .array .int
  | 4 => .array .boolean
  | 5 => .array .int
  | 6 => .int
  | 7 => .int
  | 8 => .int
  | 9 => .int
  | 10 => .int
  | _ => .int
def qR3 : String := "FerryForAlone$Texts"
def qT3 : u_T := fun k => match k with
  | 0 => ("FerryForAlone$Texts", "code", "[I", true)
  | 1 => ("FerryForAlone$Texts", "from", "[I", true)
  | 2 => ("FerryForAlone$Texts", "to", "[I", true)
  | 3 => ("FerryForAlone$Texts", "pile", "[I", true)
  | _ => ("FerryForAlone$Texts", "known", "I", false)
def qy3 : Nat → FieldType := fun k => match k with
  | 0 => .array .int
  | 1 => .array .int
  | 2 => .array .int
  | 3 => .array .int
  | _ => .int
def qR4 : String := "FerryForAlone"
def qT4 : u_T := fun k => match k with
  | 0 => ("FerryForAlone", "tape", "[I", true)
  | 1 => ("FerryForAlone", "texts", "LFerryForAlone$Texts;", true)
  | 2 => ("FerryForAlone", "reader", "LFerryForAlone$Reader;", true)
  | 3 => ("FerryForAlone", "now", "LFerryForAlone$Strand;", true)
  | 4 => ("FerryForAlone", "thought", "LFerryForAlone$Strand;", true)
  | 5 => ("FerryForAlone", "kept", "LFerryForAlone$Strand;", true)
  | 6 => ("FerryForAlone", "sheets", "LFerryForAlone$Sheets;", true)
  | 7 => ("FerryForAlone", "taped", "I", false)
  | _ => ("FerryForAlone", "imageIsKept", "Z", false)
def qy4 : Nat → FieldType := fun k => match k with
  | 0 => .array .int
  | 1 => .object "FerryForAlone$Texts"
  | 2 => .object "FerryForAlone$Reader"
  | 3 => .object "FerryForAlone$Strand"
  | 4 => .object "FerryForAlone$Strand"
  | 5 => .object "FerryForAlone$Strand"
  | 6 => .object "FerryForAlone$Sheets"
  | 7 => .int
  | _ => .boolean
def qR5 : String := "FerryForAloneModel"
def qT5 : u_T := fun k => match k with
  | 0 => ("FerryForAloneModel", "people", "I", false)
  | 1 => ("FerryForAloneModel", "kind", "[I", true)
  | 2 => ("FerryForAloneModel", "moreOf", "[I", true)
  | 3 => ("FerryForAloneModel", "rows", "[I", true)
  | 4 => ("FerryForAloneModel", "boat", "[I", true)
  | 5 => ("FerryForAloneModel", "tape", "[I", true)
  | 6 => ("FerryForAloneModel", "taped", "I", false)
  | 7 => ("FerryForAloneModel", "codes", "[I", true)
  | 8 => ("FerryForAloneModel", "starts", "[I", true)
  | 9 => ("FerryForAloneModel", "texts", "I", false)
  | 10 => ("FerryForAloneModel", "rule", "I", false)
  | 11 => ("FerryForAloneModel", "hasImage", "Z", false)
  | 12 => ("FerryForAloneModel", "imageRows", "[I", true)
  | 13 => ("FerryForAloneModel", "imageHeld", "[I", true)
  | 14 => ("FerryForAloneModel", "sheetSort", "[I", true)
  | 15 => ("FerryForAloneModel", "sheetSize", "[I", true)
  | 16 => ("FerryForAloneModel", "cells", "[I", true)
  | 17 => ("FerryForAloneModel", "law", "[I", true)
  | 18 => ("FerryForAloneModel", "at", "I", false)
  | 19 => ("FerryForAloneModel", "begun", "I", false)
  | 20 => ("FerryForAloneModel", "token", "I", false)
  | 21 => ("FerryForAloneModel", "value", "I", false)
  | 22 => ("FerryForAloneModel", "words", "[I", true)
  | 23 => ("FerryForAloneModel", "held", "[I", true)
  | 24 => ("FerryForAloneModel", "heldMany", "I", false)
  | 25 => ("FerryForAloneModel", "opens", "I", false)
  | 26 => ("FerryForAloneModel", "out", "I", false)
  | 27 => ("FerryForAloneModel", "stack", "[I", true)
  | 28 => ("FerryForAloneModel", "named", "[I", true)
  | 29 => ("FerryForAloneModel", "kept", "[I", true)
  | 30 => ("FerryForAloneModel", "fetchedDigits", "I", false)
  | _ => ("FerryForAloneModel", "overThen", "I", false)
def qy5 : Nat → FieldType := fun k => match k with
  | 0 => .int
  | 1 => .array .int
  | 2 => .array .int
  | 3 => .array .int
  | 4 => .array .int
  | 5 => .array .int
  | 6 => .int
  | 7 => .array .int
  | 8 => .array .int
  | 9 => .int
  | 10 => .int
  | 11 => .boolean
  | 12 => .array .int
  | 13 => .array .int
  | 14 => .array .int
  | 15 => .array .int
  | 16 => .array .int
  | 17 => .array .int
  | 18 => .int
  | 19 => .int
  | 20 => .int
  | 21 => .int
  | 22 => .array .int
  | 23 => .array .int
  | 24 => .int
  | 25 => .int
  | 26 => .int
  | 27 => .array .int
  | 28 => .array .int
  | 29 => .array .int
  | 30 => .int
  | _ => .int
abbrev qcl : List vw_C := [(qR0, qT0, 9), (qR1, qT1, 3), (qR2, qT2, 12), (qR3, qT3, 5), (qR4, qT4, 9), (qR5, qT5, 32)]
/-! CELLS: objects (their kind; of each field: none: a number, some r: the cell to which it refers), rows (of booleans or of ints; their length) -/
abbrev Cs : Type := (Nat × List (Option Nat)) ⊕ (Bool × Nat)
def nth {α : Type} : List α → Nat → Option α
  | [], _ => none
  | a :: _, 0 => some a
  | _ :: l, n + 1 => nth l n
def cellsL : List Cs := [.inl (4, [some 1, some 2, some 7, some 12, some 18, some 24, some 8, none, none]),
  .inr (false, 160),
  .inl (3, [some 3, some 4, some 5, some 6, none]),
  .inr (false, 960),
  .inr (false, 18),
  .inr (false, 18),
  .inr (false, 160),
  .inl (0, [some 1, some 2, none, none, none, none, none, none, none]),
  .inl (1, [some 9, some 10, some 11]),
  .inr (false, 160),
  .inr (false, 4),
  .inr (false, 4),
  .inl (2, [some 2, some 13, some 14, some 15, some 16, some 17, none, none, none, none, none, none]),
  .inr (false, 6),
  .inr (false, 6),
  .inr (false, 6),
  .inr (true, 6),
  .inr (false, 6),
  .inl (2, [some 2, some 19, some 20, some 21, some 22, some 23, none, none, none, none, none, none]),
  .inr (false, 6),
  .inr (false, 6),
  .inr (false, 6),
  .inr (true, 6),
  .inr (false, 6),
  .inl (2, [some 2, some 25, some 26, some 27, some 28, some 29, none, none, none, none, none, none]),
  .inr (false, 6),
  .inr (false, 6),
  .inr (false, 6),
  .inr (true, 6),
  .inr (false, 6),
  .inl (5, [none, some 31, some 32, some 33, some 34, some 35, none, some 36, some 37, none, none, none, some 38, some 39, some 40, some 41, some 42, some 43, none, none, none, none, some 44, some 45, none, none, none, some 46, some 47, some 48, none, none]),
  .inr (false, 6),
  .inr (false, 6),
  .inr (false, 18),
  .inr (false, 4),
  .inr (false, 160),
  .inr (false, 1200),
  .inr (false, 24),
  .inr (false, 22),
  .inr (false, 2),
  .inr (false, 4),
  .inr (false, 4),
  .inr (false, 160),
  .inr (false, 33),
  .inr (false, 96),
  .inr (false, 200),
  .inr (false, 200),
  .inr (false, 6),
  .inr (false, 22)]
def ShF (c : Nat) : Option Cs := nth cellsL c
def ShM (c : Nat) : Option Cs := if c < 30 then none else nth cellsL c
/-! INSTRUCTIONS: as decoded, its place among the bytes, and what its numbers stand for -/
abbrev RI : Type := Instr × Nat × Nat × Nat × Nat × Nat × Nat × Nat × Int32 × Int64 × List (Int32 × Nat)
abbrev r0 (I : Instr) (q : Nat) : RI := (I, q, 0, 0, 0, 0, 0, 0, 0, 0, [])
abbrev ra (I : Instr) (q a : Nat) : RI := (I, q, a, 0, 0, 0, 0, 0, 0, 0, [])
abbrev rv (I : Instr) (q p : Nat) (v : Int32) : RI := (I, q, 0, 0, 0, 0, 0, p, v, 0, [])
abbrev rs (I : Instr) (q a b p : Nat) : RI := (I, q, a, b, 0, 0, 0, p, 0, 0, [])
abbrev rg (I : Instr) (q a p : Nat) (v : Int32) : RI := (I, q, a, 0, 0, 0, 0, p, v, 0, [])
abbrev rw (I : Instr) (q p : Nat) (w : Int64) : RI := (I, q, 0, 0, 0, 0, 0, p, 0, w, [])
abbrev rf (I : Instr) (q a b d p : Nat) : RI := (I, q, a, b, d, 0, 0, p, 0, 0, [])
abbrev ri (I : Instr) (q a b d e f p : Nat) : RI := (I, q, a, b, d, e, f, p, 0, 0, [])
abbrev rj (I : Instr) (q a b d e f p : Nat) : RI := (I, q, a, b, d, e, f, p, 0, 0, [(0, 0)])
abbrev rt (I : Instr) (q a : Nat) (ts : List (Int32 × Nat)) : RI := (I, q, a, 0, 0, 0, 0, 0, 0, 0, ts)
abbrev nJ6_bitCount : Nat := 0
abbrev nJ0_length : Nat := 1
abbrev nJ0_coder : Nat := 2
abbrev nJ0_isLatin1 : Nat := 3
abbrev nJ0_charAt : Nat := 4
abbrev nJ0_checkIndex : Nat := 5
abbrev nJ1_charAt : Nat := 6
abbrev nJ3_checkIndex : Nat := 7
abbrev nD_faultOf : Nat := 8
abbrev nD_fail : Nat := 9
abbrev nD_expect : Nat := 10
abbrev nD_write : Nat := 11
abbrev nD_either : Nat := 12
abbrev nD_both : Nat := 13
abbrev nD_negation : Nat := 14
abbrev nD_comparison : Nat := 15
abbrev nD_sum : Nat := 16
abbrev nD_term : Nat := 17
abbrev nD_one : Nat := 18
abbrev nD_take : Nat := 19
abbrev nD_takeWord : Nat := 20
abbrev nD_isWord : Nat := 21
abbrev nD_takeNumber : Nat := 22
abbrev nD_isLetter : Nat := 23
abbrev nD_isDigit : Nat := 24
abbrev nD_signOf : Nat := 25
abbrev nH_has : Nat := 26
abbrev nH_holds : Nat := 27
abbrev nH_renew : Nat := 28
abbrev nH_read : Nat := 29
abbrev nH_write : Nat := 30
abbrev nH_carry : Nat := 31
abbrev nS_becomes : Nat := 32
abbrev nS_has : Nat := 33
abbrev nS_welcome : Nat := 34
abbrev nS_isSeen : Nat := 35
abbrev nS_isOver : Nat := 36
abbrev nS_isAlone : Nat := 37
abbrev nS_farFrom : Nat := 38
abbrev nS_areNeighbours : Nat := 39
abbrev nS_gapAbout : Nat := 40
abbrev nS_likedHow : Nat := 41
abbrev nS_walksFar : Nat := 42
abbrev nS_choice : Nat := 43
abbrev nS_goOn : Nat := 44
abbrev nS_passHour : Nat := 45
abbrev nS_fetch : Nat := 46
abbrev nS_aloneBits : Nat := 47
abbrev nS_seenBits : Nat := 48
abbrev nS_overBits : Nat := 49
abbrev nS_valueOf : Nat := 50
abbrev nT_addFirstLaw : Nat := 51
abbrev nT_says : Nat := 52
abbrev nT_joined : Nat := 53
abbrev nF_count : Nat := 54
abbrev nF_bay : Nat := 55
abbrev nF_ferry : Nat := 56
abbrev nF_feed : Nat := 57
abbrev nF_text : Nat := 58
abbrev nF_force : Nat := 59
abbrev nF_asks : Nat := 60
abbrev nF_traveller : Nat := 61
abbrev nF_put : Nat := 62
abbrev nF_told : Nat := 63
abbrev nF_hour : Nat := 64
abbrev nF_walk : Nat := 65
abbrev nF_run : Nat := 66
abbrev nF_when : Nat := 67
abbrev nF_hide : Nat := 68
abbrev nF_stand : Nat := 69
abbrev nF_apart : Nat := 70
abbrev nF_breakwater : Nat := 71
abbrev nF_gap : Nat := 72
abbrev nF_middle : Nat := 73
abbrev nF_judge : Nat := 74
abbrev nF_kinds : Nat := 75
abbrev nF_places : Nat := 76
abbrev nF_turned : Nat := 77
abbrev nF_waits : Nat := 78
abbrev nF_laws : Nat := 79
abbrev nF_film : Nat := 80
abbrev nF_drawn : Nat := 81
abbrev nF_odds : Nat := 82
abbrev nF_image : Nat := 83
abbrev nF_back : Nat := 84
abbrev nF_sheet : Nat := 85
abbrev nF_cell : Nat := 86
abbrev nF_copy : Nat := 87
abbrev nF_peopleBy : Nat := 88
abbrev nF_taken : Nat := 89
abbrev nF_within : Nat := 90
abbrev nF_isByte : Nat := 91
abbrev nF_bit : Nat := 92
abbrev nF_tapeOne : Nat := 93
abbrev nF_isOfKind : Nat := 94
abbrev nF_fetchedInThought : Nat := 95
abbrev nF_hoursTillOver : Nat := 96
abbrev nF_wouldBeAlone : Nat := 97
abbrev nF_othersAloneWithout : Nat := 98
abbrev nF_refusalToJudge : Nat := 99
abbrev nF_firstOtherwise : Nat := 100
abbrev nF_fetchedAmongGulls : Nat := 101
abbrev nF_lotAfter : Nat := 102
abbrev nF_fraction : Nat := 103
abbrev nM_in : Nat := 104
abbrev nM_within : Nat := 105
abbrev nM_onesOf : Nat := 106
abbrev nM_isOne : Nat := 107
abbrev nM_isAt : Nat := 108
abbrev nM_isSeen : Nat := 109
abbrev nM_seenSet : Nat := 110
abbrev nM_isOver : Nat := 111
abbrev nM_overSet : Nat := 112
abbrev nM_count : Nat := 113
abbrev nM_bay : Nat := 114
abbrev nM_ferry : Nat := 115
abbrev nM_isByte : Nat := 116
abbrev nM_feed : Nat := 117
abbrev nM_wordFrom : Nat := 118
abbrev nM_next : Nat := 119
abbrev nM_rank : Nat := 120
abbrev nM_puts : Nat := 121
abbrev nM_unwinds : Nat := 122
abbrev nM_holds : Nat := 123
abbrev nM_opensOne : Nat := 124
abbrev nM_between : Nat := 125
abbrev nM_signOf : Nat := 126
abbrev nM_eRead : Nat := 127
abbrev nM_text : Nat := 128
abbrev nM_two : Nat := 129
abbrev nM_says : Nat := 130
abbrev nM_force : Nat := 131
abbrev nM_asksOf : Nat := 132
abbrev nM_asks : Nat := 133
abbrev nM_traveller : Nat := 134
abbrev nM_put : Nat := 135
abbrev nM_gapOf : Nat := 136
abbrev nM_likedOf : Nat := 137
abbrev nM_walksOf : Nat := 138
abbrev nM_farOf : Nat := 139
abbrev nM_isAlone : Nat := 140
abbrev nM_aloneSet : Nat := 141
abbrev nM_choice : Nat := 142
abbrev nM_told : Nat := 143
abbrev nM_fetches : Nat := 144
abbrev nM_hourOf : Nat := 145
abbrev nM_hour : Nat := 146
abbrev nM_walk : Nat := 147
abbrev nM_keeps : Nat := 148
abbrev nM_lays : Nat := 149
abbrev nM_goes : Nat := 150
abbrev nM_run : Nat := 151
abbrev nM_isNow : Nat := 152
abbrev nM_firstTime : Nat := 153
abbrev nM_when : Nat := 154
abbrev nM_fetchedIn : Nat := 155
abbrev nM_hide : Nat := 156
abbrev nM_stand : Nat := 157
abbrev nM_apart : Nat := 158
abbrev nM_areAllAlone : Nat := 159
abbrev nM_breakwater : Nat := 160
abbrev nM_isBetween : Nat := 161
abbrev nM_gap : Nat := 162
abbrev nM_lowest : Nat := 163
abbrev nM_middle : Nat := 164
abbrev nM_sheetWrong : Nat := 165
abbrev nM_unlike : Nat := 166
abbrev nM_judge : Nat := 167
abbrev nM_kinds : Nat := 168
abbrev nM_places : Nat := 169
abbrev nM_turned : Nat := 170
abbrev nM_waits : Nat := 171
abbrev nM_laws : Nat := 172
abbrev nM_film : Nat := 173
abbrev nM_gulls : Nat := 174
abbrev nM_drawn : Nat := 175
abbrev nM_odds : Nat := 176
abbrev nM_image : Nat := 177
abbrev nM_back : Nat := 178
abbrev nM_sheet : Nat := 179
abbrev nM_cell : Nat := 180
abbrev nM_copy : Nat := 181
abbrev nM_peopleBy : Nat := 182
abbrev nM_isUnder : Nat := 183
abbrev nM_taken : Nat := 184
abbrev nL_law : Nat := 185
def mt0_0 : List RI := [r0 (.iload_n 0) 0, r0 (.iload_n 0) 1, rv (.iconst 1) 2 0 1, r0 .iushr 3, rv (.ldc_w 265) 4 582 1431655765, r0 .iand 7, r0 .isub 8, r0 (.istore_n 0) 9, r0 (.iload_n 0) 10, rv (.ldc_w 266) 11 583 858993459, r0 .iand 14, r0 (.iload_n 0) 15, rv (.iconst 2) 16 0 2, r0 .iushr 17, rv (.ldc_w 266) 18 583 858993459, r0 .iand 21, r0 .iadd 22, r0 (.istore_n 0) 23, r0 (.iload_n 0) 24, r0 (.iload_n 0) 25, rv (.iconst 4) 26 0 4, r0 .iushr 27, r0 .iadd 28, rv (.ldc_w 267) 29 584 252645135, r0 .iand 32, r0 (.istore_n 0) 33, r0 (.iload_n 0) 34, r0 (.iload_n 0) 35, rv (.bipush 8) 36 0 8, r0 .iushr 38, r0 .iadd 39, r0 (.istore_n 0) 40]
def mt0_1 : List RI := [r0 (.iload_n 0) 41, r0 (.iload_n 0) 42, rv (.bipush 16) 43 0 16, r0 .iushr 45, r0 .iadd 46, r0 (.istore_n 0) 47, r0 (.iload_n 0) 48, rv (.bipush 63) 49 0 63, r0 .iand 51, r0 .ireturn 52]
def mt0 : List (List RI) := [mt0_0, mt0_1]
def mt1_0 : List RI := [r0 (.aload_n 0) 0, rf (.getfield 9) 1 50 0 0 1149, ra .arraylength 4 2, r0 (.aload_n 0) 5, ri (.invokevirtual 335) 6 2 1 0 1 50 360, r0 .ishr 9, r0 .ireturn 10]
def mt1 : List (List RI) := [mt1_0]
def mt2_0 : List RI := [rg (.getstatic 38) 0 1 364 1, ra (.ifCond .eq 10) 3 5, r0 (.aload_n 0) 6, rf (.getfield 15) 7 51 0 0 1150, ra (.goto 4) 10 6, rv (.iconst 1) 13 0 1, ra .ireturn 14 2]
def mt2 : List (List RI) := [mt2_0]
def mt3_0 : List RI := [rg (.getstatic 38) 0 1 364 1, ra (.ifCond .eq 14) 3 7, r0 (.aload_n 0) 6, rf (.getfield 15) 7 51 0 0 1150, ra (.ifCond .ne 7) 10 7, rv (.iconst 1) 13 0 1, ra (.goto 4) 14 8, rv (.iconst 0) 17 0 0, ra .ireturn 18 1]
def mt3 : List (List RI) := [mt3_0]
def mt4_0 : List RI := [r0 (.aload_n 0) 0, ri (.invokevirtual 492) 1 3 1 0 1 50 370, ra (.ifCond .eq 12) 4 8, r0 (.aload_n 0) 7, rf (.getfield 9) 8 50 0 0 1149, r0 (.iload_n 1) 11, ri (.invokestatic 495) 12 6 2 1 1 50 374, ra .ireturn 15 3, r0 (.aload_n 0) 16, rf (.getfield 9) 17 50 0 0 1149, r0 (.iload_n 1) 20, ri (.invokestatic 498) 21 255 0 9 0 0 0, ra .ireturn 24 3]
def mt4 : List (List RI) := [mt4_0]
def mt5_0 : List RI := [r0 (.iload_n 0) 0, r0 (.iload_n 1) 1, rg (.getstatic 1053) 2 2 380 0, ri (.invokestatic 1059) 5 7 3 1 1 50 382, r0 .pop 8, r0 .return_ 9]
def mt5 : List (List RI) := [mt5_0]
def mt6_0 : List RI := [r0 (.iload_n 1) 0, r0 (.aload_n 0) 1, ra .arraylength 2 2, ri (.invokestatic 9) 3 5 2 1 0 50 377, r0 (.aload_n 0) 6, r0 (.iload_n 1) 7, ra .baload 8 2, rv (.sipush 255) 9 0 255, r0 .iand 12, r0 .i2c 13, ra .ireturn 14 3]
def mt6 : List (List RI) := [mt6_0]
def mt7_0 : List RI := [r0 (.iload_n 0) 0, ra (.ifCond .lt 8) 1 5, r0 (.iload_n 0) 4, r0 (.iload_n 1) 5, ra (.if_icmp .lt 10) 6 10, r0 (.aload_n 2) 9, r0 (.iload_n 0) 10, r0 (.iload_n 1) 11, ri (.invokestatic 95) 12 255 0 9 0 0 0, r0 .athrow 15, r0 (.iload_n 0) 16, r0 .ireturn 17]
def mt7 : List (List RI) := [mt7_0]
def mt8_0 : List RI := [r0 (.aload_n 0) 0, r0 (.iload_n 1) 1, rv (.sipush 160) 2 0 160, ri (.invokestatic 41) 5 200 2 6 1 0 339, rf (.putfield 9) 8 0 2 0 117, r0 (.aload_n 0) 11, rv (.iconst 0) 12 0 0, rf (.putfield 15) 13 0 3 0 118, r0 (.aload_n 0) 16, rv (.iconst (-1)) 17 0 (-1), rf (.putfield 27) 18 0 7 0 122, r0 (.aload_n 0) 21, r0 (.aload_n 0) 22, rf (.getfield 37) 23 0 1 0 116, rf (.getfield 47) 26 3 4 0 95, rv (.sipush 160) 29 0 160, r0 .imul 32, rf (.putfield 30) 33 0 8 0 123, r0 (.aload_n 0) 36, ri (.invokevirtual 52) 37 19 1 0 0 0 340, rv (.iconst 0) 40 0 0, r0 (.istore_n 2) 41, r0 (.iload_n 2) 42, rv (.iconst 3) 43 0 3, ra (.if_icmp .ge 65) 44 60, r0 (.aload_n 0) 47, rf (.getfield 37) 48 0 1 0 116, rf (.getfield 47) 51 3 4 0 95, rv (.iconst 3) 54 0 3, r0 .imul 55, r0 (.iload_n 2) 56, r0 .iadd 57]
def mt8_1 : List RI := [r0 (.istore_n 3) 58, r0 (.aload_n 0) 59, rv (.bipush 10) 60 0 10, r0 (.iload_n 2) 62, r0 .iadd 63, ri (.invokevirtual 55) 64 10 2 0 0 0 425, r0 (.aload_n 0) 67, rf (.getfield 37) 68 0 1 0 116, rf (.getfield 59) 71 3 1 0 90, r0 (.iload_n 3) 74, r0 (.aload_n 0) 75, rf (.getfield 30) 76 0 8 0 123, r0 .iastore 79, r0 (.aload_n 0) 80, rv (.iconst 0) 81 0 0, ri (.invokevirtual 62) 82 12 2 0 0 0 433, r0 (.aload_n 0) 85, rf (.getfield 37) 86 0 1 0 116, rf (.getfield 65) 89 3 2 0 92, r0 (.iload_n 3) 92, r0 (.aload_n 0) 93, rf (.getfield 30) 94 0 8 0 123, r0 .iastore 97, r0 (.aload_n 0) 98, rv (.iconst 4) 99 0 4, ri (.invokevirtual 55) 100 10 2 0 0 0 425, rv (.iinc 2 1) 103 0 1, ra (.goto (-64)) 106 22, r0 (.aload_n 0) 109, rv (.iconst 5) 110 0 5, ri (.invokevirtual 55) 111 10 2 0 0 0 425, r0 (.aload_n 0) 114]
def mt8_2 : List RI := [rf (.getfield 27) 115 0 7 0 122, r0 .ireturn 118]
def mt8 : List (List RI) := [mt8_0, mt8_1, mt8_2]
def mt9_0 : List RI := [r0 (.aload_n 0) 0, rf (.getfield 27) 1 0 7 0 122, rv (.iconst (-1)) 4 0 (-1), ra (.if_icmp .ne 11) 5 8, r0 (.aload_n 0) 8, r0 (.aload_n 0) 9, rf (.getfield 18) 10 0 4 0 119, rf (.putfield 27) 13 0 7 0 122, r0 (.aload_n 0) 16, rv (.bipush 6) 17 0 6, rf (.putfield 21) 19 0 5 0 120, r0 .return_ 22]
def mt9 : List (List RI) := [mt9_0]
def mt10_0 : List RI := [r0 (.aload_n 0) 0, rf (.getfield 21) 1 0 5 0 120, r0 (.iload_n 1) 4, ra (.if_icmp .ne 10) 5 7, r0 (.aload_n 0) 8, ri (.invokevirtual 52) 9 19 1 0 0 0 340, ra (.goto 7) 12 9, r0 (.aload_n 0) 15, ri (.invokevirtual 68) 16 9 1 0 0 0 429, r0 .return_ 19]
def mt10 : List (List RI) := [mt10_0]
def mt11_0 : List RI := [r0 (.aload_n 0) 0, rf (.getfield 30) 1 0 8 0 123, rv (.sipush 960) 4 0 960, ra (.if_icmp .ge 26) 7 17, r0 (.aload_n 0) 10, rf (.getfield 37) 11 0 1 0 116, rf (.getfield 71) 14 3 0 0 88, r0 (.aload_n 0) 17, rf (.getfield 30) 18 0 8 0 123, r0 (.iload_n 1) 21, r0 .iastore 22, r0 (.aload_n 0) 23, r0 .dup 24, rf (.getfield 30) 25 0 8 0 123, rv (.iconst 1) 28 0 1, r0 .iadd 29, rf (.putfield 30) 30 0 8 0 123, r0 .return_ 33]
def mt11 : List (List RI) := [mt11_0]
def mt12_0 : List RI := [r0 (.aload_n 0) 0, r0 (.iload_n 1) 1, ri (.invokevirtual 74) 2 13 2 0 0 0 437, rv (.iconst 0) 5 0 0, r0 (.istore_n 2) 6, r0 (.iload_n 2) 7, rv (.sipush 160) 8 0 160, ra (.if_icmp .ge 33) 11 22, r0 (.aload_n 0) 14, rf (.getfield 21) 15 0 5 0 120, rv (.bipush (-9)) 18 0 (-9), ra (.if_icmp .ne 24) 20 22, r0 (.aload_n 0) 23, ri (.invokevirtual 52) 24 19 1 0 0 0 340, r0 (.aload_n 0) 27, r0 (.iload_n 1) 28, ri (.invokevirtual 74) 29 13 2 0 0 0 437, r0 (.aload_n 0) 32, rv (.bipush (-9)) 33 0 (-9), ri (.invokevirtual 77) 35 11 2 0 0 0 461, rv (.iinc 2 1) 38 0 1, ra (.goto (-34)) 41 5, r0 .return_ 44]
def mt12 : List (List RI) := [mt12_0]
def mt13_0 : List RI := [r0 (.aload_n 0) 0, r0 (.iload_n 1) 1, ri (.invokevirtual 80) 2 14 2 0 0 0 441, rv (.iconst 0) 5 0 0, r0 (.istore_n 2) 6, r0 (.iload_n 2) 7, rv (.sipush 160) 8 0 160, ra (.if_icmp .ge 33) 11 22, r0 (.aload_n 0) 14, rf (.getfield 21) 15 0 5 0 120, rv (.bipush (-10)) 18 0 (-10), ra (.if_icmp .ne 24) 20 22, r0 (.aload_n 0) 23, ri (.invokevirtual 52) 24 19 1 0 0 0 340, r0 (.aload_n 0) 27, r0 (.iload_n 1) 28, ri (.invokevirtual 80) 29 14 2 0 0 0 441, r0 (.aload_n 0) 32, rv (.bipush (-10)) 33 0 (-10), ri (.invokevirtual 77) 35 11 2 0 0 0 461, rv (.iinc 2 1) 38 0 1, ra (.goto (-34)) 41 5, r0 .return_ 44]
def mt13 : List (List RI) := [mt13_0]
def mt14_0 : List RI := [r0 (.aload_n 0) 0, rf (.getfield 21) 1 0 5 0 120, rv (.bipush (-8)) 4 0 (-8), ra (.if_icmp .eq 11) 6 8, r0 (.aload_n 0) 9, r0 (.iload_n 1) 10, ri (.invokevirtual 83) 11 15 2 0 0 0 445, ra (.goto 32) 14 24, r0 (.iload_n 1) 17, rv (.iconst 5) 18 0 5, ra (.if_icmp .lt 10) 19 14, r0 (.aload_n 0) 22, ri (.invokevirtual 68) 23 9 1 0 0 0 429, ra (.goto 20) 26 24, r0 (.aload_n 0) 29, ri (.invokevirtual 52) 30 19 1 0 0 0 340, r0 (.aload_n 0) 33, r0 (.iload_n 1) 34, rv (.iconst 1) 35 0 1, r0 .iadd 36, rj (.invokevirtual 80) 37 14 2 0 0 0 441, r0 (.aload_n 0) 40, rv (.bipush (-8)) 41 0 (-8), ri (.invokevirtual 77) 43 11 2 0 0 0 461, r0 .return_ 46]
def mt14 : List (List RI) := [mt14_0]
def mt15_0 : List RI := [r0 (.aload_n 0) 0, r0 (.iload_n 1) 1, ri (.invokevirtual 86) 2 16 2 0 0 0 449, r0 (.aload_n 0) 5, rf (.getfield 21) 6 0 5 0 120, r0 (.istore_n 2) 9, r0 (.iload_n 2) 10, rv (.bipush (-11)) 11 0 (-11), ra (.if_icmp .eq 9) 13 12, r0 (.iload_n 2) 16, rv (.bipush (-12)) 17 0 (-12), ra (.if_icmp .ne 17) 19 20, r0 (.aload_n 0) 22, ri (.invokevirtual 52) 23 19 1 0 0 0 340, r0 (.aload_n 0) 26, r0 (.iload_n 1) 27, ri (.invokevirtual 86) 28 16 2 0 0 0 449, r0 (.aload_n 0) 31, r0 (.iload_n 2) 32, ri (.invokevirtual 77) 33 11 2 0 0 0 461, r0 .return_ 36]
def mt15 : List (List RI) := [mt15_0]
def mt16_0 : List RI := [r0 (.aload_n 0) 0, r0 (.iload_n 1) 1, ri (.invokevirtual 89) 2 17 2 0 0 0 453, rv (.iconst 0) 5 0 0, r0 (.istore_n 2) 6, r0 (.iload_n 2) 7, rv (.sipush 160) 8 0 160, ra (.if_icmp .ge 46) 11 29, r0 (.aload_n 0) 14, rf (.getfield 21) 15 0 5 0 120, rv (.bipush (-13)) 18 0 (-13), ra (.if_icmp .eq 12) 20 16, r0 (.aload_n 0) 23, rf (.getfield 21) 24 0 5 0 120, rv (.bipush (-14)) 27 0 (-14), ra (.if_icmp .ne 28) 29 29, r0 (.aload_n 0) 32, rf (.getfield 21) 33 0 5 0 120, r0 (.istore_n 3) 36, r0 (.aload_n 0) 37, ri (.invokevirtual 52) 38 19 1 0 0 0 340, r0 (.aload_n 0) 41, r0 (.iload_n 1) 42, ri (.invokevirtual 89) 43 17 2 0 0 0 453, r0 (.aload_n 0) 46, r0 (.iload_n 3) 47, ri (.invokevirtual 77) 48 11 2 0 0 0 461, rv (.iinc 2 1) 51 0 1, ra (.goto (-47)) 54 5, r0 .return_ 57]
def mt16 : List (List RI) := [mt16_0]
def mt17_0 : List RI := [r0 (.aload_n 0) 0, r0 (.iload_n 1) 1, ri (.invokevirtual 92) 2 18 2 0 0 0 457, rv (.iconst 0) 5 0 0, r0 (.istore_n 2) 6, r0 (.iload_n 2) 7, rv (.sipush 160) 8 0 160, ra (.if_icmp .ge 33) 11 22, r0 (.aload_n 0) 14, rf (.getfield 21) 15 0 5 0 120, rv (.bipush (-15)) 18 0 (-15), ra (.if_icmp .ne 24) 20 22, r0 (.aload_n 0) 23, ri (.invokevirtual 52) 24 19 1 0 0 0 340, r0 (.aload_n 0) 27, r0 (.iload_n 1) 28, ri (.invokevirtual 92) 29 18 2 0 0 0 457, r0 (.aload_n 0) 32, rv (.bipush (-15)) 33 0 (-15), ri (.invokevirtual 77) 35 11 2 0 0 0 461, rv (.iinc 2 1) 38 0 1, ra (.goto (-34)) 41 5, r0 .return_ 44]
def mt17 : List (List RI) := [mt17_0]
def mt18_0 : List RI := [r0 (.aload_n 0) 0, rf (.getfield 21) 1 0 5 0 120, rv (.bipush (-14)) 4 0 (-14), ra (.if_icmp .eq 11) 6 8, r0 (.aload_n 0) 9, rf (.getfield 21) 10 0 5 0 120, rv (.iconst 2) 13 0 2, ra (.if_icmp .ne 7) 14 10, rv (.iconst 1) 17 0 1, ra (.goto 4) 18 11, rv (.iconst 0) 21 0 0, r0 (.istore_n 2) 22, r0 (.aload_n 0) 23, rf (.getfield 21) 24 0 5 0 120, rv (.iconst 1) 27 0 1, ra (.if_icmp .ne 18) 28 23, r0 (.aload_n 0) 31, r0 (.aload_n 0) 32, rf (.getfield 24) 33 0 6 0 121, ri (.invokevirtual 77) 36 11 2 0 0 0 461, r0 (.aload_n 0) 39, ri (.invokevirtual 52) 40 19 1 0 0 0 340, ra (.goto 96) 43 71, r0 (.aload_n 0) 46, rf (.getfield 21) 47 0 5 0 120, rv (.iconst (-1)) 50 0 (-1), ra (.if_icmp .gt 27) 51 38, r0 (.aload_n 0) 54, rf (.getfield 21) 55 0 5 0 120, rv (.bipush (-6)) 58 0 (-6), ra (.if_icmp .lt 18) 60 38, r0 (.aload_n 0) 63]
def mt18_1 : List RI := [r0 (.aload_n 0) 64, rf (.getfield 21) 65 0 5 0 120, ri (.invokevirtual 77) 68 11 2 0 0 0 461, r0 (.aload_n 0) 71, ri (.invokevirtual 52) 72 19 1 0 0 0 340, ra (.goto 64) 75 71, r0 (.iload_n 2) 78, ra (.ifCond .eq 8) 79 43, r0 (.iload_n 1) 82, rv (.iconst 5) 83 0 5, ra (.if_icmp .lt 10) 84 46, r0 (.aload_n 0) 87, ri (.invokevirtual 68) 88 9 1 0 0 0 429, ra (.goto 48) 91 71, r0 (.aload_n 0) 94, rf (.getfield 21) 95 0 5 0 120, rv (.bipush (-14)) 98 0 (-14), ra (.if_icmp .ne 23) 100 61, r0 (.aload_n 0) 103, ri (.invokevirtual 52) 104 19 1 0 0 0 340, r0 (.aload_n 0) 107, r0 (.iload_n 1) 108, rv (.iconst 1) 109 0 1, r0 .iadd 110, rj (.invokevirtual 92) 111 18 2 0 0 0 457, r0 (.aload_n 0) 114, rv (.bipush (-7)) 115 0 (-7), ri (.invokevirtual 77) 117 11 2 0 0 0 461, ra (.goto 19) 120 71, r0 (.aload_n 0) 123, ri (.invokevirtual 52) 124 19 1 0 0 0 340, r0 (.aload_n 0) 127]
def mt18_2 : List RI := [r0 (.iload_n 1) 128, rv (.iconst 1) 129 0 1, r0 .iadd 130, rj (.invokevirtual 62) 131 12 2 0 0 0 433, r0 (.aload_n 0) 134, rv (.iconst 3) 135 0 3, ri (.invokevirtual 55) 136 10 2 0 0 0 425, r0 .return_ 139]
def mt18 : List (List RI) := [mt18_0, mt18_1, mt18_2]
def mt19_0 : List RI := [r0 (.aload_n 0) 0, rf (.getfield 27) 1 0 7 0 122, rv (.iconst (-1)) 4 0 (-1), ra (.if_icmp .eq 4) 5 5, r0 .return_ 8, r0 (.aload_n 0) 9, rf (.getfield 15) 10 0 3 0 118, r0 (.istore_n 1) 13, r0 (.iload_n 1) 14, r0 (.aload_n 0) 15, rf (.getfield 9) 16 0 2 0 117, ra (.if_icmp .ge 38) 19 31, r0 (.aload_n 0) 22, rf (.getfield 33) 23 0 0 0 115, r0 (.iload_n 1) 26, r0 .iaload 27, rv (.bipush 32) 28 0 32, ra (.if_icmp .eq 14) 30 24, r0 (.aload_n 0) 33, rf (.getfield 33) 34 0 0 0 115, r0 (.iload_n 1) 37, r0 .iaload 38, rv (.bipush 10) 39 0 10, ra (.if_icmp .ne 16) 41 31, r0 (.aload_n 0) 44, r0 (.iload_n 1) 45, rv (.iconst 1) 46 0 1, r0 .iadd 47, rf (.putfield 15) 48 0 3 0 118, rv (.iinc 1 1) 51 0 1, ra (.goto (-40)) 54 8, r0 (.aload_n 0) 57]
def mt19_1 : List RI := [r0 (.aload_n 0) 58, rf (.getfield 15) 59 0 3 0 118, rf (.putfield 18) 62 0 4 0 119, r0 (.aload_n 0) 65, rf (.getfield 15) 66 0 3 0 118, r0 (.aload_n 0) 69, rf (.getfield 9) 70 0 2 0 117, ra (.if_icmp .lt 11) 73 44, r0 (.aload_n 0) 76, rv (.iconst 5) 77 0 5, rf (.putfield 21) 78 0 5 0 120, ra (.goto 73) 81 78, r0 (.aload_n 0) 84, rf (.getfield 33) 85 0 0 0 115, r0 (.aload_n 0) 88, rf (.getfield 15) 89 0 3 0 118, r0 .iaload 92, ri (.invokestatic 95) 93 23 1 1 1 0 344, ra (.ifCond .eq 10) 96 54, r0 (.aload_n 0) 99, ri (.invokevirtual 99) 100 20 1 0 0 0 347, ra (.goto 51) 103 78, r0 (.aload_n 0) 106, rf (.getfield 33) 107 0 0 0 115, r0 (.aload_n 0) 110, rf (.getfield 15) 111 0 3 0 118, r0 .iaload 114, ri (.invokestatic 102) 115 24 1 1 1 0 415, ra (.ifCond .eq 10) 118 64, r0 (.aload_n 0) 121, ri (.invokevirtual 105) 122 22 1 0 0 0 418, ra (.goto 29) 125 78]
def mt19_2 : List RI := [r0 (.aload_n 0) 128, r0 (.aload_n 0) 129, rf (.getfield 33) 130 0 0 0 115, r0 (.aload_n 0) 133, rf (.getfield 15) 134 0 3 0 118, r0 .iaload 137, ri (.invokestatic 108) 138 25 1 1 1 0 422, rf (.putfield 21) 141 0 5 0 120, r0 (.aload_n 0) 144, r0 .dup 145, rf (.getfield 15) 146 0 3 0 118, rv (.iconst 1) 149 0 1, r0 .iadd 150, rf (.putfield 15) 151 0 3 0 118, r0 .return_ 154]
def mt19 : List (List RI) := [mt19_0, mt19_1, mt19_2]
def mt20_0 : List RI := [r0 (.aload_n 0) 0, rf (.getfield 18) 1 0 4 0 119, r0 (.istore_n 1) 4, r0 (.iload_n 1) 5, r0 (.aload_n 0) 6, rf (.getfield 9) 7 0 2 0 117, ra (.if_icmp .ge 28) 10 20, r0 (.aload_n 0) 13, rf (.getfield 33) 14 0 0 0 115, r0 (.iload_n 1) 17, r0 .iaload 18, ri (.invokestatic 95) 19 23 1 1 1 0 344, ra (.ifCond .eq 16) 22 20, r0 (.aload_n 0) 25, r0 (.iload_n 1) 26, rv (.iconst 1) 27 0 1, r0 .iadd 28, rf (.putfield 15) 29 0 3 0 118, rv (.iinc 1 1) 32 0 1, ra (.goto (-30)) 35 3, r0 (.aload_n 0) 38, r0 (.aload_n 0) 39, rs (.ldc 112) 40 1 100 351, ri (.invokevirtual 114) 42 21 2 0 1 0 352, ra (.ifCond .eq 8) 45 27, rv (.bipush 10) 48 0 10, ra (.goto 158) 50 94, r0 (.aload_n 0) 53, rs (.ldc 118) 54 1 101 404, ri (.invokevirtual 114) 56 21 2 0 1 0 352, ra (.ifCond .eq 8) 59 33, rv (.bipush 11) 62 0 11]
def mt20_1 : List RI := [ra (.goto 144) 64 94, r0 (.aload_n 0) 67, rs (.ldc 120) 68 1 102 405, ri (.invokevirtual 114) 70 21 2 0 1 0 352, ra (.ifCond .eq 8) 73 39, rv (.bipush 12) 76 0 12, ra (.goto 130) 78 94, r0 (.aload_n 0) 81, rs (.ldc 122) 82 1 103 406, ri (.invokevirtual 114) 84 21 2 0 1 0 352, ra (.ifCond .eq 8) 87 45, rv (.bipush (-9)) 90 0 (-9), ra (.goto 116) 92 94, r0 (.aload_n 0) 95, rs (.ldc 124) 96 1 104 407, ri (.invokevirtual 114) 98 21 2 0 1 0 352, ra (.ifCond .eq 8) 101 51, rv (.bipush (-10)) 104 0 (-10), ra (.goto 102) 106 94, r0 (.aload_n 0) 109, rs (.ldc 126) 110 1 105 408, ri (.invokevirtual 114) 112 21 2 0 1 0 352, ra (.ifCond .eq 8) 115 57, rv (.bipush (-8)) 118 0 (-8), ra (.goto 88) 120 94, r0 (.aload_n 0) 123, rs (.ldc 128) 124 1 106 409, ri (.invokevirtual 114) 126 21 2 0 1 0 352, ra (.ifCond .eq 7) 129 63, rv (.iconst (-1)) 132 0 (-1), ra (.goto 75) 133 94, r0 (.aload_n 0) 136]
def mt20_2 : List RI := [rs (.ldc 130) 137 1 107 410, ri (.invokevirtual 114) 139 21 2 0 1 0 352, ra (.ifCond .eq 8) 142 69, rv (.bipush (-2)) 145 0 (-2), ra (.goto 61) 147 94, r0 (.aload_n 0) 150, rs (.ldc 132) 151 1 108 411, ri (.invokevirtual 114) 153 21 2 0 1 0 352, ra (.ifCond .eq 8) 156 75, rv (.bipush (-3)) 159 0 (-3), ra (.goto 47) 161 94, r0 (.aload_n 0) 164, rs (.ldc 134) 165 1 109 412, ri (.invokevirtual 114) 167 21 2 0 1 0 352, ra (.ifCond .eq 8) 170 81, rv (.bipush (-4)) 173 0 (-4), ra (.goto 33) 175 94, r0 (.aload_n 0) 178, rs (.ldc 136) 179 1 110 413, ri (.invokevirtual 114) 181 21 2 0 1 0 352, ra (.ifCond .eq 8) 184 87, rv (.bipush (-5)) 187 0 (-5), ra (.goto 19) 189 94, r0 (.aload_n 0) 192, rs (.ldc 138) 193 1 111 414, ri (.invokevirtual 114) 195 21 2 0 1 0 352, ra (.ifCond .eq 8) 198 93, rv (.bipush (-6)) 201 0 (-6), ra (.goto 5) 203 94, rv (.bipush 6) 206 0 6, rf (.putfield 21) 208 0 5 0 120, r0 .return_ 211]
def mt20 : List (List RI) := [mt20_0, mt20_1, mt20_2]
def mt21_0 : List RI := [r0 (.aload_n 0) 0, rf (.getfield 15) 1 0 3 0 118, r0 (.aload_n 0) 4, rf (.getfield 18) 5 0 4 0 119, r0 .isub 8, r0 (.aload_n 1) 9, ri (.invokevirtual 140) 10 1 1 0 1 50 356, ra (.if_icmp .eq 5) 13 10, rv (.iconst 0) 16 0 0, ra .ireturn 17 1, rv (.iconst 0) 18 0 0, r0 (.istore_n 2) 19, r0 (.iload_n 2) 20, r0 (.aload_n 1) 21, ri (.invokevirtual 140) 22 1 1 0 1 50 356, ra (.if_icmp .ge 30) 25 31, r0 (.aload_n 0) 28, rf (.getfield 33) 29 0 0 0 115, r0 (.aload_n 0) 32, rf (.getfield 18) 33 0 4 0 119, r0 (.iload_n 2) 36, r0 .iadd 37, r0 .iaload 38, r0 (.aload_n 1) 39, r0 (.iload_n 2) 40, ri (.invokevirtual 146) 41 4 2 0 1 50 366, ra (.if_icmp .eq 5) 44 29, rv (.iconst 0) 47 0 0, ra .ireturn 48 1, rv (.iinc 2 1) 49 0 1, ra (.goto (-32)) 52 12, rv (.iconst 1) 55 0 1]
def mt21_1 : List RI := [ra .ireturn 56 1]
def mt21 : List (List RI) := [mt21_0, mt21_1]
def mt22_0 : List RI := [r0 (.aload_n 0) 0, rv (.iconst 0) 1 0 0, rf (.putfield 24) 2 0 6 0 121, r0 (.aload_n 0) 5, rf (.getfield 18) 6 0 4 0 119, r0 (.istore_n 1) 9, r0 (.iload_n 1) 10, r0 (.aload_n 0) 11, rf (.getfield 9) 12 0 2 0 117, ra (.if_icmp .ge 49) 15 36, r0 (.aload_n 0) 18, rf (.getfield 33) 19 0 0 0 115, r0 (.iload_n 1) 22, r0 .iaload 23, ri (.invokestatic 102) 24 24 1 1 1 0 415, ra (.ifCond .eq 37) 27 36, r0 (.aload_n 0) 30, r0 (.iload_n 1) 31, rv (.iconst 1) 32 0 1, r0 .iadd 33, rf (.putfield 15) 34 0 3 0 118, r0 (.aload_n 0) 37, r0 (.aload_n 0) 38, rf (.getfield 24) 39 0 6 0 121, rv (.bipush 10) 42 0 10, r0 .imul 44, r0 (.aload_n 0) 45, rf (.getfield 33) 46 0 0 0 115, r0 (.iload_n 1) 49, r0 .iaload 50, r0 .iadd 51, rv (.bipush 48) 52 0 48]
def mt22_1 : List RI := [r0 .isub 54, rf (.putfield 24) 55 0 6 0 121, rv (.iinc 1 1) 58 0 1, ra (.goto (-51)) 61 6, r0 (.aload_n 0) 64, r0 (.aload_n 0) 65, rf (.getfield 15) 66 0 3 0 118, r0 (.aload_n 0) 69, rf (.getfield 18) 70 0 4 0 119, r0 .isub 73, rv (.iconst 4) 74 0 4, ra (.if_icmp .le 8) 75 46, rv (.bipush 6) 78 0 6, ra (.goto 4) 80 47, rv (.iconst 1) 83 0 1, rf (.putfield 21) 84 0 5 0 120, r0 .return_ 87]
def mt22 : List (List RI) := [mt22_0, mt22_1]
def mt23_0 : List RI := [r0 (.iload_n 0) 0, rv (.bipush 97) 1 0 97, ra (.if_icmp .lt 13) 3 8, r0 (.iload_n 0) 6, rv (.bipush 122) 7 0 122, ra (.if_icmp .gt 7) 9 8, rv (.iconst 1) 12 0 1, ra (.goto 4) 13 9, rv (.iconst 0) 16 0 0, ra .ireturn 17 1]
def mt23 : List (List RI) := [mt23_0]
def mt24_0 : List RI := [r0 (.iload_n 0) 0, rv (.bipush 48) 1 0 48, ra (.if_icmp .lt 13) 3 8, r0 (.iload_n 0) 6, rv (.bipush 57) 7 0 57, ra (.if_icmp .gt 7) 9 8, rv (.iconst 1) 12 0 1, ra (.goto 4) 13 9, rv (.iconst 0) 16 0 0, ra .ireturn 17 1]
def mt24 : List (List RI) := [mt24_0]
def mt25_0 : List RI := [r0 (.iload_n 0) 0, rt (.tableswitch 124 40 61 #[103, 105, 115, 109, 124, 112, 124, 124, 124, 124, 124, 124, 124, 124, 124, 124, 124, 124, 124, 107, 118, 121]) 1 18 [(40, 2), (41, 4), (42, 12), (43, 8), (44, 18), (45, 10), (46, 18), (47, 18), (48, 18), (49, 18), (50, 18), (51, 18), (52, 18), (53, 18), (54, 18), (55, 18), (56, 18), (57, 18), (58, 18), (59, 6), (60, 14), (61, 16)], rv (.iconst 2) 104 0 2, r0 .ireturn 105, rv (.iconst 3) 106 0 3, r0 .ireturn 107, rv (.iconst 4) 108 0 4, r0 .ireturn 109, rv (.bipush (-13)) 110 0 (-13), r0 .ireturn 112, rv (.bipush (-14)) 113 0 (-14), r0 .ireturn 115, rv (.bipush (-15)) 116 0 (-15), r0 .ireturn 118, rv (.bipush (-11)) 119 0 (-11), r0 .ireturn 121, rv (.bipush (-12)) 122 0 (-12), r0 .ireturn 124, rv (.bipush 6) 125 0 6, r0 .ireturn 127]
def mt25 : List (List RI) := [mt25_0]
def mt26_0 : List RI := [r0 (.iload_n 1) 0, ra (.ifCond .lt 12) 1 7, r0 (.iload_n 1) 4, rv (.iconst 4) 5 0 4, ra (.if_icmp .ge 7) 6 7, rv (.iconst 1) 9 0 1, ra (.goto 4) 10 8, rv (.iconst 0) 13 0 0, ra .ireturn 14 1]
def mt26 : List (List RI) := [mt26_0]
def mt27_0 : List RI := [r0 (.lload_n 2) 0, rw (.lconst 0) 1 0 0, r0 .lcmp 2, ra (.ifCond .lt 23) 3 17, r0 (.lload_n 2) 6, r0 (.iload 4) 7, r0 .i2l 9, r0 .ladd 10, r0 (.aload_n 0) 11, rf (.getfield 18) 12 1 2 0 208, r0 (.iload_n 1) 15, r0 .iaload 16, r0 .i2l 17, r0 .lcmp 18, ra (.ifCond .gt 7) 19 17, rv (.iconst 1) 22 0 1, ra (.goto 4) 23 18, rv (.iconst 0) 26 0 0, ra .ireturn 27 1]
def mt27 : List (List RI) := [mt27_0]
def mt28_0 : List RI := [r0 (.aload_n 0) 0, rf (.getfield 15) 1 1 1 0 206, r0 (.iload_n 1) 4, r0 (.iload_n 2) 5, r0 .iastore 6, r0 (.aload_n 0) 7, rf (.getfield 18) 8 1 2 0 208, r0 (.iload_n 1) 11, r0 (.iload_n 3) 12, r0 .iastore 13, rv (.iconst 0) 14 0 0, r0 (.istore 4) 15, r0 (.iload 4) 17, r0 (.iload_n 3) 19, ra (.if_icmp .ge 22) 20 26, r0 (.aload_n 0) 23, rf (.getfield 9) 24 1 0 0 205, r0 (.iload_n 1) 27, rv (.bipush 40) 28 0 40, r0 .imul 30, r0 (.iload 4) 31, r0 .iadd 33, rv (.iconst 0) 34 0 0, r0 .iastore 35, rv (.iinc 4 1) 36 0 1, ra (.goto (-22)) 39 12, r0 .return_ 42]
def mt28 : List (List RI) := [mt28_0]
def mt29_0 : List RI := [r0 (.aload_n 0) 0, rf (.getfield 9) 1 1 0 0 205, r0 (.iload_n 1) 4, rv (.bipush 40) 5 0 40, r0 .imul 7, r0 (.iload_n 2) 8, r0 .iadd 9, r0 .iaload 10, r0 .ireturn 11]
def mt29 : List (List RI) := [mt29_0]
def mt30_0 : List RI := [r0 (.aload_n 0) 0, rf (.getfield 15) 1 1 1 0 206, r0 (.iload_n 1) 4, r0 .iaload 5, ra (.ifCond .ne 8) 6 8, r0 (.iload_n 3) 9, r0 .i2b 10, ra (.goto 19) 11 18, r0 (.aload_n 0) 14, rf (.getfield 15) 15 1 1 0 206, r0 (.iload_n 1) 18, r0 .iaload 19, rv (.iconst 1) 20 0 1, ra (.if_icmp .ne 8) 21 17, r0 (.iload_n 3) 24, r0 .i2s 25, ra (.goto 4) 26 18, r0 (.iload_n 3) 29, r0 (.istore 4) 30, r0 (.aload_n 0) 32, rf (.getfield 9) 33 1 0 0 205, r0 (.iload_n 1) 36, rv (.bipush 40) 37 0 40, r0 .imul 39, r0 (.iload_n 2) 40, r0 .iadd 41, r0 (.iload 4) 42, r0 .iastore 44, r0 .return_ 45]
def mt30 : List (List RI) := [mt30_0]
def mt31_0 : List RI := [r0 (.aload_n 0) 0, rf (.getfield 9) 1 1 0 0 205, r0 (.iload_n 1) 4, rv (.bipush 40) 5 0 40, r0 .imul 7, r0 (.iload_n 2) 8, r0 .iadd 9, r0 (.aload_n 0) 10, rf (.getfield 9) 11 1 0 0 205, r0 (.iload_n 3) 14, rv (.bipush 40) 15 0 40, r0 .imul 17, r0 (.iload 4) 18, r0 .iadd 20, r0 (.iload 5) 21, ri (.invokestatic 21) 23 200 5 3 0 0 706, r0 .return_ 26]
def mt31 : List (List RI) := [mt31_0]
def mt32_0 : List RI := [rv (.iconst 0) 0 0 0, r0 (.istore_n 2) 1, r0 (.iload_n 2) 2, r0 (.aload_n 1) 3, rf (.getfield 28) 4 2 6 0 160, ra (.if_icmp .ge 69) 7 48, r0 (.aload_n 0) 10, rf (.getfield 9) 11 2 1 0 150, r0 (.iload_n 2) 14, r0 (.aload_n 1) 15, rf (.getfield 9) 16 2 1 0 150, r0 (.iload_n 2) 19, r0 .iaload 20, r0 .iastore 21, r0 (.aload_n 0) 22, rf (.getfield 15) 23 2 2 0 152, r0 (.iload_n 2) 26, r0 (.aload_n 1) 27, rf (.getfield 15) 28 2 2 0 152, r0 (.iload_n 2) 31, r0 .iaload 32, r0 .iastore 33, r0 (.aload_n 0) 34, rf (.getfield 18) 35 2 3 0 154, r0 (.iload_n 2) 38, r0 (.aload_n 1) 39, rf (.getfield 18) 40 2 3 0 154, r0 (.iload_n 2) 43, r0 .iaload 44, r0 .iastore 45, r0 (.aload_n 0) 46, rf (.getfield 21) 47 2 4 0 156]
def mt32_1 : List RI := [r0 (.iload_n 2) 50, r0 (.aload_n 1) 51, rf (.getfield 21) 52 2 4 0 156, r0 (.iload_n 2) 55, r0 .baload 56, r0 .bastore 57, r0 (.aload_n 0) 58, rf (.getfield 25) 59 2 5 0 158, r0 (.iload_n 2) 62, r0 (.aload_n 1) 63, rf (.getfield 25) 64 2 5 0 158, r0 (.iload_n 2) 67, r0 .iaload 68, r0 .iastore 69, rv (.iinc 2 1) 70 0 1, ra (.goto (-71)) 73 2, r0 (.aload_n 0) 76, r0 (.aload_n 1) 77, rf (.getfield 28) 78 2 6 0 160, rf (.putfield 28) 81 2 6 0 160, r0 (.aload_n 0) 84, r0 (.aload_n 1) 85, rf (.getfield 32) 86 2 7 0 162, rf (.putfield 32) 89 2 7 0 162, r0 (.aload_n 0) 92, r0 (.aload_n 1) 93, rf (.getfield 35) 94 2 8 0 164, rf (.putfield 35) 97 2 8 0 164, r0 (.aload_n 0) 100, r0 (.aload_n 1) 101, rf (.getfield 38) 102 2 9 0 166, rf (.putfield 38) 105 2 9 0 166]
def mt32_2 : List RI := [r0 (.aload_n 0) 108, r0 (.aload_n 1) 109, rf (.getfield 41) 110 2 10 0 168, rf (.putfield 41) 113 2 10 0 168, r0 (.aload_n 0) 116, r0 (.aload_n 1) 117, rf (.getfield 44) 118 2 11 0 170, rf (.putfield 44) 121 2 11 0 170, r0 .return_ 124]
def mt32 : List (List RI) := [mt32_0, mt32_1, mt32_2]
def mt33_0 : List RI := [r0 (.lload_n 1) 0, rw (.lconst 0) 1 0 0, r0 .lcmp 2, ra (.ifCond .lt 17) 3 12, r0 (.lload_n 1) 6, r0 (.aload_n 0) 7, rf (.getfield 28) 8 2 6 0 160, r0 .i2l 11, r0 .lcmp 12, ra (.ifCond .ge 7) 13 12, rv (.iconst 1) 16 0 1, ra (.goto 4) 17 13, rv (.iconst 0) 20 0 0, ra .ireturn 21 1]
def mt33 : List (List RI) := [mt33_0]
def mt34_0 : List RI := [r0 (.iload_n 1) 0, rv (.iconst 0) 1 0 0, rv (.bipush 59) 2 0 59, ri (.invokestatic 51) 4 90 3 2 1 4 487, ra (.ifCond .eq 13) 7 10, r0 (.iload_n 2) 10, rv (.iconst 0) 11 0 0, rv (.bipush 63) 12 0 63, ri (.invokestatic 51) 14 90 3 2 1 4 487, ra (.ifCond .ne 6) 17 12, rv (.bipush (-2)) 20 0 (-2), r0 .ireturn 22, r0 (.aload_n 0) 23, rf (.getfield 28) 24 2 6 0 160, rv (.bipush 6) 27 0 6, ra (.if_icmp .lt 6) 29 18, rv (.bipush (-4)) 32 0 (-4), r0 .ireturn 34, r0 (.aload_n 0) 35, rf (.getfield 28) 36 2 6 0 160, r0 (.istore_n 3) 39, r0 (.aload_n 0) 40, rf (.getfield 9) 41 2 1 0 150, r0 (.iload_n 3) 44, r0 (.iload_n 1) 45, rv (.bipush 10) 46 0 10, r0 .idiv 48, r0 .iastore 49, r0 (.aload_n 0) 50, rf (.getfield 15) 51 2 2 0 152, r0 (.iload_n 3) 54, r0 (.iload_n 1) 55]
def mt34_1 : List RI := [rv (.bipush 10) 56 0 10, r0 .irem 58, r0 .iastore 59, r0 (.aload_n 0) 60, rf (.getfield 18) 61 2 3 0 154, r0 (.iload_n 3) 64, r0 (.iload_n 2) 65, r0 .iastore 66, r0 (.aload_n 0) 67, rf (.getfield 21) 68 2 4 0 156, r0 (.iload_n 3) 71, rv (.iconst 0) 72 0 0, r0 .bastore 73, r0 (.aload_n 0) 74, rf (.getfield 25) 75 2 5 0 158, r0 (.iload_n 3) 78, rv (.iconst 0) 79 0 0, r0 .iastore 80, r0 (.aload_n 0) 81, r0 .dup 82, rf (.getfield 28) 83 2 6 0 160, rv (.iconst 1) 86 0 1, r0 .iadd 87, rf (.putfield 28) 88 2 6 0 160, r0 (.iload_n 3) 91, r0 .ireturn 92]
def mt34 : List (List RI) := [mt34_0, mt34_1]
def mt35_0 : List RI := [r0 (.aload_n 0) 0, rf (.getfield 18) 1 2 3 0 154, r0 (.iload_n 1) 4, r0 .iaload 5, rv (.iconst (-1)) 6 0 (-1), ra (.if_icmp .eq 16) 7 13, r0 (.aload_n 0) 10, rf (.getfield 21) 11 2 4 0 156, r0 (.iload_n 1) 14, r0 .baload 15, ra (.ifCond .ne 7) 16 13, rv (.iconst 1) 19 0 1, ra (.goto 4) 20 14, rv (.iconst 0) 23 0 0, ra .ireturn 24 1]
def mt35 : List (List RI) := [mt35_0]
def mt36_0 : List RI := [r0 (.aload_n 0) 0, rf (.getfield 18) 1 2 3 0 154, r0 (.iload_n 1) 4, r0 .iaload 5, rv (.iconst (-1)) 6 0 (-1), ra (.if_icmp .ne 15) 7 12, r0 (.aload_n 0) 10, rf (.getfield 38) 11 2 9 0 166, r0 (.iload_n 1) 14, ra (.if_icmp .eq 7) 15 12, rv (.iconst 1) 18 0 1, ra (.goto 4) 19 13, rv (.iconst 0) 22 0 0, ra .ireturn 23 1]
def mt36 : List (List RI) := [mt36_0]
def mt37_0 : List RI := [r0 (.aload_n 0) 0, r0 (.iload_n 1) 1, ri (.invokevirtual 55) 2 35 2 0 1 2 272, ra (.ifCond .ne 5) 5 6, rv (.iconst 0) 8 0 0, ra .ireturn 9 1, r0 (.aload_n 0) 10, r0 (.iload_n 1) 11, ri (.invokevirtual 59) 12 40 2 0 1 2 276, r0 (.istore_n 2) 15, rv (.iconst 0) 16 0 0, r0 (.istore_n 3) 17, r0 (.iload_n 3) 18, r0 (.aload_n 0) 19, rf (.getfield 28) 20 2 6 0 160, ra (.if_icmp .ge 44) 23 39, r0 (.iload_n 3) 26, r0 (.iload_n 1) 27, ra (.if_icmp .eq 33) 28 37, r0 (.aload_n 0) 31, r0 (.iload_n 3) 32, ri (.invokevirtual 55) 33 35 2 0 1 2 272, ra (.ifCond .eq 25) 36 37, r0 (.aload_n 0) 39, rf (.getfield 18) 40 2 3 0 154, r0 (.iload_n 3) 43, r0 .iaload 44, r0 (.aload_n 0) 45, rf (.getfield 18) 46 2 3 0 154, r0 (.iload_n 1) 49, r0 .iaload 50, r0 .isub 51]
def mt37_1 : List RI := [ri (.invokestatic 63) 52 200 1 4 1 0 297, r0 (.iload_n 2) 55, ra (.if_icmp .ge 5) 56 37, rv (.iconst 0) 59 0 0, ra .ireturn 60 1, rv (.iinc 3 1) 61 0 1, ra (.goto (-46)) 64 12, rv (.iconst 1) 67 0 1, ra .ireturn 68 1]
def mt37 : List (List RI) := [mt37_0, mt37_1]
def mt38_0 : List RI := [rv (.iconst (-1)) 0 0 (-1), r0 (.istore_n 2) 1, rv (.iconst 0) 2 0 0, r0 (.istore_n 3) 3, r0 (.iload_n 3) 4, r0 (.aload_n 0) 5, rf (.getfield 28) 6 2 6 0 160, ra (.if_icmp .ge 67) 9 43, r0 (.iload_n 3) 12, r0 (.iload_n 1) 13, ra (.if_icmp .eq 56) 14 41, r0 (.aload_n 0) 17, r0 (.iload_n 3) 18, ri (.invokevirtual 55) 19 35 2 0 1 2 272, ra (.ifCond .eq 48) 22 41, r0 (.aload_n 0) 25, rf (.getfield 18) 26 2 3 0 154, r0 (.iload_n 1) 29, r0 .iaload 30, rv (.iconst (-1)) 31 0 (-1), ra (.if_icmp .eq 38) 32 41, r0 (.aload_n 0) 35, rf (.getfield 18) 36 2 3 0 154, r0 (.iload_n 3) 39, r0 .iaload 40, r0 (.aload_n 0) 41, rf (.getfield 18) 42 2 3 0 154, r0 (.iload_n 1) 45, r0 .iaload 46, r0 .isub 47, ri (.invokestatic 63) 48 200 1 4 1 0 297, r0 (.istore 4) 51]
def mt38_1 : List RI := [r0 (.iload_n 2) 53, rv (.iconst (-1)) 54 0 (-1), ra (.if_icmp .ne 8) 55 37, r0 (.iload 4) 58, ra (.goto 9) 60 40, r0 (.iload_n 2) 63, r0 (.iload 4) 64, ri (.invokestatic 68) 66 200 2 6 1 0 510, r0 (.istore_n 2) 69, rv (.iinc 3 1) 70 0 1, ra (.goto (-69)) 73 4, r0 (.iload_n 2) 76, r0 .ireturn 77]
def mt38 : List (List RI) := [mt38_0, mt38_1]
def mt39_0 : List RI := [r0 (.aload_n 0) 0, rf (.getfield 18) 1 2 3 0 154, r0 (.iload_n 1) 4, r0 .iaload 5, r0 (.aload_n 0) 6, rf (.getfield 18) 7 2 3 0 154, r0 (.iload_n 2) 10, r0 .iaload 11, ra (.if_icmp .lt 23) 12 21, r0 (.aload_n 0) 15, rf (.getfield 18) 16 2 3 0 154, r0 (.iload_n 1) 19, r0 .iaload 20, r0 (.aload_n 0) 21, rf (.getfield 18) 22 2 3 0 154, r0 (.iload_n 2) 25, r0 .iaload 26, ra (.if_icmp .ne 12) 27 23, r0 (.iload_n 1) 30, r0 (.iload_n 2) 31, ra (.if_icmp .ge 7) 32 23, rv (.iconst 1) 35 0 1, ra (.goto 4) 36 24, rv (.iconst 0) 39 0 0, r0 (.istore_n 3) 40, r0 (.iload_n 3) 41, ra (.ifCond .eq 19) 42 35, r0 (.aload_n 0) 45, r0 (.iload_n 1) 46, ri (.invokevirtual 55) 47 35 2 0 1 2 272, ra (.ifCond .eq 11) 50 35, r0 (.aload_n 0) 53]
def mt39_1 : List RI := [r0 (.iload_n 2) 54, ri (.invokevirtual 55) 55 35 2 0 1 2 272, ra (.ifCond .ne 5) 58 37, rv (.iconst 0) 61 0 0, ra .ireturn 62 1, rv (.iconst 0) 63 0 0, r0 (.istore 4) 64, r0 (.iload 4) 66, r0 (.aload_n 0) 68, rf (.getfield 28) 69 2 6 0 160, ra (.if_icmp .ge 52) 72 69, r0 (.aload_n 0) 75, r0 (.iload 4) 76, ri (.invokevirtual 55) 78 35 2 0 1 2 272, ra (.ifCond .eq 37) 81 67, r0 (.aload_n 0) 84, rf (.getfield 18) 85 2 3 0 154, r0 (.iload 4) 88, r0 .iaload 90, r0 (.aload_n 0) 91, rf (.getfield 18) 92 2 3 0 154, r0 (.iload_n 1) 95, r0 .iaload 96, ra (.if_icmp .le 21) 97 67, r0 (.aload_n 0) 100, rf (.getfield 18) 101 2 3 0 154, r0 (.iload 4) 104, r0 .iaload 106, r0 (.aload_n 0) 107, rf (.getfield 18) 108 2 3 0 154, r0 (.iload_n 2) 111, r0 .iaload 112]
def mt39_2 : List RI := [ra (.if_icmp .ge 5) 113 67, rv (.iconst 0) 116 0 0, ra .ireturn 117 1, rv (.iinc 4 1) 118 0 1, ra (.goto (-55)) 121 39, rv (.iconst 1) 124 0 1, ra .ireturn 125 1]
def mt39 : List (List RI) := [mt39_0, mt39_1, mt39_2]
def mt40_0 : List RI := [r0 (.aload_n 0) 0, rf (.getfield 9) 1 2 1 0 150, r0 (.iload_n 1) 4, r0 .iaload 5, rt (.tableswitch 67 1 5 #[34, 47, 34, 47, 65]) 6 28 [(1, 5), (2, 14), (3, 5), (4, 14), (5, 26)], r0 (.aload_n 0) 40, rf (.getfield 47) 41 2 0 0 149, rv (.iconst 0) 44 0 0, r0 (.aload_n 0) 45, r0 (.iload_n 1) 46, ri (.invokevirtual 72) 47 52 4 0 1 3 280, rv (.iconst 2) 50 0 2, r0 .idiv 51, r0 .ireturn 52, r0 (.aload_n 0) 53, rf (.getfield 47) 54 2 0 0 149, rv (.iconst 0) 57 0 0, r0 (.aload_n 0) 58, r0 (.iload_n 1) 59, ri (.invokevirtual 72) 60 52 4 0 1 3 280, r0 (.aload_n 0) 63, rf (.getfield 15) 64 2 2 0 152, r0 (.iload_n 1) 67, r0 .iaload 68, r0 .iadd 69, r0 .ireturn 70, rv (.iconst 0) 71 0 0, r0 .ireturn 72, r0 (.aload_n 0) 73, rf (.getfield 47) 74 2 0 0 149, rv (.iconst 0) 77 0 0, r0 (.aload_n 0) 78]
def mt40_1 : List RI := [r0 (.iload_n 1) 79, ri (.invokevirtual 72) 80 52 4 0 1 3 280, r0 .ireturn 83]
def mt40 : List (List RI) := [mt40_0, mt40_1]
def mt41_0 : List RI := [r0 (.aload_n 0) 0, rf (.getfield 9) 1 2 1 0 150, r0 (.iload_n 1) 4, r0 .iaload 5, rt (.tableswitch 106 1 5 #[66, 106, 34, 84, 96]) 6 51 [(1, 24), (2, 51), (3, 5), (4, 36), (5, 44)], r0 (.aload_n 0) 40, rf (.getfield 32) 41 2 7 0 162, rv (.iconst 4) 44 0 4, r0 .irem 45, ra (.ifCond .ne 8) 46 12, rv (.bipush 99) 49 0 99, ra (.goto 20) 51 23, r0 (.aload_n 0) 54, rf (.getfield 47) 55 2 0 0 149, rv (.iconst 1) 58 0 1, r0 (.aload_n 0) 59, r0 (.iload_n 1) 60, ri (.invokevirtual 72) 61 52 4 0 1 3 280, r0 (.aload_n 0) 64, rf (.getfield 15) 65 2 2 0 152, r0 (.iload_n 1) 68, r0 .iaload 69, r0 .isub 70, r0 .ireturn 71, r0 (.aload_n 0) 72, rf (.getfield 47) 73 2 0 0 149, rv (.iconst 1) 76 0 1, r0 (.aload_n 0) 77, r0 (.iload_n 1) 78, ri (.invokevirtual 72) 79 52 4 0 1 3 280, r0 (.aload_n 0) 82, rf (.getfield 15) 83 2 2 0 152]
def mt41_1 : List RI := [r0 (.iload_n 1) 86, r0 .iaload 87, r0 .isub 88, r0 .ireturn 89, r0 (.aload_n 0) 90, rf (.getfield 47) 91 2 0 0 149, rv (.iconst 1) 94 0 1, r0 (.aload_n 0) 95, r0 (.iload_n 1) 96, ri (.invokevirtual 72) 97 52 4 0 1 3 280, r0 .ineg 100, r0 .ireturn 101, rv (.bipush 10) 102 0 10, r0 (.aload_n 0) 104, rf (.getfield 15) 105 2 2 0 152, r0 (.iload_n 1) 108, r0 .iaload 109, r0 .imul 110, r0 .ireturn 111, r0 (.aload_n 0) 112, rf (.getfield 47) 113 2 0 0 149, rv (.iconst 1) 116 0 1, r0 (.aload_n 0) 117, r0 (.iload_n 1) 118, ri (.invokevirtual 72) 119 52 4 0 1 3 280, r0 .ireturn 122]
def mt41 : List (List RI) := [mt41_0, mt41_1]
def mt42_0 : List RI := [r0 (.aload_n 0) 0, rf (.getfield 9) 1 2 1 0 150, r0 (.iload_n 1) 4, r0 .iaload 5, rt (.tableswitch 102 2 4 #[26, 51, 76]) 6 51 [(2, 5), (3, 20), (4, 35)], r0 (.aload_n 0) 32, rf (.getfield 47) 33 2 0 0 149, rv (.iconst 2) 36 0 2, r0 (.aload_n 0) 37, r0 (.iload_n 1) 38, ri (.invokevirtual 72) 39 52 4 0 1 3 280, r0 (.aload_n 0) 42, r0 (.iload_n 1) 43, ri (.invokevirtual 78) 44 37 2 0 1 2 268, ra (.ifCond .eq 7) 47 17, rv (.iconst 1) 50 0 1, ra (.goto 4) 51 18, rv (.iconst 0) 54 0 0, r0 .iadd 55, r0 .ireturn 56, r0 (.aload_n 0) 57, r0 (.iload_n 1) 58, ri (.invokevirtual 78) 59 37 2 0 1 2 268, ra (.ifCond .eq 7) 62 26, rv (.iconst 0) 65 0 0, ra (.goto 15) 66 34, rv (.iconst (-1)) 69 0 (-1), r0 (.aload_n 0) 70, rf (.getfield 47) 71 2 0 0 149, rv (.iconst 2) 74 0 2, r0 (.aload_n 0) 75, r0 (.iload_n 1) 76]
def mt42_1 : List RI := [ri (.invokevirtual 72) 77 52 4 0 1 3 280, r0 .isub 80, r0 .ireturn 81, r0 (.aload_n 0) 82, rf (.getfield 32) 83 2 7 0 162, rv (.iconst 2) 86 0 2, r0 .irem 87, ra (.ifCond .ne 12) 88 45, r0 (.aload_n 0) 91, rf (.getfield 15) 92 2 2 0 152, r0 (.iload_n 1) 95, r0 .iaload 96, ra (.goto 10) 97 50, r0 (.aload_n 0) 100, rf (.getfield 15) 101 2 2 0 152, r0 (.iload_n 1) 104, r0 .iaload 105, r0 .ineg 106, r0 .ireturn 107, r0 (.aload_n 0) 108, rf (.getfield 47) 109 2 0 0 149, rv (.iconst 2) 112 0 2, r0 (.aload_n 0) 113, r0 (.iload_n 1) 114, ri (.invokevirtual 72) 115 52 4 0 1 3 280, r0 .ireturn 118]
def mt42 : List (List RI) := [mt42_0, mt42_1]
def mt43_0 : List RI := [rv (.iconst (-1)) 0 0 (-1), r0 (.istore_n 1) 1, rv (.iconst 0) 2 0 0, r0 (.istore_n 2) 3, rv (.iconst 0) 4 0 0, r0 (.istore_n 3) 5, r0 (.iload_n 3) 6, r0 (.aload_n 0) 7, rf (.getfield 28) 8 2 6 0 160, ra (.if_icmp .ge 40) 11 30, r0 (.aload_n 0) 14, r0 (.iload_n 3) 15, ri (.invokevirtual 78) 16 37 2 0 1 2 268, ra (.ifCond .eq 26) 19 28, r0 (.aload_n 0) 22, r0 (.iload_n 3) 23, ri (.invokevirtual 81) 24 41 2 0 1 2 300, r0 (.istore 4) 27, r0 (.iload_n 1) 29, rv (.iconst (-1)) 30 0 (-1), ra (.if_icmp .eq 9) 31 24, r0 (.iload 4) 34, r0 (.iload_n 2) 36, ra (.if_icmp .le 8) 37 28, r0 (.iload_n 3) 40, r0 (.istore_n 1) 41, r0 (.iload 4) 42, r0 (.istore_n 2) 44, rv (.iinc 3 1) 45 0 1, ra (.goto (-42)) 48 6, r0 (.iload_n 1) 51, r0 .ireturn 52]
def mt43 : List (List RI) := [mt43_0]
def mt44_0 : List RI := [r0 (.aload_n 0) 0, rf (.getfield 18) 1 2 3 0 154, r0 (.iload_n 1) 4, rv (.iconst 0) 5 0 0, rv (.bipush 63) 6 0 63, r0 (.aload_n 0) 8, rf (.getfield 18) 9 2 3 0 154, r0 (.iload_n 1) 12, r0 .iaload 13, r0 (.iload_n 2) 14, r0 .iadd 15, ri (.invokestatic 68) 16 200 2 6 1 0 510, ri (.invokestatic 84) 19 200 2 5 1 0 529, r0 .iastore 22, r0 .return_ 23]
def mt44 : List (List RI) := [mt44_0]
def mt45_0 : List RI := [rv (.iconst (-1)) 0 0 (-1), r0 (.istore_n 1) 1, r0 (.aload_n 0) 2, rf (.getfield 35) 3 2 8 0 164, ra (.ifCond .le 28) 6 18, r0 (.aload_n 0) 9, r0 .dup 10, rf (.getfield 35) 11 2 8 0 164, rv (.iconst 1) 14 0 1, r0 .isub 15, rf (.putfield 35) 16 2 8 0 164, r0 (.aload_n 0) 19, rf (.getfield 35) 20 2 8 0 164, ra (.ifCond .ne 21) 23 24, r0 (.aload_n 0) 26, rv (.iconst (-1)) 27 0 (-1), rf (.putfield 38) 28 2 9 0 166, ra (.goto 13) 31 24, r0 (.aload_n 0) 34, ri (.invokevirtual 87) 35 43 1 0 1 2 519, r0 (.istore_n 1) 38, r0 (.aload_n 0) 39, r0 (.iload_n 1) 40, ri (.invokevirtual 91) 41 46 2 0 0 2 520, rv (.iconst 0) 44 0 0, r0 (.istore_n 2) 45, r0 (.iload_n 2) 46, r0 (.aload_n 0) 47, rf (.getfield 28) 48 2 6 0 160, ra (.if_icmp .ge 48) 51 56, r0 (.aload_n 0) 54, rf (.getfield 18) 55 2 3 0 154]
def mt45_1 : List RI := [r0 (.iload_n 2) 58, r0 .iaload 59, rv (.iconst (-1)) 60 0 (-1), ra (.if_icmp .eq 32) 61 54, r0 (.aload_n 0) 64, r0 (.iload_n 2) 65, r0 (.aload_n 0) 66, r0 (.iload_n 2) 67, ri (.invokevirtual 95) 68 42 2 0 1 2 524, ri (.invokevirtual 98) 71 44 3 0 0 2 525, r0 (.aload_n 0) 74, rf (.getfield 25) 75 2 5 0 158, r0 (.iload_n 2) 78, rv (.bipush 99) 79 0 99, r0 (.aload_n 0) 81, rf (.getfield 25) 82 2 5 0 158, r0 (.iload_n 2) 85, r0 .iaload 86, rv (.iconst 1) 87 0 1, r0 .iadd 88, ri (.invokestatic 68) 89 200 2 6 1 0 510, r0 .iastore 92, rv (.iinc 2 1) 93 0 1, ra (.goto (-50)) 96 26, r0 (.aload_n 0) 99, r0 .dup 100, rf (.getfield 32) 101 2 7 0 162, rv (.iconst 1) 104 0 1, r0 .iadd 105, rf (.putfield 32) 106 2 7 0 162, r0 (.iload_n 1) 109, r0 .ireturn 110]
def mt45 : List (List RI) := [mt45_0, mt45_1]
def mt46_0 : List RI := [r0 (.iload_n 1) 0, rv (.iconst (-1)) 1 0 (-1), ra (.if_icmp .ne 4) 2 4, r0 .return_ 5, r0 (.aload_n 0) 6, rv (.iconst 1) 7 0 1, rv (.iconst 2) 8 0 2, r0 (.aload_n 0) 9, rf (.getfield 18) 10 2 3 0 154, r0 (.iload_n 1) 13, r0 .iaload 14, r0 .imul 15, rv (.bipush 63) 16 0 63, r0 .isub 18, ri (.invokestatic 63) 19 200 1 4 1 0 297, rv (.bipush 20) 22 0 20, r0 .idiv 24, r0 .iadd 25, rf (.putfield 35) 26 2 8 0 164, r0 (.aload_n 0) 29, rf (.getfield 18) 30 2 3 0 154, r0 (.iload_n 1) 33, rv (.iconst (-1)) 34 0 (-1), r0 .iastore 35, r0 (.aload_n 0) 36, r0 (.iload_n 1) 37, rf (.putfield 38) 38 2 9 0 166, r0 (.aload_n 0) 41, rv (.sipush 9999) 42 0 9999, r0 (.aload_n 0) 45, rf (.getfield 41) 46 2 10 0 168, rv (.iconst 1) 49 0 1]
def mt46_1 : List RI := [r0 .iadd 50, ri (.invokestatic 68) 51 200 2 6 1 0 510, rf (.putfield 41) 54 2 10 0 168, r0 .return_ 57]
def mt46 : List (List RI) := [mt46_0, mt46_1]
def mt47_0 : List RI := [rv (.iconst 0) 0 0 0, r0 (.istore_n 1) 1, rv (.iconst 0) 2 0 0, r0 (.istore_n 2) 3, r0 (.iload_n 2) 4, r0 (.aload_n 0) 5, rf (.getfield 28) 6 2 6 0 160, ra (.if_icmp .ge 23) 9 20, r0 (.aload_n 0) 12, r0 (.iload_n 2) 13, ri (.invokevirtual 78) 14 37 2 0 1 2 268, ra (.ifCond .eq 9) 17 18, r0 (.iload_n 1) 20, rv (.iconst 1) 21 0 1, r0 (.iload_n 2) 22, r0 .ishl 23, r0 .ior 24, r0 (.istore_n 1) 25, rv (.iinc 2 1) 26 0 1, ra (.goto (-25)) 29 4, r0 (.iload_n 1) 32, r0 .ireturn 33]
def mt47 : List (List RI) := [mt47_0]
def mt48_0 : List RI := [rv (.iconst 0) 0 0 0, r0 (.istore_n 1) 1, rv (.iconst 0) 2 0 0, r0 (.istore_n 2) 3, r0 (.iload_n 2) 4, r0 (.aload_n 0) 5, rf (.getfield 28) 6 2 6 0 160, ra (.if_icmp .ge 23) 9 20, r0 (.aload_n 0) 12, r0 (.iload_n 2) 13, ri (.invokevirtual 55) 14 35 2 0 1 2 272, ra (.ifCond .eq 9) 17 18, r0 (.iload_n 1) 20, rv (.iconst 1) 21 0 1, r0 (.iload_n 2) 22, r0 .ishl 23, r0 .ior 24, r0 (.istore_n 1) 25, rv (.iinc 2 1) 26 0 1, ra (.goto (-25)) 29 4, r0 (.iload_n 1) 32, r0 .ireturn 33]
def mt48 : List (List RI) := [mt48_0]
def mt49_0 : List RI := [rv (.iconst 0) 0 0 0, r0 (.istore_n 1) 1, rv (.iconst 0) 2 0 0, r0 (.istore_n 2) 3, r0 (.iload_n 2) 4, r0 (.aload_n 0) 5, rf (.getfield 28) 6 2 6 0 160, ra (.if_icmp .ge 23) 9 20, r0 (.aload_n 0) 12, r0 (.iload_n 2) 13, ri (.invokevirtual 102) 14 36 2 0 1 2 316, ra (.ifCond .eq 9) 17 18, r0 (.iload_n 1) 20, rv (.iconst 1) 21 0 1, r0 (.iload_n 2) 22, r0 .ishl 23, r0 .ior 24, r0 (.istore_n 1) 25, rv (.iinc 2 1) 26 0 1, ra (.goto (-25)) 29 4, r0 (.iload_n 1) 32, r0 .ireturn 33]
def mt49 : List (List RI) := [mt49_0]
def mt50_0 : List RI := [r0 (.iload_n 1) 0, rt (.tableswitch 84 (-6) (-1) #[77, 72, 84, 67, 60, 39]) 1 31 [((-6), 26), ((-5), 23), ((-4), 31), ((-3), 20), ((-2), 15), ((-1), 2)], r0 (.aload_n 0) 40, rf (.getfield 18) 41 2 3 0 154, r0 (.iload_n 2) 44, r0 .iaload 45, rv (.iconst (-1)) 46 0 (-1), ra (.if_icmp .ne 7) 47 10, rv (.iconst 0) 50 0 0, ra (.goto 9) 51 14, r0 (.aload_n 0) 54, rf (.getfield 18) 55 2 3 0 154, r0 (.iload_n 2) 58, r0 .iaload 59, r0 .ireturn 60, r0 (.aload_n 0) 61, rf (.getfield 25) 62 2 5 0 158, r0 (.iload_n 2) 65, r0 .iaload 66, r0 .ireturn 67, r0 (.aload_n 0) 68, rf (.getfield 32) 69 2 7 0 162, r0 .ireturn 72, r0 (.aload_n 0) 73, rf (.getfield 41) 74 2 10 0 168, r0 .ireturn 77, r0 (.aload_n 0) 78, rf (.getfield 15) 79 2 2 0 152, r0 (.iload_n 2) 82, r0 .iaload 83, r0 .ireturn 84, rv (.iconst 0) 85 0 0]
def mt50_1 : List RI := [r0 (.istore_n 3) 86, rv (.iconst 0) 87 0 0, r0 (.istore 4) 88, r0 (.iload 4) 90, r0 (.aload_n 0) 92, rf (.getfield 28) 93 2 6 0 160, ra (.if_icmp .ge 33) 96 53, r0 (.aload_n 0) 99, rf (.getfield 18) 100 2 3 0 154, r0 (.iload 4) 103, r0 .iaload 105, rv (.iconst (-1)) 106 0 (-1), ra (.if_icmp .eq 16) 107 51, r0 (.aload_n 0) 110, rf (.getfield 21) 111 2 4 0 156, r0 (.iload 4) 114, r0 .baload 116, ra (.ifCond .ne 6) 117 51, rv (.iinc 3 1) 120 0 1, rv (.iinc 4 1) 123 0 1, ra (.goto (-36)) 126 35, r0 (.iload_n 3) 129, r0 .ireturn 130]
def mt50 : List (List RI) := [mt50_0, mt50_1]
def mt51_0 : List RI := [r0 (.aload_n 0) 0, rf (.getfield 9) 1 3 0 0 87, rv (.iconst 0) 4 0 0, rv (.iconst 5) 5 0 5, r0 .iastore 6, r0 (.aload_n 0) 7, rf (.getfield 9) 8 3 0 0 87, rv (.iconst 1) 11 0 1, rv (.bipush (-2)) 12 0 (-2), r0 .iastore 14, r0 (.aload_n 0) 15, rf (.getfield 9) 16 3 0 0 87, rv (.iconst 2) 19 0 2, rv (.iconst 0) 20 0 0, r0 .iastore 21, rv (.iconst 0) 22 0 0, r0 (.istore_n 1) 23, r0 (.iload_n 1) 24, rv (.iconst 3) 25 0 3, ra (.if_icmp .ge 25) 26 34, r0 (.aload_n 0) 29, rf (.getfield 15) 30 3 1 0 89, r0 (.iload_n 1) 33, r0 (.iload_n 1) 34, r0 .iastore 35, r0 (.aload_n 0) 36, rf (.getfield 18) 37 3 2 0 91, r0 (.iload_n 1) 40, r0 (.iload_n 1) 41, rv (.iconst 1) 42 0 1, r0 .iadd 43, r0 .iastore 44]
def mt51_1 : List RI := [rv (.iinc 1 1) 45 0 1, ra (.goto (-24)) 48 17, r0 (.aload_n 0) 51, rv (.iconst 1) 52 0 1, rf (.putfield 24) 53 3 4 0 94, r0 .return_ 56]
def mt51 : List (List RI) := [mt51_0, mt51_1]
def mt52_0 : List RI := [r0 (.aload_n 2) 0, rf (.getfield 28) 1 2 11 0 172, rv (.iconst 3) 4 0 3, r0 .imul 5, r0 (.iload_n 1) 6, r0 .iadd 7, r0 (.istore 4) 8, rv (.iconst (-1)) 10 0 (-1), r0 (.istore 5) 11, r0 (.aload_n 0) 13, rf (.getfield 15) 14 3 1 0 89, r0 (.iload 4) 17, r0 .iaload 19, r0 (.istore 6) 20, r0 (.iload 6) 22, r0 (.aload_n 0) 24, rf (.getfield 18) 25 3 2 0 91, r0 (.iload 4) 28, r0 .iaload 30, ra (.if_icmp .ge 160) 31 99, r0 (.aload_n 0) 34, rf (.getfield 9) 35 3 0 0 87, r0 (.iload 6) 38, r0 .iaload 40, r0 (.istore 7) 41, r0 (.iload 7) 43, rv (.bipush (-6)) 45 0 (-6), ra (.if_icmp .lt 43) 47 47, rv (.iinc 5 1) 50 0 1, r0 (.iload 5) 53, rv (.sipush 160) 55 0 160, ra (.if_icmp .lt 5) 58 34]
def mt52_1 : List RI := [rv (.iconst 0) 61 0 0, r0 .ireturn 62, r0 (.aload_n 0) 63, rf (.getfield 21) 64 3 3 0 93, r0 (.iload 5) 67, r0 (.iload 7) 69, ra (.ifCond .lt 8) 71 41, r0 (.iload 7) 74, ra (.goto 10) 76 45, r0 (.aload_n 2) 79, r0 (.iload 7) 80, r0 (.iload_n 3) 82, ri (.invokevirtual 33) 83 50 3 0 1 2 284, r0 .iastore 86, ra (.goto 98) 87 97, r0 (.iload 7) 90, rv (.bipush (-8)) 92 0 (-8), ra (.if_icmp .lt 53) 94 76, r0 (.iload 5) 97, ra (.ifCond .ge 5) 99 54, rv (.iconst 0) 102 0 0, r0 .ireturn 103, r0 (.aload_n 0) 104, rf (.getfield 21) 105 3 3 0 93, r0 (.iload 5) 108, r0 (.iload 7) 110, rv (.bipush (-7)) 112 0 (-7), ra (.if_icmp .ne 14) 114 66, r0 (.aload_n 0) 117, rf (.getfield 21) 118 3 3 0 93, r0 (.iload 5) 121, r0 .iaload 123]
def mt52_2 : List RI := [r0 .ineg 124, ra (.goto 18) 125 74, r0 (.aload_n 0) 128, rf (.getfield 21) 129 3 3 0 93, r0 (.iload 5) 132, r0 .iaload 134, ra (.ifCond .ne 7) 135 73, rv (.iconst 1) 138 0 1, ra (.goto 4) 139 74, rv (.iconst 0) 142 0 0, r0 .iastore 143, ra (.goto 41) 144 97, rv (.iinc 5 (-1)) 147 0 (-1), r0 (.iload 5) 150, ra (.ifCond .ge 5) 152 81, rv (.iconst 0) 155 0 0, r0 .ireturn 156, r0 (.aload_n 0) 157, rf (.getfield 21) 158 3 3 0 93, r0 (.iload 5) 161, r0 (.iload 7) 163, r0 (.aload_n 0) 165, rf (.getfield 21) 166 3 3 0 93, r0 (.iload 5) 169, r0 .iaload 171, r0 (.aload_n 0) 172, rf (.getfield 21) 173 3 3 0 93, r0 (.iload 5) 176, rv (.iconst 1) 178 0 1, r0 .iadd 179, r0 .iaload 180, ri (.invokestatic 37) 181 53 3 1 1 3 288]
def mt52_3 : List RI := [r0 .iastore 184, rv (.iinc 6 1) 185 0 1, ra (.goto (-166)) 188 14, r0 (.iload 5) 191, ra (.ifCond .ge 7) 193 103, rv (.iconst 0) 196 0 0, ra (.goto 10) 197 107, r0 (.aload_n 0) 200, rf (.getfield 21) 201 3 3 0 93, r0 (.iload 5) 204, r0 .iaload 206, r0 (.istore 6) 207, r0 (.iload_n 1) 209, ra (.ifCond .ne 7) 210 112, rv (.iconst 0) 213 0 0, ra (.goto 5) 214 113, rv (.bipush (-99)) 217 0 (-99), r0 (.istore 7) 219, r0 (.iload 7) 221, rv (.bipush 99) 223 0 99, r0 (.iload 6) 225, ri (.invokestatic 41) 227 200 2 6 1 0 291, ri (.invokestatic 46) 230 200 2 5 1 0 294, r0 .ireturn 233]
def mt52 : List (List RI) := [mt52_0, mt52_1, mt52_2, mt52_3]
def mt53_0 : List RI := [r0 (.iload_n 0) 0, rt (.tableswitch 105 (-15) (-9) #[101, 97, 93, 82, 71, 57, 43]) 1 44 [((-15), 40), ((-14), 36), ((-13), 32), ((-12), 25), ((-11), 18), ((-10), 10), ((-9), 2)], r0 (.iload_n 1) 44, ra (.ifCond .ne 7) 45 6, r0 (.iload_n 2) 48, ra (.ifCond .eq 7) 49 8, rv (.iconst 1) 52 0 1, ra (.goto 4) 53 9, rv (.iconst 0) 56 0 0, r0 .ireturn 57, r0 (.iload_n 1) 58, ra (.ifCond .eq 11) 59 16, r0 (.iload_n 2) 62, ra (.ifCond .eq 7) 63 16, rv (.iconst 1) 66 0 1, ra (.goto 4) 67 17, rv (.iconst 0) 70 0 0, r0 .ireturn 71, r0 (.iload_n 1) 72, r0 (.iload_n 2) 73, ra (.if_icmp .ge 7) 74 23, rv (.iconst 1) 77 0 1, ra (.goto 4) 78 24, rv (.iconst 0) 81 0 0, r0 .ireturn 82, r0 (.iload_n 1) 83, r0 (.iload_n 2) 84, ra (.if_icmp .ne 7) 85 30, rv (.iconst 1) 88 0 1, ra (.goto 4) 89 31, rv (.iconst 0) 92 0 0, r0 .ireturn 93]
def mt53_1 : List RI := [r0 (.iload_n 1) 94, r0 (.iload_n 2) 95, r0 .iadd 96, r0 .ireturn 97, r0 (.iload_n 1) 98, r0 (.iload_n 2) 99, r0 .isub 100, r0 .ireturn 101, r0 (.iload_n 1) 102, r0 (.iload_n 2) 103, r0 .imul 104, r0 .ireturn 105, rv (.iconst 0) 106 0 0, r0 .ireturn 107]
def mt53 : List (List RI) := [mt53_0, mt53_1]
def mt54_0 : List RI := [r0 (.iload_n 1) 0, rt (.tableswitch 84 0 5 #[39, 47, 55, 63, 71, 79]) 1 25 [(0, 2), (1, 6), (2, 10), (3, 14), (4, 18), (5, 22)], r0 (.aload_n 0) 40, rf (.getfield 34) 41 4 3 0 224, rf (.getfield 62) 44 2 6 0 161, r0 .ireturn 47, r0 (.aload_n 0) 48, rf (.getfield 34) 49 4 3 0 224, rf (.getfield 65) 52 2 7 0 163, r0 .ireturn 55, r0 (.aload_n 0) 56, rf (.getfield 34) 57 4 3 0 224, rf (.getfield 68) 60 2 10 0 169, r0 .ireturn 63, r0 (.aload_n 0) 64, rf (.getfield 16) 65 4 1 0 222, rf (.getfield 71) 68 3 4 0 96, r0 .ireturn 71, r0 (.aload_n 0) 72, rf (.getfield 34) 73 4 3 0 224, rf (.getfield 74) 76 2 11 0 171, r0 .ireturn 79, r0 (.aload_n 0) 80, rf (.getfield 51) 81 4 7 0 228, r0 .ireturn 84, rv (.bipush (-2)) 85 0 (-2), r0 .ireturn 87]
def mt54 : List (List RI) := [mt54_0]
def mt55_0 : List RI := [r0 (.iload_n 1) 0, ra (.ifCond .ne 33) 1 16, r0 (.iload_n 2) 4, rv (.iconst 0) 5 0 0, rv (.sipush 9999) 6 0 9999, ri (.invokestatic 77) 9 90 3 1 1 4 257, ra (.ifCond .eq 22) 12 16, r0 (.aload_n 0) 15, rf (.getfield 34) 16 4 3 0 224, rf (.getfield 65) 19 2 7 0 163, r0 (.istore_n 3) 22, r0 (.aload_n 0) 23, rf (.getfield 34) 24 4 3 0 224, r0 (.iload_n 2) 27, rf (.putfield 65) 28 2 7 0 163, ra (.goto 40) 31 35, r0 (.iload_n 1) 34, rv (.iconst 1) 35 0 1, ra (.if_icmp .ne 32) 36 33, r0 (.iload_n 2) 39, rv (.iconst 0) 40 0 0, rv (.bipush 99) 41 0 99, ri (.invokestatic 77) 43 90 3 1 1 4 257, ra (.ifCond .eq 22) 46 33, r0 (.aload_n 0) 49, rf (.getfield 34) 50 4 3 0 224, rf (.getfield 81) 53 2 8 0 165, r0 (.istore_n 3) 56, r0 (.aload_n 0) 57, rf (.getfield 34) 58 4 3 0 224, r0 (.iload_n 2) 61, rf (.putfield 81) 62 2 8 0 165]
def mt55_1 : List RI := [ra (.goto 6) 65 35, rv (.bipush (-2)) 68 0 (-2), r0 (.istore_n 3) 70, r0 (.iload_n 3) 71, r0 .ireturn 72]
def mt55 : List (List RI) := [mt55_0, mt55_1]
def mt56_0 : List RI := [r0 (.iload_n 1) 0, rt (.tableswitch 87 0 5 #[39, 47, 55, 63, 71, 79]) 1 26 [(0, 2), (1, 6), (2, 10), (3, 14), (4, 18), (5, 22)], r0 (.aload_n 0) 40, rf (.getfield 34) 41 4 3 0 224, rf (.getfield 81) 44 2 8 0 165, r0 .ireturn 47, r0 (.aload_n 0) 48, rf (.getfield 34) 49 4 3 0 224, rf (.getfield 84) 52 2 9 0 167, r0 .ireturn 55, r0 (.aload_n 0) 56, rf (.getfield 34) 57 4 3 0 224, ri (.invokevirtual 87) 60 43 1 0 1 2 264, r0 .ireturn 63, r0 (.aload_n 0) 64, rf (.getfield 34) 65 4 3 0 224, ri (.invokevirtual 91) 68 47 1 0 1 2 304, r0 .ireturn 71, r0 (.aload_n 0) 72, rf (.getfield 34) 73 4 3 0 224, ri (.invokevirtual 94) 76 48 1 0 1 2 308, r0 .ireturn 79, r0 (.aload_n 0) 80, rf (.getfield 34) 81 4 3 0 224, ri (.invokevirtual 97) 84 49 1 0 1 2 312, r0 .ireturn 87, rv (.bipush (-7)) 88 0 (-7), r0 .ireturn 90]
def mt56 : List (List RI) := [mt56_0]
def mt57_0 : List RI := [r0 (.iload_n 1) 0, rv (.iconst 1) 1 0 1, rv (.iconst 5) 2 0 5, ri (.invokestatic 77) 3 90 3 1 1 4 257, ra (.ifCond .eq 41) 6 20, r0 (.iload_n 2) 9, ri (.invokestatic 100) 10 91 1 1 1 4 324, ra (.ifCond .eq 34) 13 20, r0 (.iload_n 3) 16, ri (.invokestatic 100) 17 91 1 1 1 4 324, ra (.ifCond .eq 27) 20 20, r0 (.iload 4) 23, ri (.invokestatic 100) 25 91 1 1 1 4 324, ra (.ifCond .eq 19) 28 20, r0 (.iload 5) 31, ri (.invokestatic 100) 33 91 1 1 1 4 324, ra (.ifCond .eq 11) 36 20, r0 (.iload 6) 39, ri (.invokestatic 100) 41 91 1 1 1 4 324, ra (.ifCond .ne 6) 44 22, rv (.bipush (-2)) 47 0 (-2), r0 .ireturn 49, r0 (.iload_n 1) 50, rv (.sipush 160) 51 0 160, r0 (.aload_n 0) 54, rf (.getfield 51) 55 4 7 0 228, r0 .isub 58, ra (.if_icmp .le 6) 59 30, rv (.bipush (-4)) 62 0 (-4), r0 .ireturn 64, r0 (.aload_n 0) 65, r0 (.iload_n 2) 66]
def mt57_1 : List RI := [ri (.invokevirtual 104) 67 93 2 0 0 4 327, r0 (.iload_n 1) 70, rv (.iconst 1) 71 0 1, ra (.if_icmp .le 8) 72 39, r0 (.aload_n 0) 75, r0 (.iload_n 3) 76, ri (.invokevirtual 104) 77 93 2 0 0 4 327, r0 (.iload_n 1) 80, rv (.iconst 2) 81 0 2, ra (.if_icmp .le 9) 82 45, r0 (.aload_n 0) 85, r0 (.iload 4) 86, ri (.invokevirtual 104) 88 93 2 0 0 4 327, r0 (.iload_n 1) 91, rv (.iconst 3) 92 0 3, ra (.if_icmp .le 9) 93 51, r0 (.aload_n 0) 96, r0 (.iload 5) 97, ri (.invokevirtual 104) 99 93 2 0 0 4 327, r0 (.iload_n 1) 102, rv (.iconst 4) 103 0 4, ra (.if_icmp .le 9) 104 57, r0 (.aload_n 0) 107, r0 (.iload 6) 108, ri (.invokevirtual 104) 110 93 2 0 0 4 327, r0 (.aload_n 0) 113, rf (.getfield 51) 114 4 7 0 228, r0 .ireturn 117]
def mt57 : List (List RI) := [mt57_0, mt57_1]
def mt58_0 : List RI := [r0 (.aload_n 0) 0, rf (.getfield 16) 1 4 1 0 222, rf (.getfield 71) 4 3 4 0 96, rv (.bipush 6) 7 0 6, ra (.if_icmp .lt 6) 9 7, rv (.bipush (-4)) 12 0 (-4), r0 .ireturn 14, r0 (.aload_n 0) 15, rf (.getfield 25) 16 4 2 0 223, r0 (.aload_n 0) 19, rf (.getfield 51) 20 4 7 0 228, ri (.invokevirtual 108) 23 8 2 0 1 0 335, r0 (.istore_n 1) 26, r0 (.aload_n 0) 27, rv (.iconst 0) 28 0 0, rf (.putfield 51) 29 4 7 0 228, r0 (.iload_n 1) 32, rv (.iconst (-1)) 33 0 (-1), ra (.if_icmp .eq 8) 34 23, rv (.bipush (-100)) 37 0 (-100), r0 (.iload_n 1) 39, r0 .isub 40, r0 .ireturn 41, r0 (.aload_n 0) 42, rf (.getfield 16) 43 4 1 0 222, r0 .dup 46, rf (.getfield 71) 47 3 4 0 96, rv (.iconst 1) 50 0 1, r0 .iadd 51, rf (.putfield 71) 52 3 4 0 96, r0 (.aload_n 0) 55, rf (.getfield 16) 56 4 1 0 222]
def mt58_1 : List RI := [rf (.getfield 71) 59 3 4 0 96, rv (.iconst 1) 62 0 1, r0 .isub 63, r0 .ireturn 64]
def mt58 : List (List RI) := [mt58_0, mt58_1]
def mt59_0 : List RI := [r0 (.iload_n 1) 0, rv (.iconst 0) 1 0 0, r0 (.aload_n 0) 2, rf (.getfield 16) 3 4 1 0 222, rf (.getfield 71) 6 3 4 0 96, rv (.iconst 1) 9 0 1, r0 .isub 10, ri (.invokestatic 77) 11 90 3 1 1 4 257, ra (.ifCond .ne 6) 14 11, rv (.bipush (-2)) 17 0 (-2), r0 .ireturn 19, r0 (.aload_n 0) 20, rf (.getfield 34) 21 4 3 0 224, rf (.getfield 74) 24 2 11 0 171, r0 (.istore_n 2) 27, r0 (.aload_n 0) 28, rf (.getfield 34) 29 4 3 0 224, r0 (.iload_n 1) 32, rf (.putfield 74) 33 2 11 0 171, r0 (.iload_n 2) 36, r0 .ireturn 37]
def mt59 : List (List RI) := [mt59_0]
def mt60_0 : List RI := [r0 (.iload_n 1) 0, rv (.iconst 0) 1 0 0, rv (.iconst 2) 2 0 2, ri (.invokestatic 77) 3 90 3 1 1 4 257, ra (.ifCond .eq 15) 6 11, r0 (.aload_n 0) 9, rf (.getfield 34) 10 4 3 0 224, r0 (.iload_n 2) 13, r0 .i2l 14, ri (.invokevirtual 112) 15 33 2 0 1 2 474, ra (.ifCond .ne 7) 18 13, rv (.sipush (-1000)) 21 0 (-1000), r0 .ireturn 24, r0 (.aload_n 0) 25, rf (.getfield 16) 26 4 1 0 222, r0 (.iload_n 1) 29, r0 (.aload_n 0) 30, rf (.getfield 34) 31 4 3 0 224, r0 (.iload_n 2) 34, ri (.invokevirtual 116) 35 52 4 0 1 3 478, r0 .ireturn 38]
def mt60 : List (List RI) := [mt60_0]
def mt61_0 : List RI := [r0 (.aload_n 0) 0, rf (.getfield 34) 1 4 3 0 224, r0 (.iload_n 1) 4, r0 (.iload_n 2) 5, ri (.invokevirtual 120) 6 34 3 0 1 2 483, r0 .ireturn 9]
def mt61 : List (List RI) := [mt61_0]
def mt62_0 : List RI := [r0 (.aload_n 0) 0, rf (.getfield 34) 1 4 3 0 224, r0 (.iload_n 1) 4, r0 .i2l 5, ri (.invokevirtual 112) 6 33 2 0 1 2 474, ra (.ifCond .ne 6) 9 8, rv (.bipush (-5)) 12 0 (-5), r0 .ireturn 14, rv (.bipush (-7)) 15 0 (-7), r0 (.istore 4) 17, r0 (.iload_n 2) 19, ra (.ifCond .ne 48) 20 35, r0 (.aload_n 0) 23, rf (.getfield 34) 24 4 3 0 224, rf (.getfield 84) 27 2 9 0 167, r0 (.iload_n 1) 30, ra (.if_icmp .eq 37) 31 35, r0 (.iload_n 3) 34, rv (.iconst (-1)) 35 0 (-1), rv (.bipush 63) 36 0 63, ri (.invokestatic 77) 38 90 3 1 1 4 257, ra (.ifCond .eq 27) 41 35, r0 (.aload_n 0) 44, rf (.getfield 34) 45 4 3 0 224, rf (.getfield 124) 48 2 3 0 155, r0 (.iload_n 1) 51, r0 .iaload 52, r0 (.istore 4) 53, r0 (.aload_n 0) 55, rf (.getfield 34) 56 4 3 0 224, rf (.getfield 124) 59 2 3 0 155, r0 (.iload_n 1) 62]
def mt62_1 : List RI := [r0 (.iload_n 3) 63, r0 .iastore 64, ra (.goto 89) 65 82, r0 (.iload_n 2) 68, rv (.iconst 1) 69 0 1, ra (.if_icmp .ne 48) 70 62, r0 (.iload_n 3) 73, rv (.iconst 0) 74 0 0, rv (.iconst 1) 75 0 1, ri (.invokestatic 77) 76 90 3 1 1 4 257, ra (.ifCond .eq 39) 79 62, r0 (.aload_n 0) 82, rf (.getfield 34) 83 4 3 0 224, rf (.getfield 127) 86 2 4 0 157, r0 (.iload_n 1) 89, r0 .baload 90, ri (.invokestatic 131) 91 92 1 1 1 4 492, r0 (.istore 4) 94, r0 (.aload_n 0) 96, rf (.getfield 34) 97 4 3 0 224, rf (.getfield 127) 100 2 4 0 157, r0 (.iload_n 1) 103, r0 (.iload_n 3) 104, rv (.iconst 1) 105 0 1, ra (.if_icmp .ne 7) 106 59, rv (.iconst 1) 109 0 1, ra (.goto 4) 110 60, rv (.iconst 0) 113 0 0, r0 .bastore 114, ra (.goto 39) 115 82, r0 (.iload_n 2) 118, rv (.iconst 2) 119 0 2]
def mt62_2 : List RI := [ra (.if_icmp .ne 34) 120 82, r0 (.iload_n 3) 123, rv (.iconst 0) 124 0 0, rv (.bipush 99) 125 0 99, ri (.invokestatic 77) 127 90 3 1 1 4 257, ra (.ifCond .eq 24) 130 82, r0 (.aload_n 0) 133, rf (.getfield 34) 134 4 3 0 224, rf (.getfield 135) 137 2 5 0 159, r0 (.iload_n 1) 140, r0 .iaload 141, r0 (.istore 4) 142, r0 (.aload_n 0) 144, rf (.getfield 34) 145 4 3 0 224, rf (.getfield 135) 148 2 5 0 159, r0 (.iload_n 1) 151, r0 (.iload_n 3) 152, r0 .iastore 153, r0 (.iload 4) 154, r0 .ireturn 156]
def mt62 : List (List RI) := [mt62_0, mt62_1, mt62_2]
def mt63_0 : List RI := [r0 (.aload_n 0) 0, rf (.getfield 34) 1 4 3 0 224, r0 (.iload_n 1) 4, r0 .i2l 5, ri (.invokevirtual 112) 6 33 2 0 1 2 474, ra (.ifCond .ne 6) 9 8, rv (.bipush (-5)) 12 0 (-5), r0 .ireturn 14, r0 (.iload_n 2) 15, rt (.tableswitch 165 0 9 #[56, 66, 79, 89, 99, 109, 118, 131, 144, 156]) 16 71 [(0, 10), (1, 16), (2, 23), (3, 29), (4, 35), (5, 41), (6, 46), (7, 53), (8, 60), (9, 66)], r0 (.aload_n 0) 72, rf (.getfield 34) 73 4 3 0 224, rf (.getfield 124) 76 2 3 0 155, r0 (.iload_n 1) 79, r0 .iaload 80, r0 .ireturn 81, r0 (.aload_n 0) 82, rf (.getfield 34) 83 4 3 0 224, rf (.getfield 127) 86 2 4 0 157, r0 (.iload_n 1) 89, r0 .baload 90, ri (.invokestatic 131) 91 92 1 1 1 4 492, r0 .ireturn 94, r0 (.aload_n 0) 95, rf (.getfield 34) 96 4 3 0 224, rf (.getfield 135) 99 2 5 0 159, r0 (.iload_n 1) 102, r0 .iaload 103, r0 .ireturn 104, r0 (.aload_n 0) 105, rf (.getfield 34) 106 4 3 0 224, rf (.getfield 138) 109 2 1 0 151]
def mt63_1 : List RI := [r0 (.iload_n 1) 112, r0 .iaload 113, r0 .ireturn 114, r0 (.aload_n 0) 115, rf (.getfield 34) 116 4 3 0 224, rf (.getfield 141) 119 2 2 0 153, r0 (.iload_n 1) 122, r0 .iaload 123, r0 .ireturn 124, r0 (.aload_n 0) 125, rf (.getfield 34) 126 4 3 0 224, r0 (.iload_n 1) 129, ri (.invokevirtual 144) 130 40 2 0 1 2 499, r0 .ireturn 133, r0 (.aload_n 0) 134, rf (.getfield 34) 135 4 3 0 224, r0 (.iload_n 1) 138, ri (.invokevirtual 147) 139 41 2 0 1 2 500, rv (.sipush 1000) 142 0 1000, r0 .iadd 145, r0 .ireturn 146, r0 (.aload_n 0) 147, rf (.getfield 34) 148 4 3 0 224, r0 (.iload_n 1) 151, ri (.invokevirtual 150) 152 42 2 0 1 2 501, rv (.sipush 1000) 155 0 1000, r0 .iadd 158, r0 .ireturn 159, r0 (.aload_n 0) 160, rf (.getfield 34) 161 4 3 0 224, r0 (.iload_n 1) 164, ri (.invokevirtual 153) 165 37 2 0 1 2 505]
def mt63_2 : List RI := [ri (.invokestatic 131) 168 92 1 1 1 4 492, r0 .ireturn 171, r0 (.aload_n 0) 172, rf (.getfield 34) 173 4 3 0 224, r0 (.iload_n 1) 176, ri (.invokevirtual 156) 177 38 2 0 1 2 506, r0 .ireturn 180, rv (.bipush (-7)) 181 0 (-7), r0 .ireturn 183]
def mt63 : List (List RI) := [mt63_0, mt63_1, mt63_2]
def mt64_0 : List RI := [r0 (.aload_n 0) 0, rf (.getfield 34) 1 4 3 0 224, rf (.getfield 65) 4 2 7 0 163, rv (.sipush 9999) 7 0 9999, ra (.if_icmp .lt 6) 10 7, rv (.bipush (-3)) 13 0 (-3), r0 .ireturn 15, r0 (.aload_n 0) 16, rf (.getfield 34) 17 4 3 0 224, ri (.invokevirtual 159) 20 45 1 0 1 2 515, r0 .ireturn 23]
def mt64 : List (List RI) := [mt64_0]
def mt65_0 : List RI := [r0 (.aload_n 0) 0, rf (.getfield 34) 1 4 3 0 224, r0 (.iload_n 1) 4, r0 .i2l 5, ri (.invokevirtual 112) 6 33 2 0 1 2 474, ra (.ifCond .ne 6) 9 8, rv (.bipush (-5)) 12 0 (-5), r0 .ireturn 14, r0 (.iload_n 2) 15, rv (.bipush (-63)) 16 0 (-63), rv (.bipush 63) 18 0 63, ri (.invokestatic 77) 20 90 3 1 1 4 257, ra (.ifCond .ne 6) 23 15, rv (.bipush (-7)) 26 0 (-7), r0 .ireturn 28, r0 (.aload_n 0) 29, rf (.getfield 34) 30 4 3 0 224, rf (.getfield 124) 33 2 3 0 155, r0 (.iload_n 1) 36, r0 .iaload 37, rv (.iconst (-1)) 38 0 (-1), ra (.if_icmp .ne 6) 39 24, rv (.bipush (-3)) 42 0 (-3), r0 .ireturn 44, r0 (.aload_n 0) 45, rf (.getfield 34) 46 4 3 0 224, r0 (.iload_n 1) 49, r0 (.iload_n 2) 50, ri (.invokevirtual 162) 51 44 3 0 0 2 534, r0 (.aload_n 0) 54, rf (.getfield 34) 55 4 3 0 224, rf (.getfield 124) 58 2 3 0 155]
def mt65_1 : List RI := [r0 (.iload_n 1) 61, r0 .iaload 62, r0 .ireturn 63]
def mt65 : List (List RI) := [mt65_0, mt65_1]
def mt66_0 : List RI := [r0 (.iload_n 2) 0, rv (.iconst 0) 1 0 0, rv (.iconst 2) 2 0 2, ri (.invokestatic 77) 3 90 3 1 1 4 257, r0 (.istore_n 3) 6, r0 (.aload_n 0) 7, rf (.getfield 34) 8 4 3 0 224, r0 (.iload_n 2) 11, r0 .i2l 12, rw (.ldc2_w 166) 13 539 10, r0 .lsub 16, ri (.invokevirtual 112) 17 33 2 0 1 2 474, r0 (.istore 4) 20, r0 (.aload_n 0) 22, rf (.getfield 34) 23 4 3 0 224, r0 (.iload_n 2) 26, r0 .i2l 27, rw (.ldc2_w 168) 28 540 20, r0 .lsub 31, ri (.invokevirtual 112) 32 33 2 0 1 2 474, r0 (.istore 5) 35, r0 (.iload_n 1) 37, rv (.iconst 0) 38 0 0, rv (.bipush 60) 39 0 60, ri (.invokestatic 77) 41 90 3 1 1 4 257, ra (.ifCond .eq 17) 44 32, r0 (.iload_n 3) 47, ra (.ifCond .ne 16) 48 34, r0 (.iload 4) 51, ra (.ifCond .ne 11) 53 34, r0 (.iload 5) 56, ra (.ifCond .ne 6) 58 34]
def mt66_1 : List RI := [rv (.bipush (-2)) 61 0 (-2), r0 .ireturn 63, r0 (.aload_n 0) 64, rf (.getfield 38) 65 4 4 0 225, r0 (.aload_n 0) 68, rf (.getfield 34) 69 4 3 0 224, ri (.invokevirtual 170) 72 32 2 0 0 2 541, rv (.iconst 0) 75 0 0, r0 (.istore 6) 76, rv (.iconst 0) 78 0 0, r0 (.istore 7) 79, rv (.iconst 0) 81 0 0, r0 (.istore 8) 82, r0 (.iload 8) 84, r0 (.iload_n 1) 86, ra (.if_icmp .ge 39) 87 66, r0 (.aload_n 0) 90, rf (.getfield 38) 91 4 4 0 225, ri (.invokevirtual 159) 94 45 1 0 1 2 515, r0 (.istore 9) 97, r0 (.iload 9) 99, rv (.iconst (-1)) 101 0 (-1), ra (.if_icmp .eq 18) 102 64, rv (.iinc 6 1) 105 0 1, r0 (.iload 7) 108, rv (.bipush 10) 110 0 10, r0 .imul 112, r0 (.iload 9) 113, r0 .iadd 115, rv (.iconst 1) 116 0 1, r0 .iadd 117, r0 (.istore 7) 118]
def mt66_2 : List RI := [rv (.iinc 8 1) 120 0 1, ra (.goto (-39)) 123 45, r0 (.iload 4) 126, ra (.ifCond .eq 16) 128 76, r0 (.aload_n 0) 131, rf (.getfield 38) 132 4 4 0 225, rf (.getfield 124) 135 2 3 0 155, r0 (.iload_n 2) 138, rv (.bipush 10) 139 0 10, r0 .isub 141, r0 .iaload 142, r0 .ireturn 143, r0 (.iload 5) 144, ra (.ifCond .eq 16) 146 86, r0 (.aload_n 0) 149, rf (.getfield 38) 150 4 4 0 225, rf (.getfield 135) 153 2 5 0 159, r0 (.iload_n 2) 156, rv (.bipush 20) 157 0 20, r0 .isub 159, r0 .iaload 160, r0 .ireturn 161, r0 (.iload_n 2) 162, ra (.ifCond .ne 8) 163 90, r0 (.iload 6) 166, ra (.goto 20) 168 98, r0 (.iload_n 2) 171, rv (.iconst 1) 172 0 1, ra (.if_icmp .ne 8) 173 95, r0 (.iload 7) 176, ra (.goto 10) 178 98, r0 (.aload_n 0) 181]
def mt66_3 : List RI := [rf (.getfield 38) 182 4 4 0 225, ri (.invokevirtual 97) 185 49 1 0 1 2 312, r0 .ireturn 188]
def mt66 : List (List RI) := [mt66_0, mt66_1, mt66_2, mt66_3]
def mt67_0 : List RI := [r0 (.iload_n 2) 0, rv (.iconst 0) 1 0 0, rv (.iconst 2) 2 0 2, ri (.invokestatic 77) 3 90 3 1 1 4 257, ra (.ifCond .ne 6) 6 7, rv (.bipush (-7)) 9 0 (-7), r0 .ireturn 11, r0 (.iload_n 2) 12, rv (.iconst 2) 13 0 2, ra (.if_icmp .eq 18) 14 18, r0 (.aload_n 0) 17, rf (.getfield 34) 18 4 3 0 224, r0 (.iload_n 1) 21, r0 .i2l 22, ri (.invokevirtual 112) 23 33 2 0 1 2 474, ra (.ifCond .ne 6) 26 18, rv (.bipush (-5)) 29 0 (-5), r0 .ireturn 31, r0 (.aload_n 0) 32, rf (.getfield 38) 33 4 4 0 225, r0 (.aload_n 0) 36, rf (.getfield 34) 37 4 3 0 224, ri (.invokevirtual 170) 40 32 2 0 0 2 541, rv (.iconst 0) 43 0 0, r0 (.istore_n 3) 44, r0 (.iload_n 3) 45, rv (.bipush 60) 46 0 60, ra (.if_icmp .gt 82) 48 65, r0 (.iload_n 2) 51, ra (.ifCond .ne 14) 52 35, r0 (.aload_n 0) 55, rf (.getfield 38) 56 4 4 0 225]
def mt67_1 : List RI := [r0 (.iload_n 1) 59, ri (.invokevirtual 174) 60 36 2 0 1 2 549, ra (.goto 44) 63 54, r0 (.iload_n 2) 66, rv (.iconst 1) 67 0 1, ra (.if_icmp .ne 14) 68 43, r0 (.aload_n 0) 71, rf (.getfield 38) 72 4 4 0 225, r0 (.iload_n 1) 75, ri (.invokevirtual 153) 76 37 2 0 1 2 505, ra (.goto 28) 79 54, r0 (.aload_n 0) 82, rf (.getfield 38) 83 4 4 0 225, rf (.getfield 81) 86 2 8 0 165, ra (.ifCond .ne 17) 89 53, r0 (.aload_n 0) 92, rf (.getfield 38) 93 4 4 0 225, ri (.invokevirtual 91) 96 47 1 0 1 2 304, ra (.ifCond .ne 7) 99 53, rv (.iconst 1) 102 0 1, ra (.goto 4) 103 54, rv (.iconst 0) 106 0 0, r0 (.istore 4) 107, r0 (.iload 4) 109, ra (.ifCond .eq 5) 111 59, r0 (.iload_n 3) 114, r0 .ireturn 115, r0 (.aload_n 0) 116, rf (.getfield 38) 117 4 4 0 225, ri (.invokevirtual 159) 120 45 1 0 1 2 515, r0 .pop 123, rv (.iinc 3 1) 124 0 1]
def mt67_2 : List RI := [ra (.goto (-82)) 127 25, rv (.iconst (-1)) 130 0 (-1), r0 .ireturn 131]
def mt67 : List (List RI) := [mt67_0, mt67_1, mt67_2]
def mt68_0 : List RI := [r0 (.iload_n 1) 0, rv (.iconst 0) 1 0 0, rv (.bipush 60) 2 0 60, ri (.invokestatic 77) 4 90 3 1 1 4 257, ra (.ifCond .eq 12) 7 10, r0 (.iload_n 2) 10, rv (.iconst 0) 11 0 0, rv (.iconst 1) 12 0 1, ri (.invokestatic 77) 13 90 3 1 1 4 257, ra (.ifCond .ne 6) 16 12, rv (.bipush (-2)) 19 0 (-2), r0 .ireturn 21, r0 (.aload_n 0) 22, rf (.getfield 38) 23 4 4 0 225, r0 (.aload_n 0) 26, rf (.getfield 34) 27 4 3 0 224, ri (.invokevirtual 170) 30 32 2 0 0 2 541, r0 (.aload_n 0) 33, r0 (.iload_n 1) 34, ri (.invokevirtual 177) 35 95 2 0 1 4 554, r0 (.istore_n 3) 38, rv (.iconst (-1)) 39 0 (-1), r0 (.istore 4) 40, rv (.iconst 0) 42 0 0, r0 (.istore 5) 43, r0 (.iload 5) 45, r0 (.aload_n 0) 47, rf (.getfield 34) 48 4 3 0 224, rf (.getfield 62) 51 2 6 0 161, ra (.if_icmp .ge 63) 54 59, r0 (.aload_n 0) 57, rf (.getfield 34) 58 4 3 0 224]
def mt68_1 : List RI := [r0 (.iload 5) 61, ri (.invokevirtual 180) 63 35 2 0 1 2 558, ra (.ifCond .eq 45) 66 57, r0 (.aload_n 0) 69, rf (.getfield 38) 70 4 4 0 225, r0 (.aload_n 0) 73, rf (.getfield 34) 74 4 3 0 224, ri (.invokevirtual 170) 77 32 2 0 0 2 541, r0 (.aload_n 0) 80, rf (.getfield 38) 81 4 4 0 225, rf (.getfield 127) 84 2 4 0 157, r0 (.iload 5) 87, rv (.iconst 1) 89 0 1, r0 .bastore 90, r0 (.aload_n 0) 91, r0 (.iload_n 1) 92, ri (.invokevirtual 177) 93 95 2 0 1 4 554, r0 (.istore 6) 96, r0 (.iload 6) 98, r0 (.iload_n 3) 100, ra (.if_icmp .le 10) 101 57, r0 (.iload 6) 104, r0 (.istore_n 3) 106, r0 (.iload 5) 107, r0 (.istore 4) 109, rv (.iinc 5 1) 111 0 1, ra (.goto (-69)) 114 25, r0 (.iload_n 2) 117, ra (.ifCond .ne 8) 118 63, r0 (.iload 4) 121, ra (.goto 4) 123 64, r0 (.iload_n 3) 126]
def mt68_2 : List RI := [r0 .ireturn 127]
def mt68 : List (List RI) := [mt68_0, mt68_1, mt68_2]
def mt69_0 : List RI := [r0 (.aload_n 0) 0, rf (.getfield 34) 1 4 3 0 224, r0 (.iload_n 1) 4, r0 .i2l 5, ri (.invokevirtual 112) 6 33 2 0 1 2 474, ra (.ifCond .ne 6) 9 8, rv (.bipush (-5)) 12 0 (-5), r0 .ireturn 14, r0 (.iload_n 2) 15, rv (.iconst 0) 16 0 0, rv (.iconst 1) 17 0 1, ri (.invokestatic 77) 18 90 3 1 1 4 257, ra (.ifCond .ne 6) 21 15, rv (.bipush (-7)) 24 0 (-7), r0 .ireturn 26, r0 (.aload_n 0) 27, rf (.getfield 34) 28 4 3 0 224, rf (.getfield 84) 31 2 9 0 167, r0 (.iload_n 1) 34, ra (.if_icmp .ne 6) 35 22, rv (.bipush (-3)) 38 0 (-3), r0 .ireturn 40, rv (.iconst (-1)) 41 0 (-1), r0 (.istore_n 3) 42, rv (.bipush 61) 43 0 61, r0 (.istore 4) 45, rv (.iconst 0) 47 0 0, r0 (.istore 5) 48, r0 (.iload 5) 50, rv (.bipush 64) 52 0 64, ra (.if_icmp .ge 65) 54 64, r0 (.aload_n 0) 57]
def mt69_1 : List RI := [rf (.getfield 38) 58 4 4 0 225, r0 (.aload_n 0) 61, rf (.getfield 34) 62 4 3 0 224, ri (.invokevirtual 170) 65 32 2 0 0 2 541, r0 (.aload_n 0) 68, rf (.getfield 38) 69 4 4 0 225, rf (.getfield 124) 72 2 3 0 155, r0 (.iload_n 1) 75, r0 (.iload 5) 76, r0 .iastore 78, r0 (.aload_n 0) 79, rf (.getfield 38) 80 4 4 0 225, rf (.getfield 127) 83 2 4 0 157, r0 (.iload_n 1) 86, rv (.iconst 0) 87 0 0, r0 .bastore 88, r0 (.aload_n 0) 89, r0 (.iload_n 1) 90, r0 (.iload 4) 91, rv (.iconst 1) 93 0 1, r0 .isub 94, ri (.invokevirtual 183) 95 96 3 0 1 4 563, r0 (.istore 6) 98, r0 (.iload 6) 100, rv (.iconst (-1)) 102 0 (-1), ra (.if_icmp .eq 10) 103 62, r0 (.iload 6) 106, r0 (.istore 4) 108, r0 (.iload 5) 110, r0 (.istore_n 3) 112, rv (.iinc 5 1) 113 0 1, ra (.goto (-66)) 116 28]
def mt69_2 : List RI := [r0 (.iload_n 2) 119, ra (.ifCond .eq 8) 120 69, r0 (.iload_n 3) 123, rv (.iconst (-1)) 124 0 (-1), ra (.if_icmp .ne 5) 125 71, r0 (.iload_n 3) 128, r0 .ireturn 129, r0 (.iload 4) 130, r0 .ireturn 132]
def mt69 : List (List RI) := [mt69_0, mt69_1, mt69_2]
def mt70_0 : List RI := [r0 (.aload_n 0) 0, rf (.getfield 34) 1 4 3 0 224, r0 (.iload_n 1) 4, r0 .i2l 5, ri (.invokevirtual 112) 6 33 2 0 1 2 474, ra (.ifCond .ne 6) 9 8, rv (.bipush (-5)) 12 0 (-5), r0 .ireturn 14, r0 (.iload_n 2) 15, rv (.iconst 0) 16 0 0, rv (.iconst 1) 17 0 1, ri (.invokestatic 77) 18 90 3 1 1 4 257, ra (.ifCond .ne 6) 21 15, rv (.bipush (-7)) 24 0 (-7), r0 .ireturn 26, r0 (.aload_n 0) 27, rf (.getfield 34) 28 4 3 0 224, r0 (.iload_n 1) 31, ri (.invokevirtual 180) 32 35 2 0 1 2 558, ra (.ifCond .ne 5) 35 22, rv (.iconst (-1)) 38 0 (-1), r0 .ireturn 39, r0 (.aload_n 0) 40, rf (.getfield 34) 41 4 3 0 224, rf (.getfield 124) 44 2 3 0 155, r0 (.iload_n 1) 47, r0 .iaload 48, r0 (.istore_n 3) 49, r0 (.aload_n 0) 50, rf (.getfield 38) 51 4 4 0 225, r0 (.aload_n 0) 54, rf (.getfield 34) 55 4 3 0 224]
def mt70_1 : List RI := [ri (.invokevirtual 170) 58 32 2 0 0 2 541, rv (.iconst 0) 61 0 0, r0 (.istore 4) 62, r0 (.iload 4) 64, rv (.bipush 64) 66 0 64, ra (.if_icmp .ge 61) 68 70, r0 (.aload_n 0) 71, r0 (.iload_n 1) 72, r0 (.iload_n 3) 73, r0 (.iload 4) 74, r0 .isub 76, ri (.invokevirtual 186) 77 97 3 0 1 4 571, ra (.ifCond .eq 17) 80 53, r0 (.iload_n 2) 83, ra (.ifCond .ne 8) 84 49, r0 (.iload 4) 87, ra (.goto 7) 89 52, r0 (.iload_n 3) 92, r0 (.iload 4) 93, r0 .isub 95, r0 .ireturn 96, r0 (.aload_n 0) 97, r0 (.iload_n 1) 98, r0 (.iload_n 3) 99, r0 (.iload 4) 100, r0 .iadd 102, ri (.invokevirtual 186) 103 97 3 0 1 4 571, ra (.ifCond .eq 17) 106 68, r0 (.iload_n 2) 109, ra (.ifCond .ne 8) 110 64, r0 (.iload 4) 113, ra (.goto 7) 115 67]
def mt70_2 : List RI := [r0 (.iload_n 3) 118, r0 (.iload 4) 119, r0 .iadd 121, r0 .ireturn 122, rv (.iinc 4 1) 123 0 1, ra (.goto (-62)) 126 35, rv (.iconst (-1)) 129 0 (-1), r0 .ireturn 130]
def mt70 : List (List RI) := [mt70_0, mt70_1, mt70_2]
def mt71_0 : List RI := [r0 (.iload_n 1) 0, rv (.iconst 0) 1 0 0, rv (.iconst 1) 2 0 1, ri (.invokestatic 77) 3 90 3 1 1 4 257, ra (.ifCond .ne 6) 6 7, rv (.bipush (-2)) 9 0 (-2), r0 .ireturn 11, r0 (.aload_n 0) 12, rf (.getfield 34) 13 4 3 0 224, ri (.invokevirtual 94) 16 48 1 0 1 2 308, r0 (.istore_n 2) 19, r0 (.iload_n 2) 20, r0 (.istore_n 3) 21, rv (.iconst 0) 22 0 0, r0 (.istore 4) 23, r0 (.iload 4) 25, r0 (.iload_n 2) 27, ra (.if_icmp .ge 54) 28 43, r0 (.iload 4) 31, r0 (.iload_n 2) 33, rv (.iconst (-1)) 34 0 (-1), r0 .ixor 35, r0 .iand 36, ra (.ifCond .ne 7) 37 26, rv (.iconst 1) 40 0 1, ra (.goto 4) 41 27, rv (.iconst 0) 44 0 0, r0 (.istore 5) 45, r0 (.iload 5) 47, ra (.ifCond .eq 27) 49 41, r0 (.iload 4) 52, ri (.invokestatic 190) 54 0 1 1 1 50 579]
def mt71_1 : List RI := [r0 (.iload_n 3) 57, ri (.invokestatic 190) 58 0 1 1 1 50 579, ra (.if_icmp .ge 15) 61 41, r0 (.aload_n 0) 64, r0 (.iload 4) 65, ri (.invokevirtual 195) 67 98 2 0 1 4 585, ra (.ifCond .eq 6) 70 41, r0 (.iload 4) 73, r0 (.istore_n 3) 75, rv (.iinc 4 1) 76 0 1, ra (.goto (-54)) 79 15, r0 (.iload_n 1) 82, ra (.ifCond .ne 7) 83 47, r0 (.iload_n 3) 86, ra (.goto 7) 87 49, r0 (.iload_n 3) 90, ri (.invokestatic 190) 91 0 1 1 1 50 579, r0 .ireturn 94]
def mt71 : List (List RI) := [mt71_0, mt71_1]
def mt72_0 : List RI := [r0 (.iload_n 1) 0, rv (.iconst 0) 1 0 0, rv (.iconst 1) 2 0 1, ri (.invokestatic 77) 3 90 3 1 1 4 257, ra (.ifCond .ne 6) 6 7, rv (.bipush (-2)) 9 0 (-2), r0 .ireturn 11, rv (.iconst (-1)) 12 0 (-1), r0 (.istore_n 2) 13, rv (.iconst (-1)) 14 0 (-1), r0 (.istore_n 3) 15, rv (.iconst 0) 16 0 0, r0 (.istore 4) 17, r0 (.iload 4) 19, r0 (.aload_n 0) 21, rf (.getfield 34) 22 4 3 0 224, rf (.getfield 62) 25 2 6 0 161, ra (.if_icmp .ge 100) 28 66, rv (.iconst 0) 31 0 0, r0 (.istore 5) 32, r0 (.iload 5) 34, r0 (.aload_n 0) 36, rf (.getfield 34) 37 4 3 0 224, rf (.getfield 62) 40 2 6 0 161, ra (.if_icmp .ge 79) 43 64, r0 (.aload_n 0) 46, rf (.getfield 34) 47 4 3 0 224, r0 (.iload 4) 50, r0 (.iload 5) 52, ri (.invokevirtual 198) 54 39 3 0 1 2 593, ra (.ifCond .eq 59) 57 62, r0 (.aload_n 0) 60]
def mt72_1 : List RI := [rf (.getfield 34) 61 4 3 0 224, rf (.getfield 124) 64 2 3 0 155, r0 (.iload 5) 67, r0 .iaload 69, r0 (.aload_n 0) 70, rf (.getfield 34) 71 4 3 0 224, rf (.getfield 124) 74 2 3 0 155, r0 (.iload 4) 77, r0 .iaload 79, r0 .isub 80, r0 (.iload_n 3) 81, ra (.if_icmp .le 34) 82 62, r0 (.aload_n 0) 85, rf (.getfield 34) 86 4 3 0 224, rf (.getfield 124) 89 2 3 0 155, r0 (.iload 5) 92, r0 .iaload 94, r0 (.aload_n 0) 95, rf (.getfield 34) 96 4 3 0 224, rf (.getfield 124) 99 2 3 0 155, r0 (.iload 4) 102, r0 .iaload 104, r0 .isub 105, r0 (.istore_n 3) 106, rv (.bipush 10) 107 0 10, r0 (.iload 4) 109, r0 .imul 111, r0 (.iload 5) 112, r0 .iadd 114, r0 (.istore_n 2) 115, rv (.iinc 5 1) 116 0 1, ra (.goto (-85)) 119 20]
def mt72_2 : List RI := [rv (.iinc 4 1) 122 0 1, ra (.goto (-106)) 125 13, r0 (.iload_n 1) 128, ra (.ifCond .ne 7) 129 70, r0 (.iload_n 2) 132, ra (.goto 4) 133 71, r0 (.iload_n 3) 136, r0 .ireturn 137]
def mt72 : List (List RI) := [mt72_0, mt72_1, mt72_2]
def mt73_0 : List RI := [rw (.lconst 0) 0 0 0, r0 (.lstore_n 2) 1, rw (.lconst 0) 2 0 0, r0 (.lstore 4) 3, rv (.iconst 0) 5 0 0, r0 (.istore 6) 6, r0 (.iload 6) 8, r0 (.aload_n 0) 10, rf (.getfield 34) 11 4 3 0 224, rf (.getfield 62) 14 2 6 0 161, ra (.if_icmp .ge 43) 17 33, r0 (.aload_n 0) 20, rf (.getfield 34) 21 4 3 0 224, rf (.getfield 124) 24 2 3 0 155, r0 (.iload 6) 27, r0 .iaload 29, rv (.iconst (-1)) 30 0 (-1), ra (.if_icmp .eq 23) 31 31, r0 (.lload_n 2) 34, r0 (.aload_n 0) 35, rf (.getfield 34) 36 4 3 0 224, rf (.getfield 124) 39 2 3 0 155, r0 (.iload 6) 42, r0 .iaload 44, r0 .i2l 45, r0 .ladd 46, r0 (.lstore_n 2) 47, r0 (.lload 4) 48, rw (.lconst 1) 50 0 1, r0 .ladd 51, r0 (.lstore 4) 52, rv (.iinc 6 1) 54 0 1]
def mt73_1 : List RI := [ra (.goto (-49)) 57 6, r0 (.lload_n 2) 60, r0 (.lload 4) 61, r0 (.iload_n 1) 63, ri (.invokestatic 201) 64 103 3 1 2 4 601, r0 .lreturn 67]
def mt73 : List (List RI) := [mt73_0, mt73_1]
def mt74_0 : List RI := [r0 (.aload_n 0) 0, r0 (.iload_n 1) 1, ri (.invokevirtual 205) 2 99 2 0 1 4 610, r0 (.istore_n 2) 5, r0 (.iload_n 2) 6, ra (.ifCond .eq 5) 7 8, r0 (.iload_n 2) 10, r0 .ireturn 11, r0 (.aload_n 0) 12, rf (.getfield 38) 13 4 4 0 225, r0 (.aload_n 0) 16, rf (.getfield 34) 17 4 3 0 224, ri (.invokevirtual 170) 20 32 2 0 0 2 541, r0 (.aload_n 0) 23, r0 (.iload_n 1) 24, ri (.invokevirtual 208) 25 100 2 0 1 4 618, r0 .ireturn 28]
def mt74 : List (List RI) := [mt74_0]
def mt75_0 : List RI := [r0 (.aload_n 0) 0, r0 (.iload_n 1) 1, ri (.invokevirtual 205) 2 99 2 0 1 4 610, r0 (.istore 4) 5, r0 (.iload 4) 7, ra (.ifCond .eq 6) 9 8, r0 (.iload 4) 12, r0 .ireturn 14, r0 (.aload_n 0) 15, rf (.getfield 34) 16 4 3 0 224, r0 (.iload_n 2) 19, r0 .i2l 20, ri (.invokevirtual 112) 21 33 2 0 1 2 474, ra (.ifCond .ne 6) 24 16, rv (.bipush (-5)) 27 0 (-5), r0 .ireturn 29, r0 (.iload_n 3) 30, rv (.iconst 0) 31 0 0, rv (.iconst 1) 32 0 1, ri (.invokestatic 77) 33 90 3 1 1 4 257, ra (.ifCond .ne 6) 36 23, rv (.bipush (-7)) 39 0 (-7), r0 .ireturn 41, r0 (.iload_n 3) 42, ra (.ifCond .ne 8) 43 27, rv (.bipush 6) 46 0 6, ra (.goto 5) 48 28, rv (.bipush 10) 51 0 10, r0 (.istore 5) 53, rv (.iconst 0) 55 0 0, r0 (.istore 6) 56, rv (.iconst 0) 58 0 0]
def mt75_1 : List RI := [r0 (.istore 7) 59, r0 (.iload 7) 61, r0 (.iload 5) 63, ra (.if_icmp .ge 67) 65 69, r0 (.aload_n 0) 68, rf (.getfield 38) 69 4 4 0 225, r0 (.aload_n 0) 72, rf (.getfield 34) 73 4 3 0 224, ri (.invokevirtual 170) 76 32 2 0 0 2 541, r0 (.iload_n 3) 79, ra (.ifCond .ne 17) 80 50, r0 (.aload_n 0) 83, rf (.getfield 38) 84 4 4 0 225, rf (.getfield 138) 87 2 1 0 151, r0 (.iload_n 2) 90, r0 (.iload 7) 91, r0 .iastore 93, ra (.goto 14) 94 56, r0 (.aload_n 0) 97, rf (.getfield 38) 98 4 4 0 225, rf (.getfield 141) 101 2 2 0 153, r0 (.iload_n 2) 104, r0 (.iload 7) 105, r0 .iastore 107, r0 (.aload_n 0) 108, r0 (.iload_n 1) 109, ri (.invokevirtual 208) 110 100 2 0 1 4 618, rv (.iconst (-1)) 113 0 (-1), ra (.if_icmp .ne 12) 114 67, r0 (.iload 6) 117, rv (.iconst 1) 119 0 1, r0 (.iload 7) 120]
def mt75_2 : List RI := [r0 .ishl 122, r0 .ior 123, r0 (.istore 6) 124, rv (.iinc 7 1) 126 0 1, ra (.goto (-68)) 129 33, r0 (.iload 6) 132, r0 .ireturn 134]
def mt75 : List (List RI) := [mt75_0, mt75_1, mt75_2]
def mt76_0 : List RI := [r0 (.aload_n 0) 0, r0 (.iload_n 1) 1, ri (.invokevirtual 205) 2 99 2 0 1 4 610, ra (.ifCond .ne 28) 5 17, r0 (.aload_n 0) 8, rf (.getfield 34) 9 4 3 0 224, r0 (.iload_n 2) 12, r0 .i2l 13, ri (.invokevirtual 112) 14 33 2 0 1 2 474, ra (.ifCond .eq 16) 17 17, r0 (.aload_n 0) 20, rf (.getfield 34) 21 4 3 0 224, rf (.getfield 124) 24 2 3 0 155, r0 (.iload_n 2) 27, r0 .iaload 28, rv (.iconst (-1)) 29 0 (-1), ra (.if_icmp .ne 7) 30 19, rw (.ldc2_w 211) 33 604 (-4611686018427387904), r0 .lreturn 36, rw (.lconst 0) 37 0 0, r0 (.lstore_n 3) 38, rv (.iconst 0) 39 0 0, r0 (.istore 5) 40, r0 (.iload 5) 42, rv (.bipush 64) 44 0 64, ra (.if_icmp .ge 47) 46 50, r0 (.aload_n 0) 49, rf (.getfield 38) 50 4 4 0 225, r0 (.aload_n 0) 53, rf (.getfield 34) 54 4 3 0 224, ri (.invokevirtual 170) 57 32 2 0 0 2 541, r0 (.aload_n 0) 60]
def mt76_1 : List RI := [rf (.getfield 38) 61 4 4 0 225, rf (.getfield 124) 64 2 3 0 155, r0 (.iload_n 2) 67, r0 (.iload 5) 68, r0 .iastore 70, r0 (.aload_n 0) 71, r0 (.iload_n 1) 72, ri (.invokevirtual 208) 73 100 2 0 1 4 618, rv (.iconst (-1)) 76 0 (-1), ra (.if_icmp .ne 10) 77 48, r0 (.lload_n 3) 80, rw (.lconst 1) 81 0 1, r0 (.iload 5) 82, r0 .lshl 84, r0 .lor 85, r0 (.lstore_n 3) 86, rv (.iinc 5 1) 87 0 1, ra (.goto (-48)) 90 23, r0 (.lload_n 3) 93, r0 .lreturn 94]
def mt76 : List (List RI) := [mt76_0, mt76_1]
def mt77_0 : List RI := [r0 (.aload_n 0) 0, r0 (.iload_n 1) 1, ri (.invokevirtual 205) 2 99 2 0 1 4 610, r0 (.istore_n 2) 5, r0 (.iload_n 2) 6, ra (.ifCond .eq 5) 7 8, r0 (.iload_n 2) 10, r0 .ireturn 11, rv (.iconst 0) 12 0 0, r0 (.istore_n 3) 13, rv (.iconst 0) 14 0 0, r0 (.istore 4) 15, r0 (.iload 4) 17, r0 (.aload_n 0) 19, rf (.getfield 34) 20 4 3 0 224, rf (.getfield 62) 23 2 6 0 161, ra (.if_icmp .ge 64) 26 49, r0 (.aload_n 0) 29, rf (.getfield 38) 30 4 4 0 225, r0 (.aload_n 0) 33, rf (.getfield 34) 34 4 3 0 224, ri (.invokevirtual 170) 37 32 2 0 0 2 541, r0 (.aload_n 0) 40, rf (.getfield 38) 41 4 4 0 225, rf (.getfield 127) 44 2 4 0 157, r0 (.iload 4) 47, r0 (.aload_n 0) 49, rf (.getfield 34) 50 4 3 0 224, rf (.getfield 127) 53 2 4 0 157, r0 (.iload 4) 56, r0 .baload 58, ra (.ifCond .ne 7) 59 34]
def mt77_1 : List RI := [rv (.iconst 1) 62 0 1, ra (.goto 4) 63 35, rv (.iconst 0) 66 0 0, r0 .bastore 67, r0 (.aload_n 0) 68, r0 (.iload_n 1) 69, ri (.invokevirtual 208) 70 100 2 0 1 4 618, rv (.iconst (-1)) 73 0 (-1), ra (.if_icmp .ne 10) 74 47, r0 (.iload_n 3) 77, rv (.iconst 1) 78 0 1, r0 (.iload 4) 79, r0 .ishl 81, r0 .ior 82, r0 (.istore_n 3) 83, rv (.iinc 4 1) 84 0 1, ra (.goto (-70)) 87 12, r0 (.iload_n 3) 90, r0 .ireturn 91]
def mt77 : List (List RI) := [mt77_0, mt77_1]
def mt78_0 : List RI := [r0 (.aload_n 0) 0, r0 (.iload_n 1) 1, ri (.invokevirtual 205) 2 99 2 0 1 4 610, r0 (.istore 4) 5, r0 (.iload 4) 7, ra (.ifCond .eq 6) 9 8, r0 (.iload 4) 12, r0 .ireturn 14, r0 (.aload_n 0) 15, rf (.getfield 34) 16 4 3 0 224, r0 (.iload_n 2) 19, r0 .i2l 20, ri (.invokevirtual 112) 21 33 2 0 1 2 474, ra (.ifCond .ne 6) 24 16, rv (.bipush (-5)) 27 0 (-5), r0 .ireturn 29, r0 (.iload_n 3) 30, rv (.iconst 0) 31 0 0, rv (.iconst 1) 32 0 1, ri (.invokestatic 77) 33 90 3 1 1 4 257, ra (.ifCond .ne 6) 36 23, rv (.bipush (-7)) 39 0 (-7), r0 .ireturn 41, rv (.iconst 0) 42 0 0, r0 (.istore 5) 43, rv (.iconst (-1)) 45 0 (-1), r0 (.istore 6) 46, rv (.bipush 99) 48 0 99, r0 (.istore 7) 50, r0 (.iload 7) 52, ra (.ifCond .lt 47) 54 52, r0 (.aload_n 0) 57]
def mt78_1 : List RI := [rf (.getfield 38) 58 4 4 0 225, r0 (.aload_n 0) 61, rf (.getfield 34) 62 4 3 0 224, ri (.invokevirtual 170) 65 32 2 0 0 2 541, r0 (.aload_n 0) 68, rf (.getfield 38) 69 4 4 0 225, rf (.getfield 135) 72 2 5 0 159, r0 (.iload_n 2) 75, r0 (.iload 7) 76, r0 .iastore 78, r0 (.aload_n 0) 79, r0 (.iload_n 1) 80, ri (.invokevirtual 208) 81 100 2 0 1 4 618, rv (.iconst (-1)) 84 0 (-1), ra (.if_icmp .ne 10) 85 50, rv (.iinc 5 1) 88 0 1, r0 (.iload 7) 91, r0 (.istore 6) 93, rv (.iinc 7 (-1)) 95 0 (-1), ra (.goto (-46)) 98 29, r0 (.iload_n 3) 101, ra (.ifCond .ne 8) 102 56, r0 (.iload 5) 105, ra (.goto 5) 107 57, r0 (.iload 6) 110, r0 .ireturn 112]
def mt78 : List (List RI) := [mt78_0, mt78_1]
def mt79_0 : List RI := [r0 (.aload_n 0) 0, r0 (.iload_n 1) 1, ri (.invokevirtual 205) 2 99 2 0 1 4 610, r0 (.istore_n 2) 5, r0 (.iload_n 2) 6, ra (.ifCond .eq 5) 7 8, r0 (.iload_n 2) 10, r0 .ireturn 11, rv (.iconst 0) 12 0 0, r0 (.istore_n 3) 13, rv (.iconst 0) 14 0 0, r0 (.istore 4) 15, r0 (.iload 4) 17, r0 (.aload_n 0) 19, rf (.getfield 16) 20 4 1 0 222, rf (.getfield 71) 23 3 4 0 96, ra (.if_icmp .ge 45) 26 39, r0 (.aload_n 0) 29, rf (.getfield 38) 30 4 4 0 225, r0 (.aload_n 0) 33, rf (.getfield 34) 34 4 3 0 224, ri (.invokevirtual 170) 37 32 2 0 0 2 541, r0 (.aload_n 0) 40, rf (.getfield 38) 41 4 4 0 225, r0 (.iload 4) 44, rf (.putfield 74) 46 2 11 0 171, r0 (.aload_n 0) 49, r0 (.iload_n 1) 50, ri (.invokevirtual 208) 51 100 2 0 1 4 618, rv (.iconst (-1)) 54 0 (-1), ra (.if_icmp .ne 10) 55 37, r0 (.iload_n 3) 58]
def mt79_1 : List RI := [rv (.iconst 1) 59 0 1, r0 (.iload 4) 60, r0 .ishl 62, r0 .ior 63, r0 (.istore_n 3) 64, rv (.iinc 4 1) 65 0 1, ra (.goto (-51)) 68 12, r0 (.iload_n 3) 71, r0 .ireturn 72]
def mt79 : List (List RI) := [mt79_0, mt79_1]
def mt80_0 : List RI := [r0 (.aload_n 0) 0, rf (.getfield 47) 1 4 6 0 227, r0 (.iload_n 1) 4, ri (.invokevirtual 213) 5 26 2 0 1 1 614, ra (.ifCond .ne 6) 8 7, rv (.bipush (-2)) 11 0 (-2), r0 .ireturn 13, r0 (.iload_n 2) 14, rv (.iconst 0) 15 0 0, rv (.bipush 24) 16 0 24, ri (.invokestatic 77) 18 90 3 1 1 4 257, ra (.ifCond .ne 6) 21 14, rv (.bipush (-7)) 24 0 (-7), r0 .ireturn 26, r0 (.aload_n 0) 27, rf (.getfield 47) 28 4 6 0 227, r0 (.iload_n 1) 31, rv (.iconst 0) 32 0 0, r0 (.iload_n 2) 33, ri (.invokevirtual 215) 34 28 4 0 0 1 650, r0 (.aload_n 0) 37, rf (.getfield 38) 38 4 4 0 225, r0 (.aload_n 0) 41, rf (.getfield 34) 42 4 3 0 224, ri (.invokevirtual 170) 45 32 2 0 0 2 541, rv (.iconst 0) 48 0 0, r0 (.istore_n 3) 49, r0 (.iload_n 3) 50, r0 (.iload_n 2) 51, ra (.if_icmp .ge 27) 52 42, r0 (.aload_n 0) 55, rf (.getfield 47) 56 4 6 0 227]
def mt80_1 : List RI := [r0 (.iload_n 1) 59, r0 (.iload_n 3) 60, r0 (.aload_n 0) 61, rf (.getfield 38) 62 4 4 0 225, ri (.invokevirtual 159) 65 45 1 0 1 2 515, rv (.iconst 1) 68 0 1, r0 .iadd 69, ri (.invokevirtual 219) 70 30 4 0 0 1 654, rv (.iinc 3 1) 73 0 1, ra (.goto (-26)) 76 27, r0 (.iload_n 2) 79, r0 .ireturn 80]
def mt80 : List (List RI) := [mt80_0, mt80_1]
def mt81_0 : List RI := [r0 (.iload_n 1) 0, rv (.iconst 0) 1 0 0, rv (.ldc 222) 2 662 99999, ri (.invokestatic 77) 4 90 3 1 1 4 257, ra (.ifCond .eq 12) 7 10, r0 (.iload_n 2) 10, rv (.iconst 0) 11 0 0, rv (.iconst 1) 12 0 1, ri (.invokestatic 77) 13 90 3 1 1 4 257, ra (.ifCond .ne 6) 16 12, rv (.bipush (-2)) 19 0 (-2), r0 .ireturn 21, r0 (.aload_n 0) 22, r0 (.iload_n 1) 23, ri (.invokevirtual 223) 24 101 2 0 1 4 663, r0 (.istore_n 3) 27, r0 (.iload_n 2) 28, ra (.ifCond .ne 7) 29 20, r0 (.iload_n 3) 32, ra (.goto 10) 33 23, r0 (.aload_n 0) 36, rf (.getfield 38) 37 4 4 0 225, ri (.invokevirtual 97) 40 49 1 0 1 2 312, r0 .ireturn 43]
def mt81 : List (List RI) := [mt81_0]
def mt82_0 : List RI := [r0 (.iload_n 1) 0, rv (.iconst 0) 1 0 0, rv (.ldc 222) 2 662 99999, ri (.invokestatic 77) 4 90 3 1 1 4 257, ra (.ifCond .eq 23) 7 15, r0 (.iload_n 2) 10, rv (.iconst 1) 11 0 1, rv (.bipush 40) 12 0 40, ri (.invokestatic 77) 14 90 3 1 1 4 257, ra (.ifCond .eq 13) 17 15, r0 (.iload_n 3) 20, rv (.iconst 0) 21 0 0, rv (.bipush 12) 22 0 12, ri (.invokestatic 77) 24 90 3 1 1 4 257, ra (.ifCond .ne 7) 27 17, rw (.ldc2_w 211) 30 604 (-4611686018427387904), r0 .lreturn 33, rv (.iconst 0) 34 0 0, r0 (.istore 5) 35, rv (.iconst 0) 37 0 0, r0 (.istore 6) 38, r0 (.iload 6) 40, r0 (.iload_n 2) 42, ra (.if_icmp .ge 24) 43 34, r0 (.aload_n 0) 46, r0 (.iload_n 1) 47, r0 (.iload 6) 48, r0 .iadd 50, ri (.invokevirtual 223) 51 101 2 0 1 4 663, r0 (.iload_n 3) 54, ra (.if_icmp .lt 6) 55 32, rv (.iinc 5 1) 58 0 1]
def mt82_1 : List RI := [rv (.iinc 6 1) 61 0 1, ra (.goto (-24)) 64 21, r0 (.iload 5) 67, r0 .i2l 69, r0 (.iload_n 2) 70, r0 .i2l 71, r0 (.iload 4) 72, ri (.invokestatic 201) 74 103 3 1 2 4 601, r0 .lreturn 77]
def mt82 : List (List RI) := [mt82_0, mt82_1]
def mt83_0 : List RI := [r0 (.aload_n 0) 0, rf (.getfield 41) 1 4 5 0 226, r0 (.aload_n 0) 4, rf (.getfield 34) 5 4 3 0 224, ri (.invokevirtual 170) 8 32 2 0 0 2 541, r0 (.aload_n 0) 11, rv (.iconst 1) 12 0 1, rf (.putfield 55) 13 4 8 1 229, r0 (.aload_n 0) 16, rf (.getfield 34) 17 4 3 0 224, rf (.getfield 62) 20 2 6 0 161, r0 .ireturn 23]
def mt83 : List (List RI) := [mt83_0]
def mt84_0 : List RI := [r0 (.aload_n 0) 0, rf (.getfield 55) 1 4 8 1 229, ra (.ifCond .ne 6) 4 5, rv (.bipush (-3)) 7 0 (-3), r0 .ireturn 9, r0 (.aload_n 0) 10, rf (.getfield 34) 11 4 3 0 224, r0 (.aload_n 0) 14, rf (.getfield 41) 15 4 5 0 226, ri (.invokevirtual 170) 18 32 2 0 0 2 541, r0 (.aload_n 0) 21, rf (.getfield 34) 22 4 3 0 224, rf (.getfield 62) 25 2 6 0 161, r0 .ireturn 28]
def mt84 : List (List RI) := [mt84_0]
def mt85_0 : List RI := [r0 (.aload_n 0) 0, rf (.getfield 47) 1 4 6 0 227, r0 (.iload_n 1) 4, ri (.invokevirtual 213) 5 26 2 0 1 1 614, ra (.ifCond .eq 12) 8 10, r0 (.iload_n 2) 11, rv (.iconst (-1)) 12 0 (-1), rv (.iconst 2) 13 0 2, ri (.invokestatic 77) 14 90 3 1 1 4 257, ra (.ifCond .ne 6) 17 12, rv (.bipush (-2)) 20 0 (-2), r0 .ireturn 22, r0 (.iload_n 2) 23, rv (.iconst (-1)) 24 0 (-1), ra (.if_icmp .ne 15) 25 23, r0 (.aload_n 0) 28, rf (.getfield 47) 29 4 6 0 227, r0 (.iload_n 1) 32, rv (.iconst (-1)) 33 0 (-1), rv (.iconst 0) 34 0 0, ri (.invokevirtual 215) 35 28 4 0 0 1 650, rv (.iconst 1) 38 0 1, r0 .ireturn 39, r0 (.iload_n 3) 40, rv (.bipush 40) 41 0 40, ra (.if_icmp .le 6) 43 28, rv (.bipush (-2)) 46 0 (-2), r0 .ireturn 48, r0 (.iload_n 3) 49, ra (.ifCond .ge 6) 50 32, rv (.bipush (-14)) 53 0 (-14), r0 .ireturn 55]
def mt85_1 : List RI := [r0 (.aload_n 0) 56, rf (.getfield 47) 57 4 6 0 227, r0 (.iload_n 1) 60, r0 (.iload_n 2) 61, r0 (.iload_n 3) 62, ri (.invokevirtual 215) 63 28 4 0 0 1 650, rv (.iconst 1) 66 0 1, r0 .ireturn 67]
def mt85 : List (List RI) := [mt85_0, mt85_1]
def mt86_0 : List RI := [r0 (.aload_n 0) 0, rf (.getfield 47) 1 4 6 0 227, r0 (.iload_n 1) 4, ri (.invokevirtual 213) 5 26 2 0 1 1 614, ra (.ifCond .ne 6) 8 7, rv (.bipush (-2)) 11 0 (-2), r0 .ireturn 13, r0 (.aload_n 0) 14, rf (.getfield 47) 15 4 6 0 227, rf (.getfield 226) 18 1 1 0 207, r0 (.iload_n 1) 21, r0 .iaload 22, rv (.iconst (-1)) 23 0 (-1), ra (.if_icmp .ne 6) 24 16, rv (.bipush (-11)) 27 0 (-11), r0 .ireturn 29, r0 (.iload_n 2) 30, rv (.iconst 0) 31 0 0, r0 (.aload_n 0) 32, rf (.getfield 47) 33 4 6 0 227, rf (.getfield 229) 36 1 2 0 209, r0 (.iload_n 1) 39, r0 .iaload 40, rv (.iconst 1) 41 0 1, r0 .isub 42, ri (.invokestatic 77) 43 90 3 1 1 4 257, ra (.ifCond .ne 6) 46 29, rv (.bipush (-12)) 49 0 (-12), r0 .ireturn 51, r0 (.aload_n 0) 52, rf (.getfield 47) 53 4 6 0 227, r0 (.iload_n 1) 56]
def mt86_1 : List RI := [r0 (.iload_n 2) 57, r0 (.iload_n 3) 58, ri (.invokevirtual 219) 59 30 4 0 0 1 654, rv (.iconst 1) 62 0 1, r0 .ireturn 63]
def mt86 : List (List RI) := [mt86_0, mt86_1]
def mt87_0 : List RI := [r0 (.aload_n 0) 0, rf (.getfield 47) 1 4 6 0 227, r0 (.iload_n 1) 4, ri (.invokevirtual 213) 5 26 2 0 1 1 614, ra (.ifCond .eq 14) 8 10, r0 (.aload_n 0) 11, rf (.getfield 47) 12 4 6 0 227, r0 (.iload_n 3) 15, ri (.invokevirtual 213) 16 26 2 0 1 1 614, ra (.ifCond .ne 6) 19 12, rv (.bipush (-2)) 22 0 (-2), r0 .ireturn 24, r0 (.aload_n 0) 25, rf (.getfield 47) 26 4 6 0 227, rf (.getfield 226) 29 1 1 0 207, r0 (.iload_n 1) 32, r0 .iaload 33, rv (.iconst (-1)) 34 0 (-1), ra (.if_icmp .eq 16) 35 26, r0 (.aload_n 0) 38, rf (.getfield 47) 39 4 6 0 227, rf (.getfield 226) 42 1 1 0 207, r0 (.iload_n 3) 45, r0 .iaload 46, rv (.iconst (-1)) 47 0 (-1), ra (.if_icmp .ne 6) 48 28, rv (.bipush (-11)) 51 0 (-11), r0 .ireturn 53, r0 (.aload_n 0) 54, rf (.getfield 47) 55 4 6 0 227, rf (.getfield 226) 58 1 1 0 207, r0 (.iload_n 1) 61]
def mt87_1 : List RI := [r0 .iaload 62, r0 (.aload_n 0) 63, rf (.getfield 47) 64 4 6 0 227, rf (.getfield 226) 67 1 1 0 207, r0 (.iload_n 3) 70, r0 .iaload 71, ra (.if_icmp .eq 6) 72 41, rv (.bipush (-13)) 75 0 (-13), r0 .ireturn 77, r0 (.iload 5) 78, ra (.ifCond .lt 34) 80 59, r0 (.aload_n 0) 83, rf (.getfield 47) 84 4 6 0 227, r0 (.iload_n 1) 87, r0 (.iload_n 2) 88, r0 .i2l 89, r0 (.iload 5) 90, ri (.invokevirtual 232) 92 27 4 0 1 1 698, ra (.ifCond .eq 19) 95 59, r0 (.aload_n 0) 98, rf (.getfield 47) 99 4 6 0 227, r0 (.iload_n 3) 102, r0 (.iload 4) 103, r0 .i2l 105, r0 (.iload 5) 106, ri (.invokevirtual 232) 108 27 4 0 1 1 698, ra (.ifCond .ne 6) 111 61, rv (.bipush (-12)) 114 0 (-12), r0 .ireturn 116, r0 (.aload_n 0) 117, rf (.getfield 47) 118 4 6 0 227, r0 (.iload_n 1) 121]
def mt87_2 : List RI := [r0 (.iload_n 2) 122, r0 (.iload_n 3) 123, r0 (.iload 4) 124, r0 (.iload 5) 126, ri (.invokevirtual 236) 128 31 6 0 0 1 702, r0 (.iload 5) 131, r0 .ireturn 133]
def mt87 : List (List RI) := [mt87_0, mt87_1, mt87_2]
def mt88_0 : List RI := [r0 (.aload_n 0) 0, rf (.getfield 47) 1 4 6 0 227, r0 (.iload_n 1) 4, ri (.invokevirtual 213) 5 26 2 0 1 1 614, ra (.ifCond .eq 23) 8 15, r0 (.iload_n 2) 11, rv (.iconst 0) 12 0 0, rv (.iconst 2) 13 0 2, ri (.invokestatic 77) 14 90 3 1 1 4 257, ra (.ifCond .eq 14) 17 15, r0 (.iload 4) 20, rv (.iconst 0) 22 0 0, rv (.bipush 6) 23 0 6, ri (.invokestatic 77) 25 90 3 1 1 4 257, ra (.ifCond .ne 6) 28 17, rv (.bipush (-2)) 31 0 (-2), r0 .ireturn 33, r0 (.aload_n 0) 34, rf (.getfield 47) 35 4 6 0 227, rf (.getfield 226) 38 1 1 0 207, r0 (.iload_n 1) 41, r0 .iaload 42, rv (.iconst (-1)) 43 0 (-1), ra (.if_icmp .ne 6) 44 26, rv (.bipush (-11)) 47 0 (-11), r0 .ireturn 49, r0 (.aload_n 0) 50, rf (.getfield 47) 51 4 6 0 227, rf (.getfield 226) 54 1 1 0 207, r0 (.iload_n 1) 57, r0 .iaload 58, r0 (.iload_n 2) 59]
def mt88_1 : List RI := [ra (.if_icmp .eq 6) 60 35, rv (.bipush (-13)) 63 0 (-13), r0 .ireturn 65, rv (.iconst 0) 66 0 0, r0 (.istore 5) 67, rv (.iconst 0) 69 0 0, r0 (.istore 6) 70, r0 (.iload 6) 72, r0 (.iload 4) 74, ra (.if_icmp .ge 78) 76 81, r0 (.iload_n 3) 79, r0 .i2l 80, rw (.ldc2_w 240) 81 713 2, r0 (.iload 6) 84, r0 .i2l 86, r0 .lmul 87, r0 .ladd 88, r0 (.lstore 7) 89, r0 (.aload_n 0) 91, rf (.getfield 47) 92 4 6 0 227, r0 (.iload_n 1) 95, r0 (.lload 7) 96, rv (.iconst 2) 98 0 2, ri (.invokevirtual 232) 99 27 4 0 1 1 698, ra (.ifCond .ne 6) 102 59, rv (.bipush (-12)) 105 0 (-12), r0 .ireturn 107, r0 (.lload 7) 108, r0 .l2i 110, r0 (.istore 9) 111, r0 (.aload_n 0) 113, rf (.getfield 34) 114 4 3 0 224]
def mt88_2 : List RI := [r0 (.aload_n 0) 117, rf (.getfield 47) 118 4 6 0 227, r0 (.iload_n 1) 121, r0 (.iload 9) 122, ri (.invokevirtual 242) 124 29 3 0 1 1 622, r0 (.aload_n 0) 127, rf (.getfield 47) 128 4 6 0 227, r0 (.iload_n 1) 131, r0 (.iload 9) 132, rv (.iconst 1) 134 0 1, r0 .iadd 135, ri (.invokevirtual 242) 136 29 3 0 1 1 622, ri (.invokevirtual 120) 139 34 3 0 1 2 483, ra (.ifCond .lt 6) 142 79, rv (.iinc 5 1) 145 0 1, rv (.iinc 6 1) 148 0 1, ra (.goto (-79)) 151 39, r0 (.iload 5) 154, r0 .ireturn 156]
def mt88 : List (List RI) := [mt88_0, mt88_1, mt88_2]
def mt89_0 : List RI := [r0 (.iload_n 2) 0, rv (.iconst 0) 1 0 0, rv (.bipush 6) 2 0 6, ri (.invokestatic 77) 4 90 3 1 1 4 257, ra (.ifCond .ne 6) 7 7, rv (.bipush (-2)) 10 0 (-2), r0 .ireturn 12, r0 (.iload_n 1) 13, rv (.iconst 0) 14 0 0, rv (.bipush 11) 15 0 11, ri (.invokestatic 77) 17 90 3 1 1 4 257, ra (.ifCond .ne 6) 20 14, rv (.bipush (-12)) 23 0 (-12), r0 .ireturn 25, r0 (.iload_n 1) 26, rv (.bipush 6) 27 0 6, r0 .irem 29, r0 (.istore_n 3) 30, r0 (.iload_n 1) 31, rv (.bipush 6) 32 0 6, ra (.if_icmp .lt 7) 34 23, rv (.iconst 1) 37 0 1, ra (.goto 4) 38 24, rv (.iconst 0) 41 0 0, r0 (.istore 4) 42, r0 (.aload_n 0) 44, rf (.getfield 34) 45 4 3 0 224, r0 (.iload_n 3) 48, r0 .i2l 49, ri (.invokevirtual 112) 50 33 2 0 1 2 474, ra (.ifCond .ne 6) 53 33, rv (.bipush (-11)) 56 0 (-11)]
def mt89_1 : List RI := [r0 .ireturn 58, r0 (.iload 4) 59, ra (.ifCond .eq 24) 61 46, r0 (.iload_n 2) 64, rv (.bipush 6) 65 0 6, ra (.if_icmp .ne 15) 67 44, r0 (.aload_n 0) 70, rf (.getfield 34) 71 4 3 0 224, rf (.getfield 135) 74 2 5 0 159, r0 (.iload_n 3) 77, r0 .iaload 78, ra (.goto 5) 79 45, rv (.bipush (-13)) 82 0 (-13), r0 .ireturn 84, r0 (.aload_n 0) 85, rf (.getfield 34) 86 4 3 0 224, rf (.getfield 138) 89 2 1 0 151, r0 (.iload_n 3) 92, r0 .iaload 93, r0 (.iload_n 2) 94, ri (.invokestatic 245) 95 94 2 1 1 4 718, ra (.ifCond .eq 7) 98 56, r0 (.iload_n 3) 101, ra (.goto 5) 102 57, rv (.bipush (-13)) 105 0 (-13), r0 .ireturn 107]
def mt89 : List (List RI) := [mt89_0, mt89_1]
def mt90_0 : List RI := [r0 (.iload_n 0) 0, r0 (.iload_n 1) 1, ra (.if_icmp .lt 12) 2 8, r0 (.iload_n 0) 5, r0 (.iload_n 2) 6, ra (.if_icmp .gt 7) 7 8, rv (.iconst 1) 10 0 1, ra (.goto 4) 11 9, rv (.iconst 0) 14 0 0, ra .ireturn 15 1]
def mt90 : List (List RI) := [mt90_0]
def mt91_0 : List RI := [r0 (.iload_n 0) 0, rv (.iconst 0) 1 0 0, rv (.sipush 255) 2 0 255, ri (.invokestatic 77) 5 90 3 1 1 4 257, ra .ireturn 8 1]
def mt91 : List (List RI) := [mt91_0]
def mt92_0 : List RI := [r0 (.iload_n 0) 0, ra (.ifCond .eq 7) 1 4, rv (.iconst 1) 4 0 1, ra (.goto 4) 5 5, rv (.iconst 0) 8 0 0, r0 .ireturn 9]
def mt92 : List (List RI) := [mt92_0]
def mt93_0 : List RI := [r0 (.aload_n 0) 0, rf (.getfield 51) 1 4 7 0 228, rv (.sipush 160) 4 0 160, ra (.if_icmp .ge 23) 7 16, r0 (.aload_n 0) 10, rf (.getfield 9) 11 4 0 0 221, r0 (.aload_n 0) 14, rf (.getfield 51) 15 4 7 0 228, r0 (.iload_n 1) 18, r0 .iastore 19, r0 (.aload_n 0) 20, r0 .dup 21, rf (.getfield 51) 22 4 7 0 228, rv (.iconst 1) 25 0 1, r0 .iadd 26, rf (.putfield 51) 27 4 7 0 228, r0 .return_ 30]
def mt93 : List (List RI) := [mt93_0]
def mt94_0 : List RI := [r0 (.iload_n 1) 0, ra (.ifCond .eq 28) 1 17, r0 (.iload_n 0) 4, r0 (.iload_n 1) 5, ra (.if_icmp .eq 23) 6 17, r0 (.iload_n 1) 9, rv (.iconst 1) 10 0 1, ra (.if_icmp .ne 8) 11 11, r0 (.iload_n 0) 14, rv (.iconst 3) 15 0 3, ra (.if_icmp .eq 13) 16 17, r0 (.iload_n 1) 19, rv (.iconst 2) 20 0 2, ra (.if_icmp .ne 12) 21 19, r0 (.iload_n 0) 24, rv (.iconst 4) 25 0 4, ra (.if_icmp .ne 7) 26 19, rv (.iconst 1) 29 0 1, ra (.goto 4) 30 20, rv (.iconst 0) 33 0 0, ra .ireturn 34 1]
def mt94 : List (List RI) := [mt94_0]
def mt95_0 : List RI := [rv (.iconst 0) 0 0 0, r0 (.istore_n 2) 1, rv (.iconst 0) 2 0 0, r0 (.istore_n 3) 3, r0 (.iload_n 3) 4, r0 (.iload_n 1) 5, ra (.if_icmp .ge 23) 6 15, r0 (.aload_n 0) 9, rf (.getfield 38) 10 4 4 0 225, ri (.invokevirtual 159) 13 45 1 0 1 2 515, rv (.iconst (-1)) 16 0 (-1), ra (.if_icmp .eq 6) 17 13, rv (.iinc 2 1) 20 0 1, rv (.iinc 3 1) 23 0 1, ra (.goto (-22)) 26 4, r0 (.iload_n 2) 29, r0 .ireturn 30]
def mt95 : List (List RI) := [mt95_0]
def mt96_0 : List RI := [rv (.iconst 0) 0 0 0, r0 (.istore_n 3) 1, r0 (.iload_n 3) 2, r0 (.iload_n 2) 3, ra (.if_icmp .gt 35) 4 21, r0 (.aload_n 0) 7, rf (.getfield 38) 8 4 4 0 225, r0 (.iload_n 1) 11, ri (.invokevirtual 174) 12 36 2 0 1 2 549, ra (.ifCond .eq 5) 15 12, r0 (.iload_n 3) 18, r0 .ireturn 19, r0 (.iload_n 3) 20, r0 (.iload_n 2) 21, ra (.if_icmp .ge 11) 22 19, r0 (.aload_n 0) 25, rf (.getfield 38) 26 4 4 0 225, ri (.invokevirtual 159) 29 45 1 0 1 2 515, r0 .pop 32, rv (.iinc 3 1) 33 0 1, ra (.goto (-34)) 36 2, rv (.iconst (-1)) 39 0 (-1), r0 .ireturn 40]
def mt96 : List (List RI) := [mt96_0]
def mt97_0 : List RI := [r0 (.iload_n 2) 0, rv (.iconst 0) 1 0 0, rv (.bipush 63) 2 0 63, ri (.invokestatic 77) 4 90 3 1 1 4 257, ra (.ifCond .ne 5) 7 7, rv (.iconst 0) 10 0 0, ra .ireturn 11 1, r0 (.aload_n 0) 12, rf (.getfield 38) 13 4 4 0 225, rf (.getfield 124) 16 2 3 0 155, r0 (.iload_n 1) 19, r0 (.iload_n 2) 20, r0 .iastore 21, r0 (.aload_n 0) 22, rf (.getfield 38) 23 4 4 0 225, r0 (.iload_n 1) 26, ri (.invokevirtual 153) 27 37 2 0 1 2 505, ra .ireturn 30 1]
def mt97 : List (List RI) := [mt97_0]
def mt98_0 : List RI := [r0 (.aload_n 0) 0, rf (.getfield 38) 1 4 4 0 225, r0 (.aload_n 0) 4, rf (.getfield 34) 5 4 3 0 224, ri (.invokevirtual 170) 8 32 2 0 0 2 541, rv (.iconst 0) 11 0 0, r0 (.istore_n 2) 12, r0 (.iload_n 2) 13, r0 (.aload_n 0) 14, rf (.getfield 34) 15 4 3 0 224, rf (.getfield 62) 18 2 6 0 161, ra (.if_icmp .ge 28) 21 27, r0 (.iload_n 1) 24, r0 (.iload_n 2) 25, r0 .ishr 26, rv (.iconst 1) 27 0 1, r0 .iand 28, rv (.iconst 1) 29 0 1, ra (.if_icmp .ne 13) 30 25, r0 (.aload_n 0) 33, rf (.getfield 38) 34 4 4 0 225, rf (.getfield 127) 37 2 4 0 157, r0 (.iload_n 2) 40, rv (.iconst 1) 41 0 1, r0 .bastore 42, rv (.iinc 2 1) 43 0 1, ra (.goto (-33)) 46 7, r0 (.aload_n 0) 49, rf (.getfield 38) 50 4 4 0 225, ri (.invokevirtual 91) 53 47 1 0 1 2 304, r0 (.aload_n 0) 56, rf (.getfield 38) 57 4 4 0 225]
def mt98_1 : List RI := [ri (.invokevirtual 94) 60 48 1 0 1 2 308, ra (.if_icmp .ne 7) 63 36, rv (.iconst 1) 66 0 1, ra (.goto 4) 67 37, rv (.iconst 0) 70 0 0, ra .ireturn 71 1]
def mt98 : List (List RI) := [mt98_0, mt98_1]
def mt99_0 : List RI := [r0 (.aload_n 0) 0, rf (.getfield 47) 1 4 6 0 227, r0 (.iload_n 1) 4, ri (.invokevirtual 213) 5 26 2 0 1 1 614, ra (.ifCond .ne 6) 8 7, rv (.bipush (-2)) 11 0 (-2), r0 .ireturn 13, r0 (.aload_n 0) 14, rf (.getfield 47) 15 4 6 0 227, rf (.getfield 226) 18 1 1 0 207, r0 (.iload_n 1) 21, r0 .iaload 22, rv (.iconst (-1)) 23 0 (-1), ra (.if_icmp .ne 6) 24 16, rv (.bipush (-11)) 27 0 (-11), r0 .ireturn 29, r0 (.aload_n 0) 30, rf (.getfield 47) 31 4 6 0 227, rf (.getfield 229) 34 1 2 0 209, r0 (.iload_n 1) 37, r0 .iaload 38, rv (.bipush 24) 39 0 24, ra (.if_icmp .le 8) 41 25, rv (.bipush (-2)) 44 0 (-2), ra (.goto 4) 46 26, rv (.iconst 0) 49 0 0, r0 .ireturn 50]
def mt99 : List (List RI) := [mt99_0]
def mt100_0 : List RI := [rv (.iconst 0) 0 0 0, r0 (.istore_n 2) 1, r0 (.iload_n 2) 2, r0 (.aload_n 0) 3, rf (.getfield 47) 4 4 6 0 227, rf (.getfield 229) 7 1 2 0 209, r0 (.iload_n 1) 10, r0 .iaload 11, ra (.if_icmp .ge 32) 12 24, r0 (.aload_n 0) 15, rf (.getfield 38) 16 4 4 0 225, ri (.invokevirtual 159) 19 45 1 0 1 2 515, rv (.iconst 1) 22 0 1, r0 .iadd 23, r0 (.aload_n 0) 24, rf (.getfield 47) 25 4 6 0 227, r0 (.iload_n 1) 28, r0 (.iload_n 2) 29, ri (.invokevirtual 242) 30 29 3 0 1 1 622, ra (.if_icmp .eq 5) 33 22, r0 (.iload_n 2) 36, r0 .ireturn 37, rv (.iinc 2 1) 38 0 1, ra (.goto (-39)) 41 2, rv (.iconst (-1)) 44 0 (-1), r0 .ireturn 45]
def mt100 : List (List RI) := [mt100_0]
def mt101_0 : List RI := [r0 (.aload_n 0) 0, rf (.getfield 38) 1 4 4 0 225, r0 (.aload_n 0) 4, rf (.getfield 34) 5 4 3 0 224, ri (.invokevirtual 170) 8 32 2 0 0 2 541, r0 (.iload_n 1) 11, r0 .i2l 12, rw (.lconst 1) 13 0 1, r0 .ladd 14, r0 (.lstore_n 2) 15, rv (.iconst 0) 16 0 0, r0 (.istore 4) 17, rv (.iconst 0) 19 0 0, r0 (.istore 5) 20, r0 (.iload 5) 22, rv (.bipush 12) 24 0 12, ra (.if_icmp .ge 84) 26 58, r0 (.lload_n 2) 29, ri (.invokestatic 248) 30 102 1 1 2 4 667, r0 (.lstore_n 2) 33, r0 (.lload_n 2) 34, rw (.ldc2_w 252) 35 672 6, r0 .lrem 38, r0 .l2i 39, r0 (.istore 6) 40, r0 (.lload_n 2) 42, ri (.invokestatic 248) 43 102 1 1 2 4 667, r0 (.lstore_n 2) 46, r0 (.aload_n 0) 47, rf (.getfield 38) 48 4 4 0 225, r0 (.iload 6) 51, r0 .i2l 53]
def mt101_1 : List RI := [ri (.invokevirtual 112) 54 33 2 0 1 2 474, ra (.ifCond .eq 33) 57 50, r0 (.aload_n 0) 60, rf (.getfield 38) 61 4 4 0 225, rf (.getfield 124) 64 2 3 0 155, r0 (.iload 6) 67, r0 .iaload 69, rv (.iconst (-1)) 70 0 (-1), ra (.if_icmp .eq 19) 71 50, r0 (.aload_n 0) 74, rf (.getfield 38) 75 4 4 0 225, rf (.getfield 124) 78 2 3 0 155, r0 (.iload 6) 81, r0 (.lload_n 2) 83, rw (.ldc2_w 254) 84 673 64, r0 .lrem 87, r0 .l2i 88, r0 .iastore 89, r0 (.aload_n 0) 90, rf (.getfield 38) 91 4 4 0 225, ri (.invokevirtual 159) 94 45 1 0 1 2 515, rv (.iconst (-1)) 97 0 (-1), ra (.if_icmp .eq 6) 98 56, rv (.iinc 4 1) 101 0 1, rv (.iinc 5 1) 104 0 1, ra (.goto (-85)) 107 14, r0 (.iload 4) 110, r0 .ireturn 112]
def mt101 : List (List RI) := [mt101_0, mt101_1]
def mt102_0 : List RI := [r0 (.lload_n 0) 0, rw (.ldc2_w 256) 1 670 48271, r0 .lmul 4, rw (.ldc2_w 258) 5 671 2147483647, r0 .lrem 8, r0 .lreturn 9]
def mt102 : List (List RI) := [mt102_0]
def mt103_0 : List RI := [r0 (.lload_n 2) 0, rw (.lconst 1) 1 0 1, r0 .lcmp 2, ra (.ifCond .lt 13) 3 9, r0 (.iload 4) 6, rv (.iconst 0) 8 0 0, rv (.iconst 1) 9 0 1, ri (.invokestatic 77) 10 90 3 1 1 4 257, ra (.ifCond .ne 7) 13 11, rw (.ldc2_w 211) 16 604 (-4611686018427387904), r0 .lreturn 19, r0 (.lload_n 2) 20, r0 (.lstore 5) 21, r0 (.lload_n 0) 23, r0 (.lstore 7) 24, rv (.iconst 0) 26 0 0, r0 (.istore 9) 27, r0 (.iload 9) 29, r0 .i2l 31, rw (.ldc2_w 260) 32 605 100, r0 .lcmp 35, ra (.ifCond .ge 31) 36 36, r0 (.lload 7) 39, rw (.lconst 0) 41 0 0, r0 .lcmp 42, ra (.ifCond .eq 24) 43 36, r0 (.lload 5) 46, r0 (.lload 7) 48, r0 .lrem 50, r0 (.lstore 10) 51, r0 (.lload 7) 53, r0 (.lstore 5) 55]
def mt103_1 : List RI := [r0 (.lload 10) 57, r0 (.lstore 7) 59, rv (.iinc 9 1) 61 0 1, ra (.goto (-35)) 64 17, r0 (.lload 5) 67, rw (.lconst 0) 69 0 0, r0 .lcmp 70, ra (.ifCond .ne 7) 71 42, rw (.ldc2_w 211) 74 604 (-4611686018427387904), r0 .lreturn 77, r0 (.iload 4) 78, ra (.ifCond .ne 7) 80 46, r0 (.lload_n 0) 83, ra (.goto 4) 84 47, r0 (.lload_n 2) 87, r0 (.lload 5) 88, r0 .ldiv 90, r0 .lreturn 91]
def mt103 : List (List RI) := [mt103_0, mt103_1]
def mt104_0 : List RI := [r0 (.iload_n 0) 0, r0 (.iload_n 1) 1, ra (.if_icmp .lt 12) 2 8, r0 (.iload_n 0) 5, r0 (.iload_n 2) 6, ra (.if_icmp .gt 7) 7 8, rv (.iconst 1) 10 0 1, ra (.goto 4) 11 9, rv (.iconst 0) 14 0 0, ra .ireturn 15 1]
def mt104 : List (List RI) := [mt104_0]
def mt105_0 : List RI := [r0 (.iload_n 0) 0, r0 (.iload_n 1) 1, ra (.if_icmp .ge 7) 2 5, r0 (.iload_n 1) 5, ra (.goto 13) 6 11, r0 (.iload_n 0) 9, r0 (.iload_n 2) 10, ra (.if_icmp .le 7) 11 10, r0 (.iload_n 2) 14, ra (.goto 4) 15 11, r0 (.iload_n 0) 18, r0 .ireturn 19]
def mt105 : List (List RI) := [mt105_0]
def mt106_0 : List RI := [rv (.iconst 0) 0 0 0, r0 (.istore_n 1) 1, rv (.iconst 0) 2 0 0, r0 (.istore_n 2) 3, r0 (.iload_n 2) 4, rv (.bipush 6) 5 0 6, ra (.if_icmp .ge 17) 7 17, r0 (.iload_n 1) 10, r0 (.iload_n 0) 11, r0 (.iload_n 2) 12, r0 .ishr 13, rv (.iconst 1) 14 0 1, r0 .iand 15, r0 .iadd 16, r0 (.istore_n 1) 17, rv (.iinc 2 1) 18 0 1, ra (.goto (-17)) 21 4, r0 (.iload_n 1) 24, r0 .ireturn 25]
def mt106 : List (List RI) := [mt106_0]
def mt107_0 : List RI := [r0 (.iload_n 1) 0, rv (.iconst 0) 1 0 0, r0 (.aload_n 0) 2, rf (.getfield 72) 3 5 0 0 774, rv (.iconst 1) 6 0 1, r0 .isub 7, ri (.invokestatic 75) 8 104 3 1 1 5 735, ra .ireturn 11 1]
def mt107 : List (List RI) := [mt107_0]
def mt108_0 : List RI := [r0 (.aload_n 0) 0, rf (.getfield 16) 1 5 3 0 777, rv (.iconst 3) 4 0 3, r0 (.iload_n 1) 5, r0 .imul 6, r0 .iaload 7, rv (.iconst (-1)) 8 0 (-1), ra (.if_icmp .eq 7) 9 10, rv (.iconst 1) 12 0 1, ra (.goto 4) 13 11, rv (.iconst 0) 16 0 0, ra .ireturn 17 1]
def mt108 : List (List RI) := [mt108_0]
def mt109_0 : List RI := [r0 (.aload_n 0) 0, r0 (.iload_n 1) 1, ri (.invokevirtual 79) 2 108 2 0 1 5 895, ra (.ifCond .eq 20) 5 15, r0 (.aload_n 0) 8, rf (.getfield 16) 9 5 3 0 777, rv (.iconst 3) 12 0 3, r0 (.iload_n 1) 13, r0 .imul 14, rv (.iconst 1) 15 0 1, r0 .iadd 16, r0 .iaload 17, ra (.ifCond .ne 7) 18 15, rv (.iconst 1) 21 0 1, ra (.goto 4) 22 16, rv (.iconst 0) 25 0 0, ra .ireturn 26 1]
def mt109 : List (List RI) := [mt109_0]
def mt110_0 : List RI := [rv (.iconst 0) 0 0 0, r0 (.istore_n 1) 1, rv (.iconst 0) 2 0 0, r0 (.istore_n 2) 3, r0 (.iload_n 2) 4, r0 (.aload_n 0) 5, rf (.getfield 72) 6 5 0 0 774, ra (.if_icmp .ge 27) 9 22, r0 (.iload_n 1) 12, r0 (.aload_n 0) 13, r0 (.iload_n 2) 14, ri (.invokevirtual 83) 15 109 2 0 1 5 891, ra (.ifCond .eq 9) 18 17, rv (.iconst 1) 21 0 1, r0 (.iload_n 2) 22, r0 .ishl 23, ra (.goto 4) 24 18, rv (.iconst 0) 27 0 0, r0 .ior 28, r0 (.istore_n 1) 29, rv (.iinc 2 1) 30 0 1, ra (.goto (-29)) 33 4, r0 (.iload_n 1) 36, r0 .ireturn 37]
def mt110 : List (List RI) := [mt110_0]
def mt111_0 : List RI := [r0 (.aload_n 0) 0, r0 (.iload_n 1) 1, ri (.invokevirtual 79) 2 108 2 0 1 5 895, ra (.ifCond .ne 17) 5 12, r0 (.aload_n 0) 8, rf (.getfield 19) 9 5 4 0 778, rv (.iconst 1) 12 0 1, r0 .iaload 13, r0 (.iload_n 1) 14, ra (.if_icmp .eq 7) 15 12, rv (.iconst 1) 18 0 1, ra (.goto 4) 19 13, rv (.iconst 0) 22 0 0, ra .ireturn 23 1]
def mt111 : List (List RI) := [mt111_0]
def mt112_0 : List RI := [rv (.iconst 0) 0 0 0, r0 (.istore_n 1) 1, rv (.iconst 0) 2 0 0, r0 (.istore_n 2) 3, r0 (.iload_n 2) 4, r0 (.aload_n 0) 5, rf (.getfield 72) 6 5 0 0 774, ra (.if_icmp .ge 27) 9 22, r0 (.iload_n 1) 12, r0 (.aload_n 0) 13, r0 (.iload_n 2) 14, ri (.invokevirtual 86) 15 111 2 0 1 5 940, ra (.ifCond .eq 9) 18 17, rv (.iconst 1) 21 0 1, r0 (.iload_n 2) 22, r0 .ishl 23, ra (.goto 4) 24 18, rv (.iconst 0) 27 0 0, r0 .ior 28, r0 (.istore_n 1) 29, rv (.iinc 2 1) 30 0 1, ra (.goto (-29)) 33 4, r0 (.iload_n 1) 36, r0 .ireturn 37]
def mt112 : List (List RI) := [mt112_0]
def mt113_0 : List RI := [r0 (.iload_n 1) 0, rt (.tableswitch 73 0 5 #[39, 44, 51, 58, 63, 68]) 1 24 [(0, 2), (1, 5), (2, 10), (3, 15), (4, 18), (5, 21)], r0 (.aload_n 0) 40, rf (.getfield 72) 41 5 0 0 774, r0 .ireturn 44, r0 (.aload_n 0) 45, rf (.getfield 19) 46 5 4 0 778, rv (.iconst 3) 49 0 3, r0 .iaload 50, r0 .ireturn 51, r0 (.aload_n 0) 52, rf (.getfield 19) 53 5 4 0 778, rv (.iconst 2) 56 0 2, r0 .iaload 57, r0 .ireturn 58, r0 (.aload_n 0) 59, rf (.getfield 89) 60 5 9 0 783, r0 .ireturn 63, r0 (.aload_n 0) 64, rf (.getfield 92) 65 5 10 0 784, r0 .ireturn 68, r0 (.aload_n 0) 69, rf (.getfield 64) 70 5 6 0 780, r0 .ireturn 73, rv (.bipush (-2)) 74 0 (-2), r0 .ireturn 76]
def mt113 : List (List RI) := [mt113_0]
def mt114_0 : List RI := [r0 (.iload_n 1) 0, rv (.iconst 0) 1 0 0, rv (.iconst 1) 2 0 1, ri (.invokestatic 75) 3 104 3 1 1 5 735, ra (.ifCond .eq 23) 6 14, r0 (.iload_n 2) 9, rv (.iconst 0) 10 0 0, r0 (.iload_n 1) 11, ra (.ifCond .ne 9) 12 11, rv (.sipush 9999) 15 0 9999, ra (.goto 5) 18 12, rv (.bipush 99) 21 0 99, ri (.invokestatic 75) 23 104 3 1 1 5 735, ra (.ifCond .ne 6) 26 16, rv (.bipush (-2)) 29 0 (-2), r0 .ireturn 31, r0 (.iload_n 1) 32, ra (.ifCond .ne 7) 33 20, rv (.iconst 3) 36 0 3, ra (.goto 4) 37 21, rv (.iconst 0) 40 0 0, r0 (.istore_n 3) 41, r0 (.aload_n 0) 42, rf (.getfield 19) 43 5 4 0 778, r0 (.iload_n 3) 46, r0 .iaload 47, r0 (.istore 4) 48, r0 (.aload_n 0) 50, rf (.getfield 19) 51 5 4 0 778, r0 (.iload_n 3) 54, r0 (.iload_n 2) 55, r0 .iastore 56]
def mt114_1 : List RI := [r0 (.iload 4) 57, r0 .ireturn 59]
def mt114 : List (List RI) := [mt114_0, mt114_1]
def mt115_0 : List RI := [r0 (.iload_n 1) 0, rt (.tableswitch 66 0 5 #[39, 39, 46, 51, 56, 61]) 1 19 [(0, 2), (1, 2), (2, 7), (3, 10), (4, 13), (5, 16)], r0 (.aload_n 0) 40, rf (.getfield 19) 41 5 4 0 778, r0 (.iload_n 1) 44, r0 .iaload 45, r0 .ireturn 46, r0 (.aload_n 0) 47, ri (.invokevirtual 95) 48 142 1 0 1 5 883, r0 .ireturn 51, r0 (.aload_n 0) 52, ri (.invokevirtual 98) 53 141 1 0 1 5 932, r0 .ireturn 56, r0 (.aload_n 0) 57, ri (.invokevirtual 101) 58 110 1 0 1 5 911, r0 .ireturn 61, r0 (.aload_n 0) 62, ri (.invokevirtual 104) 63 112 1 0 1 5 936, r0 .ireturn 66, rv (.bipush (-7)) 67 0 (-7), r0 .ireturn 69]
def mt115 : List (List RI) := [mt115_0]
def mt116_0 : List RI := [r0 (.iload_n 0) 0, rv (.iconst 0) 1 0 0, rv (.sipush 255) 2 0 255, ri (.invokestatic 75) 5 104 3 1 1 5 735, ra .ireturn 8 1]
def mt116 : List (List RI) := [mt116_0]
def mt117_0 : List RI := [r0 (.iload_n 1) 0, rv (.iconst 1) 1 0 1, rv (.iconst 5) 2 0 5, ri (.invokestatic 75) 3 104 3 1 1 5 735, ra (.ifCond .eq 41) 6 20, r0 (.iload_n 2) 9, ri (.invokestatic 107) 10 116 1 1 1 5 948, ra (.ifCond .eq 34) 13 20, r0 (.iload_n 3) 16, ri (.invokestatic 107) 17 116 1 1 1 5 948, ra (.ifCond .eq 27) 20 20, r0 (.iload 4) 23, ri (.invokestatic 107) 25 116 1 1 1 5 948, ra (.ifCond .eq 19) 28 20, r0 (.iload 5) 31, ri (.invokestatic 107) 33 116 1 1 1 5 948, ra (.ifCond .eq 11) 36 20, r0 (.iload 6) 39, ri (.invokestatic 107) 41 116 1 1 1 5 948, ra (.ifCond .ne 6) 44 22, rv (.bipush (-2)) 47 0 (-2), r0 .ireturn 49, r0 (.aload_n 0) 50, rf (.getfield 64) 51 5 6 0 780, r0 (.iload_n 1) 54, r0 .iadd 55, rv (.sipush 160) 56 0 160, ra (.if_icmp .le 6) 59 30, rv (.bipush (-4)) 62 0 (-4), r0 .ireturn 64, rv (.iconst 0) 65 0 0, r0 (.istore 7) 66]
def mt117_1 : List RI := [r0 (.iload 7) 68, r0 (.iload_n 1) 70, ra (.if_icmp .ge 71) 71 68, r0 (.aload_n 0) 74, rf (.getfield 22) 75 5 5 0 779, r0 (.aload_n 0) 78, rf (.getfield 64) 79 5 6 0 780, r0 (.iload 7) 82, ra (.ifCond .ne 7) 84 43, r0 (.iload_n 2) 87, ra (.goto 37) 88 59, r0 (.iload 7) 91, rv (.iconst 1) 93 0 1, ra (.if_icmp .ne 7) 94 48, r0 (.iload_n 3) 97, ra (.goto 27) 98 59, r0 (.iload 7) 101, rv (.iconst 2) 103 0 2, ra (.if_icmp .ne 8) 104 53, r0 (.iload 4) 107, ra (.goto 16) 109 59, r0 (.iload 7) 112, rv (.iconst 3) 114 0 3, ra (.if_icmp .ne 8) 115 58, r0 (.iload 5) 118, ra (.goto 5) 120 59, r0 (.iload 6) 123, r0 .iastore 125, r0 (.aload_n 0) 126, r0 .dup 127, rf (.getfield 64) 128 5 6 0 780, rv (.iconst 1) 131 0 1]
def mt117_2 : List RI := [r0 .iadd 132, rf (.putfield 64) 133 5 6 0 780, rv (.iinc 7 1) 136 0 1, ra (.goto (-71)) 139 32, r0 (.aload_n 0) 142, rf (.getfield 64) 143 5 6 0 780, r0 .ireturn 146]
def mt117 : List (List RI) := [mt117_0, mt117_1, mt117_2]
def mt118_0 : List RI := [rv (.iconst 0) 0 0 0, r0 (.istore_n 3) 1, r0 (.iload_n 3) 2, rv (.bipush 12) 3 0 12, ra (.if_icmp .ge 96) 5 55, r0 (.iload_n 2) 8, r0 (.iload_n 1) 9, r0 .isub 10, rv (.bipush 8) 11 0 8, ra (.if_icmp .gt 7) 13 12, rv (.iconst 1) 16 0 1, ra (.goto 4) 17 13, rv (.iconst 0) 20 0 0, r0 (.istore 4) 21, rv (.iconst 0) 23 0 0, r0 (.istore 5) 24, r0 (.iload 5) 26, rv (.bipush 8) 28 0 8, ra (.if_icmp .ge 58) 30 49, r0 (.iload 4) 33, ra (.ifCond .eq 53) 35 49, r0 (.aload_n 0) 38, rf (.getfield 49) 39 5 22 0 796, rv (.bipush 8) 42 0 8, r0 (.iload_n 3) 44, r0 .imul 45, r0 (.iload 5) 46, r0 .iadd 48, r0 .iaload 49, r0 (.iload_n 1) 50, r0 (.iload 5) 51, r0 .iadd 53]
def mt118_1 : List RI := [r0 (.iload_n 2) 54, ra (.if_icmp .ge 15) 55 41, r0 (.aload_n 0) 58, rf (.getfield 22) 59 5 5 0 779, r0 (.iload_n 1) 62, r0 (.iload 5) 63, r0 .iadd 65, r0 .iaload 66, ra (.goto 5) 67 42, rv (.bipush 32) 70 0 32, ra (.if_icmp .ne 7) 72 45, rv (.iconst 1) 75 0 1, ra (.goto 4) 76 46, rv (.iconst 0) 79 0 0, r0 (.istore 4) 80, rv (.iinc 5 1) 82 0 1, ra (.goto (-59)) 85 16, r0 (.iload 4) 88, ra (.ifCond .eq 5) 90 53, r0 (.iload_n 3) 93, r0 .ireturn 94, rv (.iinc 3 1) 95 0 1, ra (.goto (-96)) 98 2, rv (.bipush 12) 101 0 12, r0 .ireturn 103]
def mt118 : List (List RI) := [mt118_0, mt118_1]
def mt119_0 : List RI := [r0 (.aload_n 0) 0, rf (.getfield 110) 1 5 18 0 792, r0 (.aload_n 0) 4, rf (.getfield 64) 5 5 6 0 780, ra (.if_icmp .ge 44) 8 26, r0 (.aload_n 0) 11, rf (.getfield 22) 12 5 5 0 779, r0 (.aload_n 0) 15, rf (.getfield 110) 16 5 18 0 792, r0 .iaload 19, rv (.bipush 32) 20 0 32, ra (.if_icmp .eq 17) 22 19, r0 (.aload_n 0) 25, rf (.getfield 22) 26 5 5 0 779, r0 (.aload_n 0) 29, rf (.getfield 110) 30 5 18 0 792, r0 .iaload 33, rv (.bipush 10) 34 0 10, ra (.if_icmp .ne 16) 36 26, r0 (.aload_n 0) 39, r0 .dup 40, rf (.getfield 110) 41 5 18 0 792, rv (.iconst 1) 44 0 1, r0 .iadd 45, rf (.putfield 110) 46 5 18 0 792, r0 (.goto (-49)) 49, r0 (.aload_n 0) 52, r0 (.aload_n 0) 53, rf (.getfield 110) 54 5 18 0 792, rf (.putfield 113) 57 5 19 0 793, r0 (.aload_n 0) 60, rv (.iconst 0) 61 0 0]
def mt119_1 : List RI := [rf (.putfield 116) 62 5 20 0 794, r0 (.aload_n 0) 65, rv (.iconst 0) 66 0 0, rf (.putfield 119) 67 5 21 0 795, r0 (.aload_n 0) 70, rf (.getfield 110) 71 5 18 0 792, r0 (.aload_n 0) 74, rf (.getfield 64) 75 5 6 0 780, ra (.if_icmp .ne 4) 78 42, r0 .return_ 81, r0 (.aload_n 0) 82, rf (.getfield 22) 83 5 5 0 779, r0 (.aload_n 0) 86, rf (.getfield 110) 87 5 18 0 792, r0 .iaload 90, r0 (.istore_n 1) 91, r0 (.iload_n 1) 92, rv (.bipush 97) 93 0 97, rv (.bipush 122) 95 0 122, ri (.invokestatic 75) 97 104 3 1 1 5 735, ra (.ifCond .eq 117) 100 114, r0 (.aload_n 0) 103, rf (.getfield 110) 104 5 18 0 792, r0 (.aload_n 0) 107, rf (.getfield 64) 108 5 6 0 780, ra (.if_icmp .ge 35) 111 74, r0 (.aload_n 0) 114, rf (.getfield 22) 115 5 5 0 779, r0 (.aload_n 0) 118, rf (.getfield 110) 119 5 18 0 792, r0 .iaload 122, rv (.bipush 97) 123 0 97]
def mt119_2 : List RI := [rv (.bipush 122) 125 0 122, ri (.invokestatic 75) 127 104 3 1 1 5 735, ra (.ifCond .eq 16) 130 74, r0 (.aload_n 0) 133, r0 .dup 134, rf (.getfield 110) 135 5 18 0 792, rv (.iconst 1) 138 0 1, r0 .iadd 139, rf (.putfield 110) 140 5 18 0 792, ra (.goto (-40)) 143 53, r0 (.aload_n 0) 146, r0 (.aload_n 0) 147, rf (.getfield 113) 148 5 19 0 793, r0 (.aload_n 0) 151, rf (.getfield 110) 152 5 18 0 792, ri (.invokevirtual 122) 155 118 3 0 1 5 738, r0 (.istore_n 2) 158, r0 (.aload_n 0) 159, r0 (.iload_n 2) 160, rv (.iconst 3) 161 0 3, ra (.if_icmp .ge 7) 162 87, rv (.iconst 3) 165 0 3, ra (.goto 29) 166 102, r0 (.iload_n 2) 169, rv (.bipush 9) 170 0 9, ra (.if_icmp .ge 7) 172 92, rv (.iconst 2) 175 0 2, ra (.goto 19) 176 102, r0 (.iload_n 2) 179, rv (.bipush 12) 180 0 12, ra (.if_icmp .ne 7) 182 97, rv (.iconst (-1)) 185 0 (-1)]
def mt119_3 : List RI := [ra (.goto 9) 186 102, rv (.iconst 4) 189 0 4, r0 (.iload_n 2) 190, r0 .iadd 191, rv (.bipush 9) 192 0 9, r0 .isub 194, rf (.putfield 116) 195 5 20 0 794, r0 (.aload_n 0) 198, r0 (.iload_n 2) 199, rv (.iconst 3) 200 0 3, ra (.if_icmp .ge 7) 201 109, r0 (.iload_n 2) 204, ra (.goto 6) 205 112, r0 (.iload_n 2) 208, rv (.iconst 3) 209 0 3, r0 .isub 210, rf (.putfield 119) 211 5 21 0 795, ra (.goto 189) 214 212, r0 (.iload_n 1) 217, rv (.bipush 48) 218 0 48, rv (.bipush 57) 220 0 57, ri (.invokestatic 75) 222 104 3 1 1 5 735, ra (.ifCond .eq 101) 225 171, rv (.iconst 0) 228 0 0, r0 (.istore_n 2) 229, r0 (.aload_n 0) 230, rf (.getfield 110) 231 5 18 0 792, r0 (.aload_n 0) 234, rf (.getfield 64) 235 5 6 0 780, ra (.if_icmp .ge 71) 238 162, r0 (.aload_n 0) 241, rf (.getfield 22) 242 5 5 0 779]
def mt119_4 : List RI := [r0 (.aload_n 0) 245, rf (.getfield 110) 246 5 18 0 792, r0 .iaload 249, rv (.bipush 48) 250 0 48, rv (.bipush 57) 252 0 57, ri (.invokestatic 75) 254 104 3 1 1 5 735, ra (.ifCond .eq 52) 257 162, r0 (.aload_n 0) 260, r0 (.iload_n 2) 261, rv (.iconst 4) 262 0 4, ra (.if_icmp .ge 26) 263 152, rv (.bipush 10) 266 0 10, r0 (.aload_n 0) 268, rf (.getfield 119) 269 5 21 0 795, r0 .imul 272, r0 (.aload_n 0) 273, rf (.getfield 22) 274 5 5 0 779, r0 (.aload_n 0) 277, rf (.getfield 110) 278 5 18 0 792, r0 .iaload 281, r0 .iadd 282, rv (.bipush 48) 283 0 48, r0 .isub 285, ra (.goto 4) 286 153, rv (.iconst 0) 289 0 0, rf (.putfield 119) 290 5 21 0 795, rv (.iinc 2 1) 293 0 1, r0 (.aload_n 0) 296, r0 .dup 297, rf (.getfield 110) 298 5 18 0 792, rv (.iconst 1) 301 0 1, r0 .iadd 302]
def mt119_5 : List RI := [rf (.putfield 110) 303 5 18 0 792, ra (.goto (-76)) 306 121, r0 (.aload_n 0) 309, r0 (.iload_n 2) 310, rv (.iconst 4) 311 0 4, ra (.if_icmp .le 7) 312 168, rv (.iconst (-1)) 315 0 (-1), ra (.goto 4) 316 169, rv (.iconst 1) 319 0 1, rf (.putfield 116) 320 5 20 0 794, ra (.goto 80) 323 212, r0 (.iload_n 1) 326, rv (.bipush 40) 327 0 40, ra (.if_icmp .eq 45) 329 195, r0 (.iload_n 1) 332, rv (.bipush 41) 333 0 41, ra (.if_icmp .eq 39) 335 195, r0 (.iload_n 1) 338, rv (.bipush 59) 339 0 59, ra (.if_icmp .eq 33) 341 195, r0 (.iload_n 1) 344, rv (.bipush 43) 345 0 43, ra (.if_icmp .eq 27) 347 195, r0 (.iload_n 1) 350, rv (.bipush 45) 351 0 45, ra (.if_icmp .eq 21) 353 195, r0 (.iload_n 1) 356, rv (.bipush 42) 357 0 42, ra (.if_icmp .eq 15) 359 195, r0 (.iload_n 1) 362, rv (.bipush 60) 363 0 60, ra (.if_icmp .eq 9) 365 195]
def mt119_6 : List RI := [r0 (.iload_n 1) 368, rv (.bipush 61) 369 0 61, ra (.if_icmp .ne 7) 371 197, rv (.iconst 1) 374 0 1, ra (.goto 4) 375 198, rv (.iconst 0) 378 0 0, r0 (.istore_n 2) 379, r0 (.aload_n 0) 380, r0 (.iload_n 2) 381, ra (.ifCond .eq 7) 382 204, r0 (.iload_n 1) 385, ra (.goto 4) 386 205, rv (.iconst (-1)) 389 0 (-1), rf (.putfield 116) 390 5 20 0 794, r0 (.aload_n 0) 393, r0 .dup 394, rf (.getfield 110) 395 5 18 0 792, rv (.iconst 1) 398 0 1, r0 .iadd 399, rf (.putfield 110) 400 5 18 0 792, r0 .return_ 403]
def mt119 : List (List RI) := [mt119_0, mt119_1, mt119_2, mt119_3, mt119_4, mt119_5, mt119_6]
def mt120_0 : List RI := [r0 (.iload_n 0) 0, ra (.ifCond .ne 7) 1 4, rv (.iconst 0) 4 0 0, ra (.goto 66) 5 35, r0 (.iload_n 0) 8, rv (.bipush 11) 9 0 11, ra (.if_icmp .ne 7) 11 9, rv (.iconst 1) 14 0 1, ra (.goto 56) 15 35, r0 (.iload_n 0) 18, rv (.bipush 12) 19 0 12, ra (.if_icmp .ne 7) 21 14, rv (.iconst 2) 24 0 2, ra (.goto 46) 25 35, r0 (.iload_n 0) 28, rv (.bipush 13) 29 0 13, ra (.if_icmp .ne 7) 31 19, rv (.iconst 3) 34 0 3, ra (.goto 36) 35 35, r0 (.iload_n 0) 38, rv (.bipush 15) 39 0 15, ra (.if_icmp .gt 7) 41 24, rv (.iconst 4) 44 0 4, ra (.goto 26) 45 35, r0 (.iload_n 0) 48, rv (.bipush 17) 49 0 17, ra (.if_icmp .gt 7) 51 29, rv (.iconst 5) 54 0 5, ra (.goto 16) 55 35, r0 (.iload_n 0) 58, rv (.bipush 18) 59 0 18, ra (.if_icmp .ne 8) 61 34]
def mt120_1 : List RI := [rv (.bipush 6) 64 0 6, ra (.goto 5) 66 35, rv (.bipush 7) 69 0 7, r0 .ireturn 71]
def mt120 : List (List RI) := [mt120_0, mt120_1]
def mt121_0 : List RI := [r0 (.aload_n 0) 0, rf (.getfield 25) 1 5 7 0 781, rv (.sipush 200) 4 0 200, r0 (.aload_n 0) 7, rf (.getfield 89) 8 5 9 0 783, r0 .imul 11, r0 (.aload_n 0) 12, rf (.getfield 126) 13 5 26 0 800, r0 .iadd 16, r0 (.iload_n 1) 17, r0 .iastore 18, r0 (.aload_n 0) 19, r0 .dup 20, rf (.getfield 126) 21 5 26 0 800, rv (.iconst 1) 24 0 1, r0 .iadd 25, rf (.putfield 126) 26 5 26 0 800, r0 .return_ 29]
def mt121 : List (List RI) := [mt121_0]
def mt122_0 : List RI := [r0 (.aload_n 0) 0, rf (.getfield 129) 1 5 24 0 798, ra (.ifCond .le 75) 4 43, r0 (.aload_n 0) 7, rf (.getfield 52) 8 5 23 0 797, r0 (.aload_n 0) 11, rf (.getfield 129) 12 5 24 0 798, rv (.iconst 1) 15 0 1, r0 .isub 16, r0 .iaload 17, ri (.invokestatic 132) 18 120 1 1 1 5 755, r0 (.iload_n 1) 21, ra (.if_icmp .lt 57) 22 43, r0 (.aload_n 0) 25, r0 .dup 26, rf (.getfield 129) 27 5 24 0 798, rv (.iconst 1) 30 0 1, r0 .isub 31, rf (.putfield 129) 32 5 24 0 798, r0 (.aload_n 0) 35, rf (.getfield 52) 36 5 23 0 797, r0 (.aload_n 0) 39, rf (.getfield 129) 40 5 24 0 798, r0 .iaload 43, r0 (.istore_n 2) 44, r0 (.aload_n 0) 45, r0 .dup 46, rf (.getfield 136) 47 5 25 0 799, r0 (.iload_n 2) 50, rv (.bipush 13) 51 0 13, ra (.if_icmp .eq 9) 53 34, r0 (.iload_n 2) 56]
def mt122_1 : List RI := [rv (.bipush 19) 57 0 19, ra (.if_icmp .ne 7) 59 36, rv (.iconst 1) 62 0 1, ra (.goto 4) 63 37, rv (.iconst 0) 66 0 0, r0 .isub 67, rf (.putfield 136) 68 5 25 0 799, r0 (.aload_n 0) 71, r0 (.iload_n 2) 72, ri (.invokevirtual 139) 73 121 2 0 0 5 747, r0 (.goto (-76)) 76, r0 .return_ 79]
def mt122 : List (List RI) := [mt122_0, mt122_1]
def mt123_0 : List RI := [r0 (.aload_n 0) 0, rf (.getfield 52) 1 5 23 0 797, r0 (.aload_n 0) 4, rf (.getfield 129) 5 5 24 0 798, r0 (.iload_n 1) 8, r0 .iastore 9, r0 (.aload_n 0) 10, r0 .dup 11, rf (.getfield 129) 12 5 24 0 798, rv (.iconst 1) 15 0 1, r0 .iadd 16, rf (.putfield 129) 17 5 24 0 798, r0 .return_ 20]
def mt123 : List (List RI) := [mt123_0]
def mt124_0 : List RI := [r0 (.aload_n 0) 0, rf (.getfield 136) 1 5 25 0 799, rv (.iconst 5) 4 0 5, ra (.if_icmp .ne 5) 5 6, rv (.iconst 0) 8 0 0, ra .ireturn 9 1, r0 (.aload_n 0) 10, r0 .dup 11, rf (.getfield 136) 12 5 25 0 799, rv (.iconst 1) 15 0 1, r0 .iadd 16, rf (.putfield 136) 17 5 25 0 799, r0 (.aload_n 0) 20, r0 (.iload_n 1) 21, ri (.invokevirtual 143) 22 123 2 0 0 5 762, rv (.iconst 1) 25 0 1, ra .ireturn 26 1]
def mt124 : List (List RI) := [mt124_0]
def mt125_0 : List RI := [r0 (.aload_n 0) 0, r0 (.iload_n 1) 1, ri (.invokestatic 132) 2 120 1 1 1 5 755, rv (.iconst 4) 5 0 4, ra (.if_icmp .ne 7) 6 7, rv (.iconst 5) 9 0 5, ra (.goto 7) 10 9, r0 (.iload_n 1) 13, ri (.invokestatic 132) 14 120 1 1 1 5 755, ri (.invokevirtual 146) 17 122 2 0 0 5 751, r0 (.iload_n 1) 20, ri (.invokestatic 132) 21 120 1 1 1 5 755, rv (.iconst 4) 24 0 4, ra (.if_icmp .ne 30) 25 29, r0 (.aload_n 0) 28, rf (.getfield 129) 29 5 24 0 798, ra (.ifCond .le 23) 32 29, r0 (.aload_n 0) 35, rf (.getfield 52) 36 5 23 0 797, r0 (.aload_n 0) 39, rf (.getfield 129) 40 5 24 0 798, rv (.iconst 1) 43 0 1, r0 .isub 44, r0 .iaload 45, ri (.invokestatic 132) 46 120 1 1 1 5 755, rv (.iconst 4) 49 0 4, ra (.if_icmp .ne 5) 50 29, rv (.iconst 0) 53 0 0, ra .ireturn 54 1, r0 (.aload_n 0) 55, r0 (.iload_n 1) 56, ri (.invokevirtual 143) 57 123 2 0 0 5 762]
def mt125_1 : List RI := [rv (.iconst 1) 60 0 1, ra .ireturn 61 1]
def mt125 : List (List RI) := [mt125_0, mt125_1]
def mt126_0 : List RI := [r0 (.aload_n 0) 0, rf (.getfield 116) 1 5 20 0 794, rv (.iconst 4) 4 0 4, ra (.if_icmp .ne 8) 5 6, rv (.bipush 11) 8 0 11, ra (.goto 87) 10 43, r0 (.aload_n 0) 13, rf (.getfield 116) 14 5 20 0 794, rv (.iconst 5) 17 0 5, ra (.if_icmp .ne 8) 18 12, rv (.bipush 12) 21 0 12, ra (.goto 74) 23 43, r0 (.aload_n 0) 26, rf (.getfield 116) 27 5 20 0 794, rv (.bipush 60) 30 0 60, ra (.if_icmp .ne 8) 32 18, rv (.bipush 14) 35 0 14, ra (.goto 60) 37 43, r0 (.aload_n 0) 40, rf (.getfield 116) 41 5 20 0 794, rv (.bipush 61) 44 0 61, ra (.if_icmp .ne 8) 46 24, rv (.bipush 15) 49 0 15, ra (.goto 46) 51 43, r0 (.aload_n 0) 54, rf (.getfield 116) 55 5 20 0 794, rv (.bipush 43) 58 0 43, ra (.if_icmp .ne 8) 60 30, rv (.bipush 16) 63 0 16, ra (.goto 32) 65 43, r0 (.aload_n 0) 68, rf (.getfield 116) 69 5 20 0 794]
def mt126_1 : List RI := [rv (.bipush 45) 72 0 45, ra (.if_icmp .ne 8) 74 36, rv (.bipush 17) 77 0 17, ra (.goto 18) 79 43, r0 (.aload_n 0) 82, rf (.getfield 116) 83 5 20 0 794, rv (.bipush 42) 86 0 42, ra (.if_icmp .ne 8) 88 42, rv (.bipush 18) 91 0 18, ra (.goto 4) 93 43, rv (.iconst (-1)) 96 0 (-1), r0 .ireturn 97]
def mt126 : List (List RI) := [mt126_0, mt126_1]
def mt127_0 : List RI := [r0 (.aload_n 0) 0, rv (.iconst 0) 1 0 0, rf (.putfield 129) 2 5 24 0 798, r0 (.aload_n 0) 5, rv (.iconst 0) 6 0 0, rf (.putfield 136) 7 5 25 0 799, rv (.iconst 1) 10 0 1, r0 (.istore_n 1) 11, rv (.iconst 1) 12 0 1, r0 (.istore_n 2) 13, r0 (.aload_n 0) 14, ri (.invokevirtual 149) 15 119 1 0 0 5 731, r0 (.iload_n 1) 18, ra (.ifCond .eq 131) 19 81, r0 (.aload_n 0) 22, rf (.getfield 116) 23 5 20 0 794, rv (.iconst 1) 26 0 1, ra (.if_icmp .eq 11) 27 22, r0 (.aload_n 0) 30, rf (.getfield 116) 31 5 20 0 794, rv (.iconst 2) 34 0 2, ra (.if_icmp .ne 40) 35 41, r0 (.aload_n 0) 38, r0 (.aload_n 0) 39, rf (.getfield 116) 40 5 20 0 794, rv (.iconst 1) 43 0 1, ra (.if_icmp .ne 13) 44 32, rv (.ldc 152) 47 746 100000, r0 (.aload_n 0) 49, rf (.getfield 119) 50 5 21 0 795, r0 .iadd 53, ra (.goto 7) 54 34]
def mt127_1 : List RI := [r0 (.aload_n 0) 57, rf (.getfield 119) 58 5 21 0 795, ri (.invokevirtual 139) 61 121 2 0 0 5 747, r0 (.aload_n 0) 64, rv (.bipush 7) 65 0 7, ri (.invokevirtual 146) 67 122 2 0 0 5 751, rv (.iconst 0) 70 0 0, r0 (.istore_n 1) 71, ra (.goto (-58)) 72 10, r0 (.aload_n 0) 75, rf (.getfield 116) 76 5 20 0 794, rv (.bipush 6) 79 0 6, ra (.if_icmp .ne 18) 81 53, r0 (.iload_n 2) 84, ra (.ifCond .eq 14) 85 53, r0 (.aload_n 0) 88, rv (.bipush 13) 89 0 13, ri (.invokevirtual 153) 91 124 2 0 1 5 758, ra (.ifCond .ne (-80)) 94 10, rv (.iconst 0) 97 0 0, ra .ireturn 98 1, r0 (.aload_n 0) 99, rf (.getfield 116) 100 5 20 0 794, rv (.bipush 45) 103 0 45, ra (.if_icmp .ne 19) 105 66, r0 (.aload_n 0) 108, rv (.bipush 19) 109 0 19, ri (.invokevirtual 153) 111 124 2 0 1 5 758, ra (.ifCond .ne 5) 114 63, rv (.iconst 0) 117 0 0, ra .ireturn 118 1, rv (.iconst 0) 119 0 0]
def mt127_2 : List RI := [r0 (.istore_n 2) 120, ra (.goto (-107)) 121 10, r0 (.aload_n 0) 124, rf (.getfield 116) 125 5 20 0 794, rv (.bipush 40) 128 0 40, ra (.if_icmp .ne 18) 130 79, r0 (.aload_n 0) 133, rv (.iconst 0) 134 0 0, ri (.invokevirtual 153) 135 124 2 0 1 5 758, ra (.ifCond .ne 5) 138 76, rv (.iconst 0) 141 0 0, ra .ireturn 142 1, rv (.iconst 1) 143 0 1, r0 (.istore_n 2) 144, ra (.goto (-131)) 145 10, rv (.iconst 0) 148 0 0, ra .ireturn 149 1, r0 (.aload_n 0) 150, rf (.getfield 116) 151 5 20 0 794, rv (.bipush 59) 154 0 59, ra (.if_icmp .ne 21) 156 95, r0 (.aload_n 0) 159, rv (.iconst 1) 160 0 1, ri (.invokevirtual 146) 161 122 2 0 0 5 751, r0 (.aload_n 0) 164, rf (.getfield 129) 165 5 24 0 798, ra (.ifCond .ne 7) 168 93, rv (.iconst 1) 171 0 1, ra (.goto 4) 172 94, rv (.iconst 0) 175 0 0, ra .ireturn 176 1, r0 (.aload_n 0) 177]
def mt127_3 : List RI := [rf (.getfield 116) 178 5 20 0 794, rv (.bipush 41) 181 0 41, ra (.if_icmp .ne 46) 183 123, r0 (.aload_n 0) 186, rv (.iconst 1) 187 0 1, ri (.invokevirtual 146) 188 122 2 0 0 5 751, r0 (.aload_n 0) 191, rf (.getfield 129) 192 5 24 0 798, ra (.ifCond .ne 5) 195 107, rv (.iconst 0) 198 0 0, ra .ireturn 199 1, r0 (.aload_n 0) 200, r0 .dup 201, rf (.getfield 129) 202 5 24 0 798, rv (.iconst 1) 205 0 1, r0 .isub 206, rf (.putfield 129) 207 5 24 0 798, r0 (.aload_n 0) 210, r0 .dup 211, rf (.getfield 136) 212 5 25 0 799, rv (.iconst 1) 215 0 1, r0 .isub 216, rf (.putfield 136) 217 5 25 0 799, r0 (.aload_n 0) 220, rv (.bipush 7) 221 0 7, ri (.invokevirtual 146) 223 122 2 0 0 5 751, ra (.goto (-212)) 226 10, r0 (.aload_n 0) 229, ri (.invokevirtual 156) 230 126 1 0 1 5 766, r0 (.istore_n 3) 233, r0 (.iload_n 3) 234, rv (.iconst (-1)) 235 0 (-1)]
def mt127_4 : List RI := [ra (.if_icmp .eq 11) 236 133, r0 (.aload_n 0) 239, r0 (.iload_n 3) 240, ri (.invokevirtual 159) 241 125 2 0 1 5 770, ra (.ifCond .ne 5) 244 135, rv (.iconst 0) 247 0 0, ra .ireturn 248 1, rv (.iconst 1) 249 0 1, r0 (.istore_n 1) 250, r0 (.iload_n 3) 251, rv (.bipush 12) 252 0 12, ra (.if_icmp .gt 7) 254 142, rv (.iconst 1) 257 0 1, ra (.goto 4) 258 143, rv (.iconst 0) 261 0 0, r0 (.istore_n 2) 262, ra (.goto (-249)) 263 10]
def mt127 : List (List RI) := [mt127_0, mt127_1, mt127_2, mt127_3, mt127_4]
def mt128_0 : List RI := [r0 (.aload_n 0) 0, rf (.getfield 89) 1 5 9 0 783, rv (.bipush 6) 4 0 6, ra (.if_icmp .ne 6) 6 6, rv (.bipush (-4)) 9 0 (-4), r0 .ireturn 11, r0 (.aload_n 0) 12, rv (.iconst 0) 13 0 0, rf (.putfield 110) 14 5 18 0 792, r0 (.aload_n 0) 17, rv (.iconst 0) 18 0 0, rf (.putfield 126) 19 5 26 0 800, rv (.iconst 1) 22 0 1, r0 (.istore_n 1) 23, rv (.iconst 0) 24 0 0, r0 (.istore_n 2) 25, r0 (.iload_n 2) 26, rv (.iconst 3) 27 0 3, ra (.if_icmp .ge 73) 28 57, r0 (.iload_n 1) 31, ra (.ifCond .eq 69) 32 57, r0 (.aload_n 0) 35, ri (.invokevirtual 149) 36 119 1 0 0 5 731, r0 (.aload_n 0) 39, rf (.getfield 116) 40 5 20 0 794, rv (.iconst 3) 43 0 3, ra (.if_icmp .ne 15) 44 33, r0 (.aload_n 0) 47, rf (.getfield 119) 48 5 21 0 795, r0 (.iload_n 2) 51, ra (.if_icmp .ne 7) 52 33, rv (.iconst 1) 55 0 1]
def mt128_1 : List RI := [ra (.goto 4) 56 34, rv (.iconst 0) 59 0 0, r0 (.istore_n 1) 60, r0 (.aload_n 0) 61, rf (.getfield 28) 62 5 8 0 782, rv (.iconst 4) 65 0 4, r0 (.aload_n 0) 66, rf (.getfield 89) 67 5 9 0 783, r0 .imul 70, r0 (.iload_n 2) 71, r0 .iadd 72, r0 (.aload_n 0) 73, rf (.getfield 126) 74 5 26 0 800, r0 .iastore 77, r0 (.iload_n 1) 78, ra (.ifCond .eq 14) 79 53, r0 (.aload_n 0) 82, ri (.invokevirtual 162) 83 127 1 0 1 5 742, ra (.ifCond .eq 7) 86 53, rv (.iconst 1) 89 0 1, ra (.goto 4) 90 54, rv (.iconst 0) 93 0 0, r0 (.istore_n 1) 94, rv (.iinc 2 1) 95 0 1, ra (.goto (-72)) 98 16, r0 (.iload_n 1) 101, ra (.ifCond .eq 20) 102 68, r0 (.aload_n 0) 105, ri (.invokevirtual 149) 106 119 1 0 0 5 731, r0 (.aload_n 0) 109, rf (.getfield 116) 110 5 20 0 794, ra (.ifCond .ne 7) 113 66]
def mt128_2 : List RI := [rv (.iconst 1) 116 0 1, ra (.goto 4) 117 67, rv (.iconst 0) 120 0 0, r0 (.istore_n 1) 121, r0 (.aload_n 0) 122, rf (.getfield 28) 123 5 8 0 782, rv (.iconst 4) 126 0 4, r0 (.aload_n 0) 127, rf (.getfield 89) 128 5 9 0 783, r0 .imul 131, rv (.iconst 3) 132 0 3, r0 .iadd 133, r0 (.aload_n 0) 134, rf (.getfield 126) 135 5 26 0 800, r0 .iastore 138, r0 (.aload_n 0) 139, rv (.iconst 0) 140 0 0, rf (.putfield 64) 141 5 6 0 780, r0 (.iload_n 1) 144, ra (.ifCond .ne 11) 145 89, rv (.bipush (-100)) 148 0 (-100), r0 (.aload_n 0) 150, rf (.getfield 113) 151 5 19 0 793, r0 .isub 154, r0 .ireturn 155, r0 (.aload_n 0) 156, r0 .dup 157, rf (.getfield 89) 158 5 9 0 783, rv (.iconst 1) 161 0 1, r0 .iadd 162, rf (.putfield 89) 163 5 9 0 783, r0 (.aload_n 0) 166]
def mt128_3 : List RI := [rf (.getfield 89) 167 5 9 0 783, rv (.iconst 1) 170 0 1, r0 .isub 171, r0 .ireturn 172]
def mt128 : List (List RI) := [mt128_0, mt128_1, mt128_2, mt128_3]
def mt129_0 : List RI := [r0 (.iload_n 0) 0, rt (.tableswitch 101 11 17 #[43, 57, 101, 71, 82, 93, 97]) 1 40 [(11, 2), (12, 10), (13, 40), (14, 18), (15, 25), (16, 32), (17, 36)], r0 (.iload_n 1) 44, ra (.ifCond .ne 7) 45 6, r0 (.iload_n 2) 48, ra (.ifCond .eq 7) 49 8, rv (.iconst 1) 52 0 1, ra (.goto 4) 53 9, rv (.iconst 0) 56 0 0, r0 .ireturn 57, r0 (.iload_n 1) 58, ra (.ifCond .eq 11) 59 16, r0 (.iload_n 2) 62, ra (.ifCond .eq 7) 63 16, rv (.iconst 1) 66 0 1, ra (.goto 4) 67 17, rv (.iconst 0) 70 0 0, r0 .ireturn 71, r0 (.iload_n 1) 72, r0 (.iload_n 2) 73, ra (.if_icmp .ge 7) 74 23, rv (.iconst 1) 77 0 1, ra (.goto 4) 78 24, rv (.iconst 0) 81 0 0, r0 .ireturn 82, r0 (.iload_n 1) 83, r0 (.iload_n 2) 84, ra (.if_icmp .ne 7) 85 30, rv (.iconst 1) 88 0 1, ra (.goto 4) 89 31, rv (.iconst 0) 92 0 0, r0 .ireturn 93]
def mt129_1 : List RI := [r0 (.iload_n 1) 94, r0 (.iload_n 2) 95, r0 .iadd 96, r0 .ireturn 97, r0 (.iload_n 1) 98, r0 (.iload_n 2) 99, r0 .isub 100, r0 .ireturn 101, r0 (.iload_n 1) 102, r0 (.iload_n 2) 103, r0 .imul 104, r0 .ireturn 105]
def mt129 : List (List RI) := [mt129_0, mt129_1]
def mt130_0 : List RI := [rv (.iconst 0) 0 0 0, r0 (.istore_n 2) 1, r0 (.aload_n 0) 2, rf (.getfield 28) 3 5 8 0 782, rv (.iconst 4) 6 0 4, r0 (.aload_n 0) 7, rf (.getfield 92) 8 5 10 0 784, r0 .imul 11, r0 (.iload_n 1) 12, r0 .iadd 13, r0 .iaload 14, r0 (.istore_n 3) 15, r0 (.iload_n 3) 16, r0 (.aload_n 0) 17, rf (.getfield 28) 18 5 8 0 782, rv (.iconst 4) 21 0 4, r0 (.aload_n 0) 22, rf (.getfield 92) 23 5 10 0 784, r0 .imul 26, r0 (.iload_n 1) 27, r0 .iadd 28, rv (.iconst 1) 29 0 1, r0 .iadd 30, r0 .iaload 31, ra (.if_icmp .ge 165) 32 116, r0 (.aload_n 0) 35, rf (.getfield 25) 36 5 7 0 781, rv (.sipush 200) 39 0 200, r0 (.aload_n 0) 42, rf (.getfield 92) 43 5 10 0 784, r0 .imul 46, r0 (.iload_n 3) 47]
def mt130_1 : List RI := [r0 .iadd 48, r0 .iaload 49, r0 (.istore 4) 50, r0 (.iload 4) 52, rv (.ldc 152) 54 746 100000, ra (.if_icmp .ge 10) 56 41, r0 (.iload 4) 59, rv (.bipush 11) 61 0 11, ra (.if_icmp .ge 37) 63 58, r0 (.aload_n 0) 66, rf (.getfield 55) 67 5 27 0 801, r0 (.iload_n 2) 70, r0 (.iload 4) 71, rv (.bipush 11) 73 0 11, ra (.if_icmp .ge 13) 75 52, r0 (.aload_n 0) 78, rf (.getfield 58) 79 5 28 0 802, r0 (.iload 4) 82, r0 .iaload 84, ra (.goto 8) 85 55, r0 (.iload 4) 88, rv (.ldc 152) 90 746 100000, r0 .isub 92, r0 .iastore 93, rv (.iinc 2 1) 94 0 1, ra (.goto 94) 97 114, r0 (.iload 4) 100, rv (.bipush 13) 102 0 13, ra (.if_icmp .ne 30) 104 78, r0 (.aload_n 0) 107, rf (.getfield 55) 108 5 27 0 801, r0 (.iload_n 2) 111]
def mt130_2 : List RI := [rv (.iconst 1) 112 0 1, r0 .isub 113, r0 (.aload_n 0) 114, rf (.getfield 55) 115 5 27 0 801, r0 (.iload_n 2) 118, rv (.iconst 1) 119 0 1, r0 .isub 120, r0 .iaload 121, ra (.ifCond .ne 7) 122 75, rv (.iconst 1) 125 0 1, ra (.goto 4) 126 76, rv (.iconst 0) 129 0 0, r0 .iastore 130, ra (.goto 60) 131 114, r0 (.iload 4) 134, rv (.bipush 19) 136 0 19, ra (.if_icmp .ne 23) 138 95, r0 (.aload_n 0) 141, rf (.getfield 55) 142 5 27 0 801, r0 (.iload_n 2) 145, rv (.iconst 1) 146 0 1, r0 .isub 147, r0 (.aload_n 0) 148, rf (.getfield 55) 149 5 27 0 801, r0 (.iload_n 2) 152, rv (.iconst 1) 153 0 1, r0 .isub 154, r0 .iaload 155, r0 .ineg 156, r0 .iastore 157, ra (.goto 33) 158 114, rv (.iinc 2 (-1)) 161 0 (-1)]
def mt130_3 : List RI := [r0 (.aload_n 0) 164, rf (.getfield 55) 165 5 27 0 801, r0 (.iload_n 2) 168, rv (.iconst 1) 169 0 1, r0 .isub 170, r0 (.iload 4) 171, r0 (.aload_n 0) 173, rf (.getfield 55) 174 5 27 0 801, r0 (.iload_n 2) 177, rv (.iconst 1) 178 0 1, r0 .isub 179, r0 .iaload 180, r0 (.aload_n 0) 181, rf (.getfield 55) 182 5 27 0 801, r0 (.iload_n 2) 185, r0 .iaload 186, ri (.invokestatic 166) 187 129 3 1 1 5 922, r0 .iastore 190, rv (.iinc 3 1) 191 0 1, ra (.goto (-178)) 194 12, r0 (.aload_n 0) 197, rf (.getfield 55) 198 5 27 0 801, rv (.iconst 0) 201 0 0, r0 .iaload 202, r0 .ireturn 203]
def mt130 : List (List RI) := [mt130_0, mt130_1, mt130_2, mt130_3]
def mt131_0 : List RI := [r0 (.iload_n 1) 0, rv (.iconst 0) 1 0 0, r0 (.aload_n 0) 2, rf (.getfield 89) 3 5 9 0 783, rv (.iconst 1) 6 0 1, r0 .isub 7, ri (.invokestatic 75) 8 104 3 1 1 5 735, ra (.ifCond .ne 6) 11 10, rv (.bipush (-2)) 14 0 (-2), r0 .ireturn 16, r0 (.aload_n 0) 17, rf (.getfield 92) 18 5 10 0 784, r0 (.istore_n 2) 21, r0 (.aload_n 0) 22, r0 (.iload_n 1) 23, rf (.putfield 92) 24 5 10 0 784, r0 (.iload_n 2) 27, r0 .ireturn 28]
def mt131 : List (List RI) := [mt131_0]
def mt132_0 : List RI := [r0 (.aload_n 0) 0, rf (.getfield 58) 1 5 28 0 802, rv (.iconst 0) 4 0 0, r0 (.aload_n 0) 5, r0 (.iload_n 2) 6, ri (.invokevirtual 79) 7 108 2 0 1 5 895, ra (.ifCond .eq 14) 10 14, r0 (.aload_n 0) 13, rf (.getfield 16) 14 5 3 0 777, rv (.iconst 3) 17 0 3, r0 (.iload_n 2) 18, r0 .imul 19, r0 .iaload 20, ra (.goto 4) 21 15, rv (.iconst 0) 24 0 0, r0 .iastore 25, r0 (.aload_n 0) 26, rf (.getfield 58) 27 5 28 0 802, rv (.iconst 1) 30 0 1, r0 (.aload_n 0) 31, rf (.getfield 16) 32 5 3 0 777, rv (.iconst 3) 35 0 3, r0 (.iload_n 2) 36, r0 .imul 37, rv (.iconst 2) 38 0 2, r0 .iadd 39, r0 .iaload 40, r0 .iastore 41, r0 (.aload_n 0) 42, rf (.getfield 58) 43 5 28 0 802, rv (.iconst 2) 46 0 2, r0 (.aload_n 0) 47]
def mt132_1 : List RI := [rf (.getfield 19) 48 5 4 0 778, rv (.iconst 3) 51 0 3, r0 .iaload 52, r0 .iastore 53, r0 (.aload_n 0) 54, rf (.getfield 58) 55 5 28 0 802, rv (.iconst 3) 58 0 3, r0 (.aload_n 0) 59, ri (.invokevirtual 101) 60 110 1 0 1 5 911, ri (.invokestatic 170) 63 106 1 1 1 5 915, r0 .iastore 66, r0 (.aload_n 0) 67, rf (.getfield 58) 68 5 28 0 802, rv (.iconst 4) 71 0 4, r0 (.aload_n 0) 72, rf (.getfield 19) 73 5 4 0 778, rv (.iconst 2) 76 0 2, r0 .iaload 77, r0 .iastore 78, r0 (.aload_n 0) 79, rf (.getfield 58) 80 5 28 0 802, rv (.iconst 5) 83 0 5, r0 (.aload_n 0) 84, rf (.getfield 13) 85 5 2 0 776, r0 (.iload_n 2) 88, r0 .iaload 89, r0 .iastore 90, r0 (.aload_n 0) 91, r0 (.iload_n 1) 92, ri (.invokevirtual 173) 93 130 2 0 1 5 918, r0 (.iload_n 1) 96, ra (.ifCond .ne 7) 97 66]
def mt132_2 : List RI := [rv (.iconst 0) 100 0 0, ra (.goto 5) 101 67, rv (.bipush (-99)) 104 0 (-99), rv (.bipush 99) 106 0 99, ri (.invokestatic 176) 108 105 3 1 1 5 925, r0 .ireturn 111]
def mt132 : List (List RI) := [mt132_0, mt132_1, mt132_2]
def mt133_0 : List RI := [r0 (.iload_n 1) 0, rv (.iconst 0) 1 0 0, rv (.iconst 2) 2 0 2, ri (.invokestatic 75) 3 104 3 1 1 5 735, ra (.ifCond .eq 20) 6 14, r0 (.aload_n 0) 9, r0 (.iload_n 2) 10, ri (.invokevirtual 179) 11 107 2 0 1 5 960, ra (.ifCond .eq 12) 14 14, r0 (.aload_n 0) 17, r0 (.iload_n 1) 18, r0 (.iload_n 2) 19, ri (.invokevirtual 182) 20 132 3 0 1 5 907, ra (.goto 6) 23 15, rv (.sipush (-1000)) 26 0 (-1000), r0 .ireturn 29]
def mt133 : List (List RI) := [mt133_0]
def mt134_0 : List RI := [r0 (.iload_n 1) 0, rv (.iconst 0) 1 0 0, rv (.bipush 59) 2 0 59, ri (.invokestatic 75) 4 104 3 1 1 5 735, ra (.ifCond .eq 13) 7 10, r0 (.iload_n 2) 10, rv (.iconst 0) 11 0 0, rv (.bipush 63) 12 0 63, ri (.invokestatic 75) 14 104 3 1 1 5 735, ra (.ifCond .ne 6) 17 12, rv (.bipush (-2)) 20 0 (-2), r0 .ireturn 22, r0 (.aload_n 0) 23, rf (.getfield 72) 24 5 0 0 774, rv (.bipush 6) 27 0 6, ra (.if_icmp .ne 6) 29 18, rv (.bipush (-4)) 32 0 (-4), r0 .ireturn 34, r0 (.aload_n 0) 35, rf (.getfield 7) 36 5 1 0 775, r0 (.aload_n 0) 39, rf (.getfield 72) 40 5 0 0 774, r0 (.iload_n 1) 43, rv (.bipush 10) 44 0 10, r0 .idiv 46, r0 .iastore 47, r0 (.aload_n 0) 48, rf (.getfield 13) 49 5 2 0 776, r0 (.aload_n 0) 52, rf (.getfield 72) 53 5 0 0 774, r0 (.iload_n 1) 56, rv (.bipush 10) 57 0 10]
def mt134_1 : List RI := [r0 .irem 59, r0 .iastore 60, r0 (.aload_n 0) 61, rf (.getfield 16) 62 5 3 0 777, rv (.iconst 3) 65 0 3, r0 (.aload_n 0) 66, rf (.getfield 72) 67 5 0 0 774, r0 .imul 70, r0 (.iload_n 2) 71, r0 .iastore 72, r0 (.aload_n 0) 73, rf (.getfield 16) 74 5 3 0 777, rv (.iconst 3) 77 0 3, r0 (.aload_n 0) 78, rf (.getfield 72) 79 5 0 0 774, r0 .imul 82, rv (.iconst 1) 83 0 1, r0 .iadd 84, rv (.iconst 0) 85 0 0, r0 .iastore 86, r0 (.aload_n 0) 87, rf (.getfield 16) 88 5 3 0 777, rv (.iconst 3) 91 0 3, r0 (.aload_n 0) 92, rf (.getfield 72) 93 5 0 0 774, r0 .imul 96, rv (.iconst 2) 97 0 2, r0 .iadd 98, rv (.iconst 0) 99 0 0, r0 .iastore 100, r0 (.aload_n 0) 101, r0 .dup 102]
def mt134_2 : List RI := [rf (.getfield 72) 103 5 0 0 774, rv (.iconst 1) 106 0 1, r0 .iadd 107, rf (.putfield 72) 108 5 0 0 774, r0 (.aload_n 0) 111, rf (.getfield 72) 112 5 0 0 774, rv (.iconst 1) 115 0 1, r0 .isub 116, r0 .ireturn 117]
def mt134 : List (List RI) := [mt134_0, mt134_1, mt134_2]
def mt135_0 : List RI := [r0 (.aload_n 0) 0, r0 (.iload_n 1) 1, ri (.invokevirtual 179) 2 107 2 0 1 5 960, ra (.ifCond .ne 6) 5 6, rv (.bipush (-5)) 8 0 (-5), r0 .ireturn 10, r0 (.iload_n 2) 11, ra (.ifCond .ne 8) 12 10, rv (.bipush 63) 15 0 63, ra (.goto 14) 17 16, r0 (.iload_n 2) 20, rv (.iconst 1) 21 0 1, ra (.if_icmp .ne 7) 22 15, rv (.iconst 1) 25 0 1, ra (.goto 5) 26 16, rv (.bipush 99) 29 0 99, r0 (.istore 4) 31, r0 (.iload_n 2) 33, rv (.iconst 0) 34 0 0, rv (.iconst 2) 35 0 2, ri (.invokestatic 75) 36 104 3 1 1 5 735, ra (.ifCond .eq 25) 39 33, r0 (.iload_n 3) 42, r0 (.iload_n 2) 43, ra (.ifCond .ne 7) 44 27, rv (.iconst (-1)) 47 0 (-1), ra (.goto 4) 48 28, rv (.iconst 0) 51 0 0, r0 (.iload 4) 52, ri (.invokestatic 75) 54 104 3 1 1 5 735, ra (.ifCond .eq 7) 57 33, rv (.iconst 1) 60 0 1]
def mt135_1 : List RI := [ra (.goto 4) 61 34, rv (.iconst 0) 64 0 0, r0 (.istore 5) 65, r0 (.iload 5) 67, ra (.ifCond .eq 17) 69 45, r0 (.iload_n 2) 72, ra (.ifCond .ne 16) 73 47, r0 (.aload_n 0) 76, rf (.getfield 19) 77 5 4 0 778, rv (.iconst 1) 80 0 1, r0 .iaload 81, r0 (.iload_n 1) 82, ra (.if_icmp .ne 6) 83 47, rv (.bipush (-7)) 86 0 (-7), r0 .ireturn 88, r0 (.aload_n 0) 89, rf (.getfield 16) 90 5 3 0 777, rv (.iconst 3) 93 0 3, r0 (.iload_n 1) 94, r0 .imul 95, r0 (.iload_n 2) 96, r0 .iadd 97, r0 .iaload 98, r0 (.istore 6) 99, r0 (.aload_n 0) 101, rf (.getfield 16) 102 5 3 0 777, rv (.iconst 3) 105 0 3, r0 (.iload_n 1) 106, r0 .imul 107, r0 (.iload_n 2) 108, r0 .iadd 109, r0 (.iload_n 3) 110]
def mt135_2 : List RI := [r0 .iastore 111, r0 (.iload 6) 112, r0 .ireturn 114]
def mt135 : List (List RI) := [mt135_0, mt135_1, mt135_2]
def mt136_0 : List RI := [r0 (.aload_n 0) 0, rf (.getfield 7) 1 5 1 0 775, r0 (.iload_n 1) 4, r0 .iaload 5, rv (.iconst 5) 6 0 5, ra (.if_icmp .ne 5) 7 8, rv (.iconst 0) 10 0 0, r0 .ireturn 11, r0 (.aload_n 0) 12, rv (.iconst 0) 13 0 0, r0 (.iload_n 1) 14, ri (.invokevirtual 182) 15 132 3 0 1 5 907, r0 (.istore_n 2) 18, r0 (.aload_n 0) 19, rf (.getfield 7) 20 5 1 0 775, r0 (.iload_n 1) 23, r0 .iaload 24, rv (.iconst 1) 25 0 1, ra (.if_icmp .eq 13) 26 25, r0 (.aload_n 0) 29, rf (.getfield 7) 30 5 1 0 775, r0 (.iload_n 1) 33, r0 .iaload 34, rv (.iconst 3) 35 0 3, ra (.if_icmp .ne 9) 36 29, r0 (.iload_n 2) 39, rv (.iconst 2) 40 0 2, r0 .idiv 41, ra (.goto 24) 42 42, r0 (.aload_n 0) 45, rf (.getfield 7) 46 5 1 0 775, r0 (.iload_n 1) 49]
def mt136_1 : List RI := [r0 .iaload 50, ra (.ifCond .ne 7) 51 36, r0 (.iload_n 2) 54, ra (.goto 11) 55 42, r0 (.iload_n 2) 58, r0 (.aload_n 0) 59, rf (.getfield 13) 60 5 2 0 776, r0 (.iload_n 1) 63, r0 .iaload 64, r0 .iadd 65, r0 .ireturn 66]
def mt136 : List (List RI) := [mt136_0, mt136_1]
def mt137_0 : List RI := [r0 (.aload_n 0) 0, rf (.getfield 7) 1 5 1 0 775, r0 (.iload_n 1) 4, r0 .iaload 5, rv (.iconst 5) 6 0 5, ra (.if_icmp .ne 13) 7 13, rv (.bipush 10) 10 0 10, r0 (.aload_n 0) 12, rf (.getfield 13) 13 5 2 0 776, r0 (.iload_n 1) 16, r0 .iaload 17, r0 .imul 18, r0 .ireturn 19, r0 (.aload_n 0) 20, rv (.iconst 1) 21 0 1, r0 (.iload_n 1) 22, ri (.invokevirtual 182) 23 132 3 0 1 5 907, r0 (.istore_n 2) 26, r0 (.aload_n 0) 27, rf (.getfield 7) 28 5 1 0 775, r0 (.iload_n 1) 31, r0 .iaload 32, rt (.tableswitch 68 1 4 #[31, 68, 40, 65]) 33 49 [(1, 23), (2, 49), (3, 30), (4, 46)], r0 (.iload_n 2) 64, r0 (.aload_n 0) 65, rf (.getfield 13) 66 5 2 0 776, r0 (.iload_n 1) 69, r0 .iaload 70, r0 .isub 71, r0 .ireturn 72, r0 (.aload_n 0) 73, rf (.getfield 19) 74 5 4 0 778]
def mt137_1 : List RI := [rv (.iconst 3) 77 0 3, r0 .iaload 78, rv (.iconst 4) 79 0 4, r0 .irem 80, ra (.ifCond .ne 8) 81 39, rv (.bipush 99) 84 0 99, ra (.goto 11) 86 45, r0 (.iload_n 2) 89, r0 (.aload_n 0) 90, rf (.getfield 13) 91 5 2 0 776, r0 (.iload_n 1) 94, r0 .iaload 95, r0 .isub 96, r0 .ireturn 97, r0 (.iload_n 2) 98, r0 .ineg 99, r0 .ireturn 100, r0 (.iload_n 2) 101, r0 .ireturn 102]
def mt137 : List (List RI) := [mt137_0, mt137_1]
def mt138_0 : List RI := [r0 (.aload_n 0) 0, rf (.getfield 7) 1 5 1 0 775, r0 (.iload_n 1) 4, r0 .iaload 5, rv (.iconst 4) 6 0 4, ra (.if_icmp .ne 31) 7 24, r0 (.aload_n 0) 10, rf (.getfield 19) 11 5 4 0 778, rv (.iconst 3) 14 0 3, r0 .iaload 15, rv (.iconst 2) 16 0 2, r0 .irem 17, ra (.ifCond .ne 12) 18 18, r0 (.aload_n 0) 21, rf (.getfield 13) 22 5 2 0 776, r0 (.iload_n 1) 25, r0 .iaload 26, ra (.goto 10) 27 23, r0 (.aload_n 0) 30, rf (.getfield 13) 31 5 2 0 776, r0 (.iload_n 1) 34, r0 .iaload 35, r0 .ineg 36, r0 .ireturn 37, r0 (.aload_n 0) 38, rv (.iconst 2) 39 0 2, r0 (.iload_n 1) 40, ri (.invokevirtual 182) 41 132 3 0 1 5 907, r0 (.istore_n 2) 44, r0 (.aload_n 0) 45, rf (.getfield 7) 46 5 1 0 775, r0 (.iload_n 1) 49]
def mt138_1 : List RI := [r0 .iaload 50, rt (.lookupswitch 57 #[(2, 25), (3, 41)]) 51 54 [(2, 34), (3, 44)], r0 (.aload_n 0) 76, r0 (.iload_n 1) 77, ri (.invokevirtual 185) 78 140 2 0 1 5 887, ra (.ifCond .eq 9) 81 42, r0 (.iload_n 2) 84, rv (.iconst 1) 85 0 1, r0 .iadd 86, ra (.goto 4) 87 43, r0 (.iload_n 2) 90, r0 .ireturn 91, r0 (.aload_n 0) 92, r0 (.iload_n 1) 93, ri (.invokevirtual 185) 94 140 2 0 1 5 887, ra (.ifCond .eq 7) 97 50, rv (.iconst 0) 100 0 0, ra (.goto 6) 101 53, rv (.iconst (-1)) 104 0 (-1), r0 (.iload_n 2) 105, r0 .isub 106, r0 .ireturn 107, r0 (.iload_n 2) 108, r0 .ireturn 109]
def mt138 : List (List RI) := [mt138_0, mt138_1]
def mt139_0 : List RI := [rv (.iconst (-1)) 0 0 (-1), r0 (.istore_n 2) 1, rv (.iconst 0) 2 0 0, r0 (.istore_n 3) 3, r0 (.iload_n 3) 4, r0 (.aload_n 0) 5, rf (.getfield 72) 6 5 0 0 774, ra (.if_icmp .ge 82) 9 52, r0 (.aload_n 0) 12, r0 (.iload_n 1) 13, ri (.invokevirtual 79) 14 108 2 0 1 5 895, ra (.ifCond .eq 74) 17 52, r0 (.iload_n 3) 20, r0 (.iload_n 1) 21, ra (.if_icmp .eq 63) 22 50, r0 (.aload_n 0) 25, r0 (.iload_n 3) 26, ri (.invokevirtual 83) 27 109 2 0 1 5 891, ra (.ifCond .eq 55) 30 50, r0 (.aload_n 0) 33, rf (.getfield 16) 34 5 3 0 777, rv (.iconst 3) 37 0 3, r0 (.iload_n 3) 38, r0 .imul 39, r0 .iaload 40, r0 (.aload_n 0) 41, rf (.getfield 16) 42 5 3 0 777, rv (.iconst 3) 45 0 3, r0 (.iload_n 1) 46, r0 .imul 47, r0 .iaload 48, r0 .isub 49]
def mt139_1 : List RI := [r0 (.istore 4) 50, r0 (.iload 4) 52, ra (.ifCond .ge 9) 54 38, r0 (.iload 4) 57, r0 .ineg 59, ra (.goto 5) 60 39, r0 (.iload 4) 63, r0 (.istore 4) 65, r0 (.iload_n 2) 67, rv (.iconst (-1)) 68 0 (-1), ra (.if_icmp .eq 9) 69 46, r0 (.iload 4) 72, r0 (.iload_n 2) 74, ra (.if_icmp .ge 8) 75 48, r0 (.iload 4) 78, ra (.goto 4) 80 49, r0 (.iload_n 2) 83, r0 (.istore_n 2) 84, rv (.iinc 3 1) 85 0 1, ra (.goto (-84)) 88 4, r0 (.iload_n 2) 91, r0 .ireturn 92]
def mt139 : List (List RI) := [mt139_0, mt139_1]
def mt140_0 : List RI := [r0 (.aload_n 0) 0, r0 (.iload_n 1) 1, ri (.invokevirtual 83) 2 109 2 0 1 5 891, ra (.ifCond .ne 5) 5 6, rv (.iconst 0) 8 0 0, ra .ireturn 9 1, r0 (.aload_n 0) 10, r0 (.iload_n 1) 11, ri (.invokevirtual 188) 12 139 2 0 1 5 899, r0 (.istore_n 2) 15, r0 (.iload_n 2) 16, rv (.iconst (-1)) 17 0 (-1), ra (.if_icmp .eq 12) 18 18, r0 (.iload_n 2) 21, r0 (.aload_n 0) 22, r0 (.iload_n 1) 23, ri (.invokevirtual 191) 24 136 2 0 1 5 903, ra (.if_icmp .lt 7) 27 20, rv (.iconst 1) 30 0 1, ra (.goto 4) 31 21, rv (.iconst 0) 34 0 0, ra .ireturn 35 1]
def mt140 : List (List RI) := [mt140_0]
def mt141_0 : List RI := [rv (.iconst 0) 0 0 0, r0 (.istore_n 1) 1, rv (.iconst 0) 2 0 0, r0 (.istore_n 2) 3, r0 (.iload_n 2) 4, r0 (.aload_n 0) 5, rf (.getfield 72) 6 5 0 0 774, ra (.if_icmp .ge 27) 9 22, r0 (.iload_n 1) 12, r0 (.aload_n 0) 13, r0 (.iload_n 2) 14, ri (.invokevirtual 185) 15 140 2 0 1 5 887, ra (.ifCond .eq 9) 18 17, rv (.iconst 1) 21 0 1, r0 (.iload_n 2) 22, r0 .ishl 23, ra (.goto 4) 24 18, rv (.iconst 0) 27 0 0, r0 .ior 28, r0 (.istore_n 1) 29, rv (.iinc 2 1) 30 0 1, ra (.goto (-29)) 33 4, r0 (.iload_n 1) 36, r0 .ireturn 37]
def mt141 : List (List RI) := [mt141_0]
def mt142_0 : List RI := [rv (.iconst (-1)) 0 0 (-1), r0 (.istore_n 1) 1, rv (.iconst 0) 2 0 0, r0 (.istore_n 2) 3, rv (.iconst 0) 4 0 0, r0 (.istore_n 3) 5, r0 (.iload_n 3) 6, r0 (.aload_n 0) 7, rf (.getfield 72) 8 5 0 0 774, ra (.if_icmp .ge 65) 11 42, r0 (.aload_n 0) 14, r0 (.iload_n 3) 15, ri (.invokevirtual 185) 16 140 2 0 1 5 887, ra (.ifCond .eq 51) 19 40, r0 (.aload_n 0) 22, r0 (.iload_n 3) 23, ri (.invokevirtual 194) 24 137 2 0 1 5 928, r0 (.istore 4) 27, r0 (.iload_n 1) 29, rv (.iconst (-1)) 30 0 (-1), ra (.if_icmp .eq 9) 31 24, r0 (.iload 4) 34, r0 (.iload_n 2) 36, ra (.if_icmp .le 7) 37 26, rv (.iconst 1) 40 0 1, ra (.goto 4) 41 27, rv (.iconst 0) 44 0 0, r0 (.istore 5) 45, r0 (.iload 5) 47, ra (.ifCond .eq 7) 49 32, r0 (.iload_n 3) 52, ra (.goto 4) 53 33]
def mt142_1 : List RI := [r0 (.iload_n 1) 56, r0 (.istore_n 1) 57, r0 (.iload 5) 58, ra (.ifCond .eq 8) 60 38, r0 (.iload 4) 63, ra (.goto 4) 65 39, r0 (.iload_n 2) 68, r0 (.istore_n 2) 69, rv (.iinc 3 1) 70 0 1, ra (.goto (-67)) 73 6, r0 (.iload_n 1) 76, r0 .ireturn 77]
def mt142 : List (List RI) := [mt142_0, mt142_1]
def mt143_0 : List RI := [r0 (.aload_n 0) 0, r0 (.iload_n 1) 1, ri (.invokevirtual 179) 2 107 2 0 1 5 960, ra (.ifCond .ne 6) 5 6, rv (.bipush (-5)) 8 0 (-5), r0 .ireturn 10, r0 (.iload_n 2) 11, rt (.tableswitch 127 0 9 #[56, 56, 56, 67, 74, 81, 87, 97, 107, 121]) 12 55 [(0, 8), (1, 8), (2, 8), (3, 17), (4, 22), (5, 27), (6, 31), (7, 37), (8, 43), (9, 51)], r0 (.aload_n 0) 68, rf (.getfield 16) 69 5 3 0 777, rv (.iconst 3) 72 0 3, r0 (.iload_n 1) 73, r0 .imul 74, r0 (.iload_n 2) 75, r0 .iadd 76, r0 .iaload 77, r0 .ireturn 78, r0 (.aload_n 0) 79, rf (.getfield 7) 80 5 1 0 775, r0 (.iload_n 1) 83, r0 .iaload 84, r0 .ireturn 85, r0 (.aload_n 0) 86, rf (.getfield 13) 87 5 2 0 776, r0 (.iload_n 1) 90, r0 .iaload 91, r0 .ireturn 92, r0 (.aload_n 0) 93, r0 (.iload_n 1) 94, ri (.invokevirtual 191) 95 136 2 0 1 5 903, r0 .ireturn 98, rv (.sipush 1000) 99 0 1000]
def mt143_1 : List RI := [r0 (.aload_n 0) 102, r0 (.iload_n 1) 103, ri (.invokevirtual 194) 104 137 2 0 1 5 928, r0 .iadd 107, r0 .ireturn 108, rv (.sipush 1000) 109 0 1000, r0 (.aload_n 0) 112, r0 (.iload_n 1) 113, ri (.invokevirtual 197) 114 138 2 0 1 5 976, r0 .iadd 117, r0 .ireturn 118, r0 (.aload_n 0) 119, r0 (.iload_n 1) 120, ri (.invokevirtual 185) 121 140 2 0 1 5 887, ra (.ifCond .eq 7) 124 49, rv (.iconst 1) 127 0 1, ra (.goto 4) 128 50, rv (.iconst 0) 131 0 0, r0 .ireturn 132, r0 (.aload_n 0) 133, r0 (.iload_n 1) 134, ri (.invokevirtual 188) 135 139 2 0 1 5 899, r0 .ireturn 138, rv (.bipush (-7)) 139 0 (-7), r0 .ireturn 141]
def mt143 : List (List RI) := [mt143_0, mt143_1]
def mt144_0 : List RI := [rv (.iconst 2) 0 0 2, r0 (.aload_n 0) 1, rf (.getfield 16) 2 5 3 0 777, rv (.iconst 3) 5 0 3, r0 (.iload_n 1) 6, r0 .imul 7, r0 .iaload 8, r0 .imul 9, rv (.bipush 63) 10 0 63, r0 .isub 12, r0 (.istore_n 2) 13, r0 (.aload_n 0) 14, rf (.getfield 19) 15 5 4 0 778, rv (.iconst 0) 18 0 0, rv (.iconst 1) 19 0 1, r0 (.iload_n 2) 20, ra (.ifCond .ge 8) 21 20, r0 (.iload_n 2) 24, r0 .ineg 25, ra (.goto 4) 26 21, r0 (.iload_n 2) 29, rv (.bipush 20) 30 0 20, r0 .idiv 32, r0 .iadd 33, r0 .iastore 34, r0 (.aload_n 0) 35, rf (.getfield 19) 36 5 4 0 778, rv (.iconst 1) 39 0 1, r0 (.iload_n 1) 40, r0 .iastore 41, r0 (.aload_n 0) 42, rf (.getfield 19) 43 5 4 0 778]
def mt144_1 : List RI := [rv (.iconst 2) 46 0 2, r0 (.aload_n 0) 47, rf (.getfield 19) 48 5 4 0 778, rv (.iconst 2) 51 0 2, r0 .iaload 52, rv (.iconst 1) 53 0 1, r0 .iadd 54, rv (.iconst 0) 55 0 0, rv (.sipush 9999) 56 0 9999, ri (.invokestatic 176) 59 105 3 1 1 5 925, r0 .iastore 62, r0 (.aload_n 0) 63, rf (.getfield 16) 64 5 3 0 777, rv (.iconst 3) 67 0 3, r0 (.iload_n 1) 68, r0 .imul 69, rv (.iconst (-1)) 70 0 (-1), r0 .iastore 71, r0 .return_ 72]
def mt144 : List (List RI) := [mt144_0, mt144_1]
def mt145_0 : List RI := [rv (.iconst (-1)) 0 0 (-1), r0 (.istore_n 1) 1, r0 (.aload_n 0) 2, rf (.getfield 19) 3 5 4 0 778, rv (.iconst 0) 6 0 0, r0 .iaload 7, ra (.ifCond .le 41) 8 31, r0 (.aload_n 0) 11, rf (.getfield 19) 12 5 4 0 778, rv (.iconst 0) 15 0 0, r0 .dup2 16, r0 .iaload 17, rv (.iconst 1) 18 0 1, r0 .isub 19, r0 .iastore 20, r0 (.aload_n 0) 21, rf (.getfield 19) 22 5 4 0 778, rv (.iconst 1) 25 0 1, r0 (.aload_n 0) 26, rf (.getfield 19) 27 5 4 0 778, rv (.iconst 0) 30 0 0, r0 .iaload 31, ra (.ifCond .ne 7) 32 25, rv (.iconst (-1)) 35 0 (-1), ra (.goto 9) 36 29, r0 (.aload_n 0) 39, rf (.getfield 19) 40 5 4 0 778, rv (.iconst 1) 43 0 1, r0 .iaload 44, r0 .iastore 45, ra (.goto 18) 46 40, r0 (.aload_n 0) 49]
def mt145_1 : List RI := [ri (.invokevirtual 95) 50 142 1 0 1 5 883, r0 (.istore_n 1) 53, r0 (.iload_n 1) 54, rv (.iconst (-1)) 55 0 (-1), ra (.if_icmp .eq 8) 56 40, r0 (.aload_n 0) 59, r0 (.iload_n 1) 60, ri (.invokevirtual 200) 61 144 2 0 0 5 988, rv (.iconst 0) 64 0 0, r0 (.istore_n 2) 65, r0 (.iload_n 2) 66, r0 (.aload_n 0) 67, rf (.getfield 72) 68 5 0 0 774, ra (.if_icmp .ge 73) 71 92, r0 (.aload_n 0) 74, r0 (.iload_n 2) 75, ri (.invokevirtual 79) 76 108 2 0 1 5 895, ra (.ifCond .eq 59) 79 90, r0 (.aload_n 0) 82, rf (.getfield 16) 83 5 3 0 777, rv (.iconst 3) 86 0 3, r0 (.iload_n 2) 87, r0 .imul 88, r0 (.aload_n 0) 89, rf (.getfield 16) 90 5 3 0 777, rv (.iconst 3) 93 0 3, r0 (.iload_n 2) 94, r0 .imul 95, r0 .iaload 96, r0 (.aload_n 0) 97, r0 (.iload_n 2) 98, ri (.invokevirtual 197) 99 138 2 0 1 5 976]
def mt145_2 : List RI := [r0 .iadd 102, rv (.iconst 0) 103 0 0, rv (.bipush 63) 104 0 63, ri (.invokestatic 176) 106 105 3 1 1 5 925, r0 .iastore 109, r0 (.aload_n 0) 110, rf (.getfield 16) 111 5 3 0 777, rv (.iconst 3) 114 0 3, r0 (.iload_n 2) 115, r0 .imul 116, rv (.iconst 2) 117 0 2, r0 .iadd 118, r0 (.aload_n 0) 119, rf (.getfield 16) 120 5 3 0 777, rv (.iconst 3) 123 0 3, r0 (.iload_n 2) 124, r0 .imul 125, rv (.iconst 2) 126 0 2, r0 .iadd 127, r0 .iaload 128, rv (.iconst 1) 129 0 1, r0 .iadd 130, rv (.iconst 0) 131 0 0, rv (.bipush 99) 132 0 99, ri (.invokestatic 176) 134 105 3 1 1 5 925, r0 .iastore 137, rv (.iinc 2 1) 138 0 1, ra (.goto (-75)) 141 42, r0 (.aload_n 0) 144, rf (.getfield 19) 145 5 4 0 778, rv (.iconst 3) 148 0 3, r0 .dup2 149]
def mt145_3 : List RI := [r0 .iaload 150, rv (.iconst 1) 151 0 1, r0 .iadd 152, r0 .iastore 153, r0 (.iload_n 1) 154, r0 .ireturn 155]
def mt145 : List (List RI) := [mt145_0, mt145_1, mt145_2, mt145_3]
def mt146_0 : List RI := [r0 (.aload_n 0) 0, rf (.getfield 19) 1 5 4 0 778, rv (.iconst 3) 4 0 3, r0 .iaload 5, rv (.sipush 9999) 6 0 9999, ra (.if_icmp .ne 8) 9 8, rv (.bipush (-3)) 12 0 (-3), ra (.goto 7) 14 10, r0 (.aload_n 0) 17, ri (.invokevirtual 203) 18 145 1 0 1 5 984, r0 .ireturn 21]
def mt146 : List (List RI) := [mt146_0]
def mt147_0 : List RI := [r0 (.aload_n 0) 0, r0 (.iload_n 1) 1, ri (.invokevirtual 179) 2 107 2 0 1 5 960, ra (.ifCond .ne 6) 5 6, rv (.bipush (-5)) 8 0 (-5), r0 .ireturn 10, r0 (.iload_n 2) 11, rv (.bipush (-63)) 12 0 (-63), rv (.bipush 63) 14 0 63, ri (.invokestatic 75) 16 104 3 1 1 5 735, ra (.ifCond .ne 6) 19 13, rv (.bipush (-7)) 22 0 (-7), r0 .ireturn 24, r0 (.aload_n 0) 25, r0 (.iload_n 1) 26, ri (.invokevirtual 79) 27 108 2 0 1 5 895, ra (.ifCond .ne 6) 30 19, rv (.bipush (-3)) 33 0 (-3), r0 .ireturn 35, r0 (.aload_n 0) 36, rf (.getfield 16) 37 5 3 0 777, rv (.iconst 3) 40 0 3, r0 (.iload_n 1) 41, r0 .imul 42, r0 (.aload_n 0) 43, rf (.getfield 16) 44 5 3 0 777, rv (.iconst 3) 47 0 3, r0 (.iload_n 1) 48, r0 .imul 49, r0 .iaload 50, r0 (.iload_n 2) 51, r0 .iadd 52]
def mt147_1 : List RI := [rv (.iconst 0) 53 0 0, rv (.bipush 63) 54 0 63, ri (.invokestatic 176) 56 105 3 1 1 5 925, r0 .iastore 59, r0 (.aload_n 0) 60, rf (.getfield 16) 61 5 3 0 777, rv (.iconst 3) 64 0 3, r0 (.iload_n 1) 65, r0 .imul 66, r0 .iaload 67, r0 .ireturn 68]
def mt147 : List (List RI) := [mt147_0, mt147_1]
def mt148_0 : List RI := [rv (.iconst 0) 0 0 0, r0 (.istore_n 1) 1, r0 (.iload_n 1) 2, rv (.bipush 18) 3 0 18, ra (.if_icmp .ge 21) 5 15, r0 (.aload_n 0) 8, rf (.getfield 61) 9 5 29 0 803, r0 (.iload_n 1) 12, r0 (.aload_n 0) 13, rf (.getfield 16) 14 5 3 0 777, r0 (.iload_n 1) 17, r0 .iaload 18, r0 .iastore 19, rv (.iinc 1 1) 20 0 1, ra (.goto (-21)) 23 2, rv (.iconst 0) 26 0 0, r0 (.istore_n 1) 27, r0 (.iload_n 1) 28, rv (.iconst 4) 29 0 4, ra (.if_icmp .ge 24) 30 32, r0 (.aload_n 0) 33, rf (.getfield 61) 34 5 29 0 803, rv (.bipush 18) 37 0 18, r0 (.iload_n 1) 39, r0 .iadd 40, r0 (.aload_n 0) 41, rf (.getfield 19) 42 5 4 0 778, r0 (.iload_n 1) 45, r0 .iaload 46, r0 .iastore 47, rv (.iinc 1 1) 48 0 1, ra (.goto (-23)) 51 17]
def mt148_1 : List RI := [r0 .return_ 54]
def mt148 : List (List RI) := [mt148_0, mt148_1]
def mt149_0 : List RI := [rv (.iconst 0) 0 0 0, r0 (.istore_n 1) 1, r0 (.iload_n 1) 2, rv (.bipush 18) 3 0 18, ra (.if_icmp .ge 21) 5 15, r0 (.aload_n 0) 8, rf (.getfield 16) 9 5 3 0 777, r0 (.iload_n 1) 12, r0 (.aload_n 0) 13, rf (.getfield 61) 14 5 29 0 803, r0 (.iload_n 1) 17, r0 .iaload 18, r0 .iastore 19, rv (.iinc 1 1) 20 0 1, ra (.goto (-21)) 23 2, rv (.iconst 0) 26 0 0, r0 (.istore_n 1) 27, r0 (.iload_n 1) 28, rv (.iconst 4) 29 0 4, ra (.if_icmp .ge 24) 30 32, r0 (.aload_n 0) 33, rf (.getfield 19) 34 5 4 0 778, r0 (.iload_n 1) 37, r0 (.aload_n 0) 38, rf (.getfield 61) 39 5 29 0 803, rv (.bipush 18) 42 0 18, r0 (.iload_n 1) 44, r0 .iadd 45, r0 .iaload 46, r0 .iastore 47, rv (.iinc 1 1) 48 0 1, ra (.goto (-23)) 51 17]
def mt149_1 : List RI := [r0 .return_ 54]
def mt149 : List (List RI) := [mt149_0, mt149_1]
def mt150_0 : List RI := [rv (.iconst 0) 0 0 0, r0 (.istore_n 2) 1, r0 (.aload_n 0) 2, rv (.iconst 0) 3 0 0, rf (.putfield 206) 4 5 30 0 804, rv (.iconst 0) 7 0 0, r0 (.istore_n 3) 8, r0 (.iload_n 3) 9, r0 (.iload_n 1) 10, ra (.if_icmp .ge 58) 11 40, r0 (.aload_n 0) 14, ri (.invokevirtual 203) 15 145 1 0 1 5 984, r0 (.istore 4) 18, r0 (.iload_n 2) 20, r0 (.iload 4) 21, rv (.iconst (-1)) 23 0 (-1), ra (.if_icmp .ne 7) 24 19, rv (.iconst 0) 27 0 0, ra (.goto 4) 28 20, rv (.iconst 1) 31 0 1, r0 .iadd 32, r0 (.istore_n 2) 33, r0 (.aload_n 0) 34, r0 (.iload 4) 35, rv (.iconst (-1)) 37 0 (-1), ra (.if_icmp .ne 10) 38 29, r0 (.aload_n 0) 41, rf (.getfield 206) 42 5 30 0 804, ra (.goto 15) 45 37, rv (.bipush 10) 48 0 10, r0 (.aload_n 0) 50, rf (.getfield 206) 51 5 30 0 804]
def mt150_1 : List RI := [r0 .imul 54, r0 (.iload 4) 55, r0 .iadd 57, rv (.iconst 1) 58 0 1, r0 .iadd 59, rf (.putfield 206) 60 5 30 0 804, rv (.iinc 3 1) 63 0 1, ra (.goto (-57)) 66 7, r0 (.iload_n 2) 69, r0 .ireturn 70]
def mt150 : List (List RI) := [mt150_0, mt150_1]
def mt151_0 : List RI := [r0 (.iload_n 2) 0, rv (.iconst 0) 1 0 0, rv (.iconst 2) 2 0 2, ri (.invokestatic 75) 3 104 3 1 1 5 735, ra (.ifCond .ne 35) 6 21, r0 (.iload_n 2) 9, rv (.bipush 10) 10 0 10, rv (.bipush 9) 12 0 9, r0 (.aload_n 0) 14, rf (.getfield 72) 15 5 0 0 774, r0 .iadd 18, ri (.invokestatic 75) 19 104 3 1 1 5 735, ra (.ifCond .ne 19) 22 21, r0 (.iload_n 2) 25, rv (.bipush 20) 26 0 20, rv (.bipush 19) 28 0 19, r0 (.aload_n 0) 30, rf (.getfield 72) 31 5 0 0 774, r0 .iadd 34, ri (.invokestatic 75) 35 104 3 1 1 5 735, ra (.ifCond .eq 7) 38 23, rv (.iconst 1) 41 0 1, ra (.goto 4) 42 24, rv (.iconst 0) 45 0 0, r0 (.istore_n 3) 46, r0 (.iload_n 1) 47, rv (.iconst 0) 48 0 0, rv (.bipush 60) 49 0 60, ri (.invokestatic 75) 51 104 3 1 1 5 735, ra (.ifCond .eq 7) 54 32, r0 (.iload_n 3) 57, ra (.ifCond .ne 6) 58 34]
def mt151_1 : List RI := [rv (.bipush (-2)) 61 0 (-2), r0 .ireturn 63, r0 (.aload_n 0) 64, ri (.invokevirtual 209) 65 148 1 0 0 5 1000, r0 (.aload_n 0) 68, r0 (.iload_n 1) 69, ri (.invokevirtual 212) 70 150 2 0 1 5 1004, r0 (.istore 4) 73, r0 (.iload_n 2) 75, rt (.tableswitch 49 0 2 #[28, 31, 40]) 76 51 [(0, 42), (1, 43), (2, 47)], ra (.goto 56) 104 74, r0 (.aload_n 0) 107, rf (.getfield 206) 108 5 30 0 804, r0 (.istore 4) 111, ra (.goto 47) 113 74, r0 (.aload_n 0) 116, ri (.invokevirtual 104) 117 112 1 0 1 5 936, r0 (.istore 4) 120, ra (.goto 38) 122 74, r0 (.iload_n 2) 125, rv (.bipush 20) 126 0 20, ra (.if_icmp .ge 17) 128 63, r0 (.aload_n 0) 131, rf (.getfield 16) 132 5 3 0 777, rv (.iconst 3) 135 0 3, r0 (.iload_n 2) 136, rv (.bipush 10) 137 0 10, r0 .isub 139, r0 .imul 140, r0 .iaload 141, ra (.goto 16) 142 73, r0 (.aload_n 0) 145]
def mt151_2 : List RI := [rf (.getfield 16) 146 5 3 0 777, rv (.iconst 3) 149 0 3, r0 (.iload_n 2) 150, rv (.bipush 20) 151 0 20, r0 .isub 153, r0 .imul 154, rv (.iconst 2) 155 0 2, r0 .iadd 156, r0 .iaload 157, r0 (.istore 4) 158, r0 (.aload_n 0) 160, ri (.invokevirtual 215) 161 149 1 0 0 5 1008, r0 (.iload 4) 164, r0 .ireturn 166]
def mt151 : List (List RI) := [mt151_0, mt151_1, mt151_2]
def mt152_0 : List RI := [r0 (.iload_n 2) 0, ra (.ifCond .ne 11) 1 6, r0 (.aload_n 0) 4, r0 (.iload_n 1) 5, ri (.invokevirtual 86) 6 111 2 0 1 5 940, ra (.goto 37) 9 24, r0 (.iload_n 2) 12, rv (.iconst 1) 13 0 1, ra (.if_icmp .ne 11) 14 13, r0 (.aload_n 0) 17, r0 (.iload_n 1) 18, ri (.invokevirtual 185) 19 140 2 0 1 5 887, ra (.goto 24) 22 24, r0 (.aload_n 0) 25, rf (.getfield 19) 26 5 4 0 778, rv (.iconst 0) 29 0 0, r0 .iaload 30, ra (.ifCond .ne 14) 31 23, r0 (.aload_n 0) 34, ri (.invokevirtual 98) 35 141 1 0 1 5 932, ra (.ifCond .ne 7) 38 23, rv (.iconst 1) 41 0 1, ra (.goto 4) 42 24, rv (.iconst 0) 45 0 0, ra .ireturn 46 1]
def mt152 : List (List RI) := [mt152_0]
def mt153_0 : List RI := [rv (.iconst (-1)) 0 0 (-1), r0 (.istore_n 3) 1, rv (.iconst 0) 2 0 0, r0 (.istore 4) 3, r0 (.iload 4) 5, rv (.bipush 60) 7 0 60, ra (.if_icmp .gt 35) 9 24, r0 (.iload_n 3) 12, rv (.iconst (-1)) 13 0 (-1), ra (.if_icmp .ne 30) 14 24, r0 (.aload_n 0) 17, r0 (.iload_n 1) 18, r0 (.iload_n 2) 19, ri (.invokevirtual 218) 20 152 3 0 1 5 1020, ra (.ifCond .eq 8) 23 17, r0 (.iload 4) 26, ra (.goto 4) 28 18, rv (.iconst (-1)) 31 0 (-1), r0 (.istore_n 3) 32, r0 (.aload_n 0) 33, ri (.invokevirtual 203) 34 145 1 0 1 5 984, r0 .pop 37, rv (.iinc 4 1) 38 0 1, ra (.goto (-36)) 41 4, r0 (.iload_n 3) 44, r0 .ireturn 45]
def mt153 : List (List RI) := [mt153_0]
def mt154_0 : List RI := [r0 (.iload_n 2) 0, rv (.iconst 0) 1 0 0, rv (.iconst 2) 2 0 2, ri (.invokestatic 75) 3 104 3 1 1 5 735, ra (.ifCond .ne 6) 6 7, rv (.bipush (-7)) 9 0 (-7), r0 .ireturn 11, r0 (.iload_n 2) 12, rv (.iconst 2) 13 0 2, ra (.if_icmp .ge 14) 14 16, r0 (.aload_n 0) 17, r0 (.iload_n 1) 18, ri (.invokevirtual 179) 19 107 2 0 1 5 960, ra (.ifCond .ne 6) 22 16, rv (.bipush (-5)) 25 0 (-5), r0 .ireturn 27, r0 (.aload_n 0) 28, ri (.invokevirtual 209) 29 148 1 0 0 5 1000, r0 (.aload_n 0) 32, r0 (.iload_n 1) 33, r0 (.iload_n 2) 34, ri (.invokevirtual 222) 35 153 3 0 1 5 1016, r0 (.istore_n 3) 38, r0 (.aload_n 0) 39, ri (.invokevirtual 215) 40 149 1 0 0 5 1008, r0 (.iload_n 3) 43, r0 .ireturn 44]
def mt154 : List (List RI) := [mt154_0]
def mt155_0 : List RI := [r0 (.aload_n 0) 0, ri (.invokevirtual 209) 1 148 1 0 0 5 1000, r0 (.aload_n 0) 4, r0 (.iload_n 1) 5, ri (.invokevirtual 212) 6 150 2 0 1 5 1004, r0 (.istore_n 2) 9, r0 (.aload_n 0) 10, ri (.invokevirtual 215) 11 149 1 0 0 5 1008, r0 (.iload_n 2) 14, r0 .ireturn 15]
def mt155 : List (List RI) := [mt155_0]
def mt156_0 : List RI := [r0 (.iload_n 1) 0, rv (.iconst 0) 1 0 0, rv (.bipush 60) 2 0 60, ri (.invokestatic 75) 4 104 3 1 1 5 735, ra (.ifCond .eq 12) 7 10, r0 (.iload_n 2) 10, rv (.iconst 0) 11 0 0, rv (.iconst 1) 12 0 1, ri (.invokestatic 75) 13 104 3 1 1 5 735, ra (.ifCond .ne 6) 16 12, rv (.bipush (-2)) 19 0 (-2), r0 .ireturn 21, rv (.iconst (-1)) 22 0 (-1), r0 (.istore_n 3) 23, r0 (.aload_n 0) 24, r0 (.iload_n 1) 25, ri (.invokevirtual 225) 26 155 2 0 1 5 1028, r0 (.istore 4) 29, rv (.iconst 0) 31 0 0, r0 (.istore 5) 32, r0 (.iload 5) 34, r0 (.aload_n 0) 36, rf (.getfield 72) 37 5 0 0 774, ra (.if_icmp .ge 79) 40 66, r0 (.aload_n 0) 43, r0 (.iload 5) 44, ri (.invokevirtual 83) 46 109 2 0 1 5 891, ra (.ifCond .eq 64) 49 64, r0 (.aload_n 0) 52, rf (.getfield 16) 53 5 3 0 777, rv (.iconst 3) 56 0 3, r0 (.iload 5) 57]
def mt156_1 : List RI := [r0 .imul 59, rv (.iconst 1) 60 0 1, r0 .iadd 61, rv (.iconst 1) 62 0 1, r0 .iastore 63, r0 (.aload_n 0) 64, r0 (.iload_n 1) 65, ri (.invokevirtual 225) 66 155 2 0 1 5 1028, r0 (.istore 6) 69, r0 (.aload_n 0) 71, rf (.getfield 16) 72 5 3 0 777, rv (.iconst 3) 75 0 3, r0 (.iload 5) 76, r0 .imul 78, rv (.iconst 1) 79 0 1, r0 .iadd 80, rv (.iconst 0) 81 0 0, r0 .iastore 82, r0 (.iload 6) 83, r0 (.iload 4) 85, ra (.if_icmp .le 8) 87 55, r0 (.iload 5) 90, ra (.goto 4) 92 56, r0 (.iload_n 3) 95, r0 (.istore_n 3) 96, r0 (.iload 6) 97, r0 (.iload 4) 99, ra (.if_icmp .le 8) 101 62, r0 (.iload 6) 104, ra (.goto 5) 106 63, r0 (.iload 4) 109, r0 (.istore 4) 111]
def mt156_2 : List RI := [rv (.iinc 5 1) 113 0 1, ra (.goto (-82)) 116 20, r0 (.iload_n 2) 119, ra (.ifCond .ne 7) 120 70, r0 (.iload_n 3) 123, ra (.goto 5) 124 71, r0 (.iload 4) 127, r0 .ireturn 129]
def mt156 : List (List RI) := [mt156_0, mt156_1, mt156_2]
def mt157_0 : List RI := [r0 (.aload_n 0) 0, r0 (.iload_n 1) 1, ri (.invokevirtual 179) 2 107 2 0 1 5 960, ra (.ifCond .ne 6) 5 6, rv (.bipush (-5)) 8 0 (-5), r0 .ireturn 10, r0 (.iload_n 2) 11, rv (.iconst 0) 12 0 0, rv (.iconst 1) 13 0 1, ri (.invokestatic 75) 14 104 3 1 1 5 735, ra (.ifCond .ne 6) 17 13, rv (.bipush (-7)) 20 0 (-7), r0 .ireturn 22, r0 (.aload_n 0) 23, rf (.getfield 19) 24 5 4 0 778, rv (.iconst 1) 27 0 1, r0 .iaload 28, r0 (.iload_n 1) 29, ra (.if_icmp .ne 6) 30 21, rv (.bipush (-3)) 33 0 (-3), r0 .ireturn 35, rv (.iconst (-1)) 36 0 (-1), r0 (.istore_n 3) 37, rv (.iconst (-1)) 38 0 (-1), r0 (.istore 4) 39, r0 (.aload_n 0) 41, ri (.invokevirtual 209) 42 148 1 0 0 5 1000, rv (.iconst 0) 45 0 0, r0 (.istore 5) 46, r0 (.iload 5) 48, rv (.bipush 64) 50 0 64, ra (.if_icmp .ge 93) 52 82]
def mt157_1 : List RI := [r0 (.aload_n 0) 55, rf (.getfield 16) 56 5 3 0 777, rv (.iconst 3) 59 0 3, r0 (.iload_n 1) 60, r0 .imul 61, r0 (.iload 5) 62, r0 .iastore 64, r0 (.aload_n 0) 65, rf (.getfield 16) 66 5 3 0 777, rv (.iconst 3) 69 0 3, r0 (.iload_n 1) 70, r0 .imul 71, rv (.iconst 1) 72 0 1, r0 .iadd 73, rv (.iconst 0) 74 0 0, r0 .iastore 75, r0 (.aload_n 0) 76, r0 (.iload_n 1) 77, rv (.iconst 0) 78 0 0, ri (.invokevirtual 222) 79 153 3 0 1 5 1016, r0 (.istore 6) 82, r0 (.aload_n 0) 84, ri (.invokevirtual 215) 85 149 1 0 0 5 1008, r0 (.iload 6) 88, rv (.iconst (-1)) 90 0 (-1), ra (.if_icmp .eq 19) 91 66, r0 (.iload_n 3) 94, rv (.iconst (-1)) 95 0 (-1), ra (.if_icmp .eq 10) 96 64, r0 (.iload 6) 99, r0 (.iload 4) 101, ra (.if_icmp .ge 7) 103 66]
def mt157_2 : List RI := [rv (.iconst 1) 106 0 1, ra (.goto 4) 107 67, rv (.iconst 0) 110 0 0, r0 (.istore 7) 111, r0 (.iload 7) 113, ra (.ifCond .eq 8) 115 72, r0 (.iload 5) 118, ra (.goto 4) 120 73, r0 (.iload_n 3) 123, r0 (.istore_n 3) 124, r0 (.iload 7) 125, ra (.ifCond .eq 8) 127 78, r0 (.iload 6) 130, ra (.goto 5) 132 79, r0 (.iload 4) 135, r0 (.istore 4) 137, rv (.iinc 5 1) 139 0 1, ra (.goto (-94)) 142 29, r0 (.iload_n 2) 145, ra (.ifCond .ne 7) 146 86, r0 (.iload_n 3) 149, ra (.goto 5) 150 87, r0 (.iload 4) 153, r0 .ireturn 155]
def mt157 : List (List RI) := [mt157_0, mt157_1, mt157_2]
def mt158_0 : List RI := [r0 (.aload_n 0) 0, r0 (.iload_n 1) 1, ri (.invokevirtual 179) 2 107 2 0 1 5 960, ra (.ifCond .ne 6) 5 6, rv (.bipush (-5)) 8 0 (-5), r0 .ireturn 10, r0 (.iload_n 2) 11, rv (.iconst 0) 12 0 0, rv (.iconst 1) 13 0 1, ri (.invokestatic 75) 14 104 3 1 1 5 735, ra (.ifCond .ne 6) 17 13, rv (.bipush (-7)) 20 0 (-7), r0 .ireturn 22, r0 (.aload_n 0) 23, r0 (.iload_n 1) 24, ri (.invokevirtual 83) 25 109 2 0 1 5 891, ra (.ifCond .ne 5) 28 19, rv (.iconst (-1)) 31 0 (-1), r0 .ireturn 32, r0 (.aload_n 0) 33, rf (.getfield 16) 34 5 3 0 777, rv (.iconst 3) 37 0 3, r0 (.iload_n 1) 38, r0 .imul 39, r0 .iaload 40, r0 (.istore_n 3) 41, rv (.iconst (-1)) 42 0 (-1), r0 (.istore 4) 43, rv (.iconst (-1)) 45 0 (-1), r0 (.istore 5) 46, rv (.iconst 0) 48 0 0, r0 (.istore 6) 49]
def mt158_1 : List RI := [r0 (.iload 6) 51, rv (.bipush 64) 53 0 64, ra (.if_icmp .ge 94) 55 81, r0 (.aload_n 0) 58, rf (.getfield 16) 59 5 3 0 777, rv (.iconst 3) 62 0 3, r0 (.iload_n 1) 63, r0 .imul 64, r0 (.iload 6) 65, r0 .iastore 67, r0 (.iload 6) 68, r0 (.iload_n 3) 70, ra (.if_icmp .ge 10) 71 49, r0 (.iload_n 3) 74, r0 (.iload 6) 75, r0 .isub 77, ra (.goto 7) 78 52, r0 (.iload 6) 81, r0 (.iload_n 3) 83, r0 .isub 84, r0 (.istore 7) 85, r0 (.aload_n 0) 87, r0 (.iload_n 1) 88, ri (.invokevirtual 185) 89 140 2 0 1 5 887, ra (.ifCond .eq 20) 92 65, r0 (.iload 4) 95, rv (.iconst (-1)) 97 0 (-1), ra (.if_icmp .eq 10) 98 63, r0 (.iload 7) 101, r0 (.iload 5) 103, ra (.if_icmp .ge 7) 105 65, rv (.iconst 1) 108 0 1]
def mt158_2 : List RI := [ra (.goto 4) 109 66, rv (.iconst 0) 112 0 0, r0 (.istore 8) 113, r0 (.iload 8) 115, ra (.ifCond .eq 8) 117 71, r0 (.iload 6) 120, ra (.goto 5) 122 72, r0 (.iload 4) 125, r0 (.istore 4) 127, r0 (.iload 8) 129, ra (.ifCond .eq 8) 131 77, r0 (.iload 7) 134, ra (.goto 5) 136 78, r0 (.iload 5) 139, r0 (.istore 5) 141, rv (.iinc 6 1) 143 0 1, ra (.goto (-95)) 146 32, r0 (.aload_n 0) 149, rf (.getfield 16) 150 5 3 0 777, rv (.iconst 3) 153 0 3, r0 (.iload_n 1) 154, r0 .imul 155, r0 (.iload_n 3) 156, r0 .iastore 157, r0 (.iload_n 2) 158, ra (.ifCond .ne 8) 159 92, r0 (.iload 5) 162, ra (.goto 5) 164 93, r0 (.iload 4) 167, r0 .ireturn 169]
def mt158 : List (List RI) := [mt158_0, mt158_1, mt158_2]
def mt159_0 : List RI := [rv (.iconst 0) 0 0 0, r0 (.istore_n 3) 1, r0 (.iload_n 3) 2, r0 (.aload_n 0) 3, rf (.getfield 72) 4 5 0 0 774, ra (.if_icmp .ge 42) 7 33, r0 (.aload_n 0) 10, rf (.getfield 16) 11 5 3 0 777, rv (.iconst 3) 14 0 3, r0 (.iload_n 3) 15, r0 .imul 16, rv (.iconst 1) 17 0 1, r0 .iadd 18, r0 (.iload_n 1) 19, r0 (.iload_n 3) 20, r0 .ishr 21, rv (.iconst 1) 22 0 1, r0 .iand 23, rv (.iconst 1) 24 0 1, ra (.if_icmp .ne 7) 25 22, rv (.iconst 1) 28 0 1, ra (.goto 13) 29 30, r0 (.aload_n 0) 32, rf (.getfield 16) 33 5 3 0 777, rv (.iconst 3) 36 0 3, r0 (.iload_n 3) 37, r0 .imul 38, rv (.iconst 1) 39 0 1, r0 .iadd 40, r0 .iaload 41, r0 .iastore 42, rv (.iinc 3 1) 43 0 1]
def mt159_1 : List RI := [ra (.goto (-44)) 46 2, r0 (.aload_n 0) 49, ri (.invokevirtual 98) 50 141 1 0 1 5 932, r0 (.iload_n 2) 53, r0 (.iload_n 1) 54, rv (.iconst (-1)) 55 0 (-1), r0 .ixor 56, r0 .iand 57, ra (.if_icmp .ne 7) 58 43, rv (.iconst 1) 61 0 1, ra (.goto 4) 62 44, rv (.iconst 0) 65 0 0, r0 (.istore_n 3) 66, rv (.iconst 0) 67 0 0, r0 (.istore 4) 68, r0 (.iload 4) 70, r0 (.aload_n 0) 72, rf (.getfield 72) 73 5 0 0 774, ra (.if_icmp .ge 45) 76 78, r0 (.aload_n 0) 79, rf (.getfield 16) 80 5 3 0 777, rv (.iconst 3) 83 0 3, r0 (.iload 4) 84, r0 .imul 86, rv (.iconst 1) 87 0 1, r0 .iadd 88, r0 (.iload_n 1) 89, r0 (.iload 4) 90, r0 .ishr 92, rv (.iconst 1) 93 0 1, r0 .iand 94, rv (.iconst 1) 95 0 1]
def mt159_2 : List RI := [ra (.if_icmp .ne 7) 96 67, rv (.iconst 0) 99 0 0, ra (.goto 14) 100 75, r0 (.aload_n 0) 103, rf (.getfield 16) 104 5 3 0 777, rv (.iconst 3) 107 0 3, r0 (.iload 4) 108, r0 .imul 110, rv (.iconst 1) 111 0 1, r0 .iadd 112, r0 .iaload 113, r0 .iastore 114, rv (.iinc 4 1) 115 0 1, ra (.goto (-48)) 118 47, r0 (.iload_n 3) 121, ra .ireturn 122 1]
def mt159 : List (List RI) := [mt159_0, mt159_1, mt159_2]
def mt160_0 : List RI := [r0 (.iload_n 1) 0, rv (.iconst 0) 1 0 0, rv (.iconst 1) 2 0 1, ri (.invokestatic 75) 3 104 3 1 1 5 735, ra (.ifCond .ne 6) 6 7, rv (.bipush (-2)) 9 0 (-2), r0 .ireturn 11, r0 (.aload_n 0) 12, ri (.invokevirtual 101) 13 110 1 0 1 5 911, r0 (.istore_n 2) 16, rv (.iconst (-1)) 17 0 (-1), r0 (.istore_n 3) 18, rv (.iconst (-1)) 19 0 (-1), r0 (.istore 4) 20, rv (.iconst 0) 22 0 0, r0 (.istore 5) 23, r0 (.iload 5) 25, rv (.iconst 1) 27 0 1, r0 (.aload_n 0) 28, rf (.getfield 72) 29 5 0 0 774, r0 .ishl 32, ra (.if_icmp .ge 83) 33 61, r0 (.iload 5) 36, r0 (.iload_n 2) 38, rv (.iconst (-1)) 39 0 (-1), r0 .ixor 40, r0 .iand 41, ra (.ifCond .ne 22) 42 37, r0 (.iload_n 3) 45, rv (.iconst (-1)) 46 0 (-1), ra (.if_icmp .eq 13) 47 35, r0 (.iload 5) 50]
def mt160_1 : List RI := [ri (.invokestatic 170) 52 106 1 1 1 5 915, r0 (.iload 4) 55, ra (.if_icmp .ge 7) 57 37, rv (.iconst 1) 60 0 1, ra (.goto 4) 61 38, rv (.iconst 0) 64 0 0, r0 (.istore 6) 65, r0 (.iload 6) 67, ra (.ifCond .eq 41) 69 59, r0 (.aload_n 0) 72, r0 (.iload 5) 73, r0 (.iload_n 2) 75, ri (.invokevirtual 228) 76 159 3 0 1 5 1044, r0 (.istore 7) 79, r0 (.iload 7) 81, ra (.ifCond .eq 8) 83 50, r0 (.iload 5) 86, ra (.goto 4) 88 51, r0 (.iload_n 3) 91, r0 (.istore_n 3) 92, r0 (.iload 7) 93, ra (.ifCond .eq 11) 95 57, r0 (.iload 5) 98, ri (.invokestatic 170) 100 106 1 1 1 5 915, ra (.goto 5) 103 58, r0 (.iload 4) 106, r0 (.istore 4) 108, rv (.iinc 5 1) 110 0 1, ra (.goto (-88)) 113 16, r0 (.iload_n 1) 116, ra (.ifCond .ne 7) 117 65, r0 (.iload_n 3) 120]
def mt160_2 : List RI := [ra (.goto 5) 121 66, r0 (.iload 4) 124, r0 .ireturn 126]
def mt160 : List (List RI) := [mt160_0, mt160_1, mt160_2]
def mt161_0 : List RI := [rv (.iconst 0) 0 0 0, r0 (.istore_n 3) 1, r0 (.iload_n 3) 2, r0 (.aload_n 0) 3, rf (.getfield 72) 4 5 0 0 774, ra (.if_icmp .ge 57) 7 40, r0 (.aload_n 0) 10, r0 (.iload_n 3) 11, ri (.invokevirtual 83) 12 109 2 0 1 5 891, ra (.ifCond .eq 43) 15 38, r0 (.aload_n 0) 18, rf (.getfield 16) 19 5 3 0 777, rv (.iconst 3) 22 0 3, r0 (.iload_n 3) 23, r0 .imul 24, r0 .iaload 25, r0 (.aload_n 0) 26, rf (.getfield 16) 27 5 3 0 777, rv (.iconst 3) 30 0 3, r0 (.iload_n 1) 31, r0 .imul 32, r0 .iaload 33, ra (.if_icmp .le 24) 34 38, r0 (.aload_n 0) 37, rf (.getfield 16) 38 5 3 0 777, rv (.iconst 3) 41 0 3, r0 (.iload_n 3) 42, r0 .imul 43, r0 .iaload 44, r0 (.aload_n 0) 45, rf (.getfield 16) 46 5 3 0 777, rv (.iconst 3) 49 0 3]
def mt161_1 : List RI := [r0 (.iload_n 2) 50, r0 .imul 51, r0 .iaload 52, ra (.if_icmp .ge 5) 53 38, rv (.iconst 1) 56 0 1, ra .ireturn 57 1, rv (.iinc 3 1) 58 0 1, ra (.goto (-59)) 61 2, rv (.iconst 0) 64 0 0, ra .ireturn 65 1]
def mt161 : List (List RI) := [mt161_0, mt161_1]
def mt162_0 : List RI := [r0 (.iload_n 1) 0, rv (.iconst 0) 1 0 0, rv (.iconst 1) 2 0 1, ri (.invokestatic 75) 3 104 3 1 1 5 735, ra (.ifCond .ne 6) 6 7, rv (.bipush (-2)) 9 0 (-2), r0 .ireturn 11, rv (.iconst (-1)) 12 0 (-1), r0 (.istore_n 2) 13, rv (.iconst (-1)) 14 0 (-1), r0 (.istore_n 3) 15, rv (.iconst 0) 16 0 0, r0 (.istore 4) 17, r0 (.iload 4) 19, r0 (.aload_n 0) 21, rf (.getfield 72) 22 5 0 0 774, ra (.if_icmp .ge 156) 25 93, rv (.iconst 0) 28 0 0, r0 (.istore 5) 29, r0 (.iload 5) 31, r0 (.aload_n 0) 33, rf (.getfield 72) 34 5 0 0 774, ra (.if_icmp .ge 138) 37 91, r0 (.aload_n 0) 40, rf (.getfield 16) 41 5 3 0 777, rv (.iconst 3) 44 0 3, r0 (.iload 5) 45, r0 .imul 47, r0 .iaload 48, r0 (.aload_n 0) 49, rf (.getfield 16) 50 5 3 0 777, rv (.iconst 3) 53 0 3]
def mt162_1 : List RI := [r0 (.iload 4) 54, r0 .imul 56, r0 .iaload 57, r0 .isub 58, r0 (.istore 6) 59, r0 (.iload 4) 61, r0 (.iload 5) 63, ra (.if_icmp .eq 42) 65 57, r0 (.aload_n 0) 68, r0 (.iload 4) 69, ri (.invokevirtual 83) 71 109 2 0 1 5 891, ra (.ifCond .eq 33) 74 57, r0 (.aload_n 0) 77, r0 (.iload 5) 78, ri (.invokevirtual 83) 80 109 2 0 1 5 891, ra (.ifCond .eq 24) 83 57, r0 (.iload 6) 86, ra (.ifCond .gt 15) 88 55, r0 (.iload 6) 91, ra (.ifCond .ne 14) 93 57, r0 (.iload 4) 96, r0 (.iload 5) 98, ra (.if_icmp .ge 7) 100 57, rv (.iconst 1) 103 0 1, ra (.goto 4) 104 58, rv (.iconst 0) 107 0 0, r0 (.istore 7) 108, r0 (.iload 7) 110, ra (.ifCond .eq 57) 112 89, r0 (.iload 6) 115, r0 (.iload_n 3) 117, ra (.if_icmp .le 51) 118 89]
def mt162_2 : List RI := [r0 (.aload_n 0) 121, r0 (.iload 4) 122, r0 (.iload 5) 124, ri (.invokevirtual 231) 126 161 3 0 1 5 1052, ra (.ifCond .ne 7) 129 71, rv (.iconst 1) 132 0 1, ra (.goto 4) 133 72, rv (.iconst 0) 136 0 0, r0 (.istore 7) 137, r0 (.iload 7) 139, ra (.ifCond .eq 14) 141 81, rv (.bipush 10) 144 0 10, r0 (.iload 4) 146, r0 .imul 148, r0 (.iload 5) 149, r0 .iadd 151, ra (.goto 4) 152 82, r0 (.iload_n 2) 155, r0 (.istore_n 2) 156, r0 (.iload 7) 157, ra (.ifCond .eq 8) 159 87, r0 (.iload 6) 162, ra (.goto 4) 164 88, r0 (.iload_n 3) 167, r0 (.istore_n 3) 168, rv (.iinc 5 1) 169 0 1, ra (.goto (-141)) 172 19, rv (.iinc 4 1) 175 0 1, ra (.goto (-159)) 178 13, r0 (.iload_n 1) 181, ra (.ifCond .ne 7) 182 97, r0 (.iload_n 2) 185]
def mt162_3 : List RI := [ra (.goto 4) 186 98, r0 (.iload_n 3) 189, r0 .ireturn 190]
def mt162 : List (List RI) := [mt162_0, mt162_1, mt162_2, mt162_3]
def mt163_0 : List RI := [r0 (.lload_n 0) 0, rw (.lconst 0) 1 0 0, r0 .lcmp 2, ra (.ifCond .ne 7) 3 7, r0 (.iload 4) 6, r0 .i2l 8, r0 .lreturn 9, r0 (.lload_n 0) 10, r0 (.lstore 5) 11, r0 (.lload_n 2) 13, r0 (.lstore 7) 14, r0 (.lload 7) 16, rw (.lconst 0) 18 0 0, r0 .lcmp 19, ra (.ifCond .eq 21) 20 24, r0 (.lload 5) 23, r0 (.lload 7) 25, r0 .lrem 27, r0 (.lstore 9) 28, r0 (.lload 7) 30, r0 (.lstore 5) 32, r0 (.lload 9) 34, r0 (.lstore 7) 36, ra (.goto (-22)) 38 11, r0 (.iload 4) 41, ra (.ifCond .ne 7) 43 28, r0 (.lload_n 0) 46, ra (.goto 4) 47 29, r0 (.lload_n 2) 50, r0 (.lload 5) 51, r0 .ldiv 53, r0 .lreturn 54]
def mt163 : List (List RI) := [mt163_0]
def mt164_0 : List RI := [rv (.iconst 0) 0 0 0, r0 (.istore_n 2) 1, rv (.iconst 0) 2 0 0, r0 (.istore_n 3) 3, rv (.iconst 0) 4 0 0, r0 (.istore 4) 5, r0 (.iload 4) 7, r0 (.aload_n 0) 9, rf (.getfield 72) 10 5 0 0 774, ra (.if_icmp .ge 51) 13 37, r0 (.iload_n 2) 16, r0 (.aload_n 0) 17, r0 (.iload 4) 18, ri (.invokevirtual 79) 20 108 2 0 1 5 895, ra (.ifCond .eq 15) 23 22, r0 (.aload_n 0) 26, rf (.getfield 16) 27 5 3 0 777, rv (.iconst 3) 30 0 3, r0 (.iload 4) 31, r0 .imul 33, r0 .iaload 34, ra (.goto 4) 35 23, rv (.iconst 0) 38 0 0, r0 .iadd 39, r0 (.istore_n 2) 40, r0 (.iload_n 3) 41, r0 (.aload_n 0) 42, r0 (.iload 4) 43, ri (.invokevirtual 79) 45 108 2 0 1 5 895, ra (.ifCond .eq 7) 48 32, rv (.iconst 1) 51 0 1, ra (.goto 4) 52 33]
def mt164_1 : List RI := [rv (.iconst 0) 55 0 0, r0 .iadd 56, r0 (.istore_n 3) 57, rv (.iinc 4 1) 58 0 1, ra (.goto (-54)) 61 6, r0 (.iload_n 1) 64, rv (.iconst 0) 65 0 0, rv (.iconst 1) 66 0 1, ri (.invokestatic 75) 67 104 3 1 1 5 735, ra (.ifCond .eq 18) 70 51, r0 (.iload_n 3) 73, ra (.ifCond .le 14) 74 51, r0 (.iload_n 2) 77, r0 .i2l 78, r0 (.iload_n 3) 79, r0 .i2l 80, r0 (.iload_n 1) 81, ri (.invokestatic 234) 82 163 3 1 2 5 1060, ra (.goto 6) 85 52, rw (.ldc2_w 238) 88 1063 (-4611686018427387904), r0 .lreturn 91]
def mt164 : List (List RI) := [mt164_0, mt164_1]
def mt165_0 : List RI := [r0 (.iload_n 1) 0, rv (.iconst 0) 1 0 0, rv (.iconst 3) 2 0 3, ri (.invokestatic 75) 3 104 3 1 1 5 735, ra (.ifCond .ne 6) 6 7, rv (.bipush (-2)) 9 0 (-2), r0 .ireturn 11, r0 (.aload_n 0) 12, rf (.getfield 37) 13 5 14 0 788, r0 (.iload_n 1) 16, r0 .iaload 17, rv (.iconst (-1)) 18 0 (-1), ra (.if_icmp .ne 6) 19 15, rv (.bipush (-11)) 22 0 (-11), r0 .ireturn 24, r0 (.aload_n 0) 25, rf (.getfield 40) 26 5 15 0 789, r0 (.iload_n 1) 29, r0 .iaload 30, rv (.bipush 24) 31 0 24, ra (.if_icmp .le 8) 33 23, rv (.bipush (-2)) 36 0 (-2), ra (.goto 4) 38 24, rv (.iconst 0) 41 0 0, r0 .ireturn 42]
def mt165 : List (List RI) := [mt165_0]
def mt166_0 : List RI := [rv (.iconst (-1)) 0 0 (-1), r0 (.istore_n 2) 1, r0 (.aload_n 0) 2, ri (.invokevirtual 209) 3 148 1 0 0 5 1000, rv (.iconst 0) 6 0 0, r0 (.istore_n 3) 7, r0 (.iload_n 3) 8, r0 (.aload_n 0) 9, rf (.getfield 40) 10 5 15 0 789, r0 (.iload_n 1) 13, r0 .iaload 14, ra (.if_icmp .ge 40) 15 34, r0 (.iload_n 2) 18, rv (.iconst (-1)) 19 0 (-1), ra (.if_icmp .ne 35) 20 34, r0 (.aload_n 0) 23, rf (.getfield 43) 24 5 16 0 790, rv (.bipush 40) 27 0 40, r0 (.iload_n 1) 29, r0 .imul 30, r0 (.iload_n 3) 31, r0 .iadd 32, r0 .iaload 33, r0 (.aload_n 0) 34, ri (.invokevirtual 203) 35 145 1 0 1 5 984, rv (.iconst 1) 38 0 1, r0 .iadd 39, ra (.if_icmp .ne 7) 40 30, rv (.iconst (-1)) 43 0 (-1), ra (.goto 4) 44 31, r0 (.iload_n 3) 47, r0 (.istore_n 2) 48]
def mt166_1 : List RI := [rv (.iinc 3 1) 49 0 1, ra (.goto (-44)) 52 6, r0 (.aload_n 0) 55, ri (.invokevirtual 215) 56 149 1 0 0 5 1008, r0 (.iload_n 2) 59, r0 .ireturn 60]
def mt166 : List (List RI) := [mt166_0, mt166_1]
def mt167_0 : List RI := [r0 (.aload_n 0) 0, r0 (.iload_n 1) 1, ri (.invokevirtual 240) 2 165 2 0 1 5 1068, r0 (.istore_n 2) 5, r0 (.iload_n 2) 6, ra (.ifCond .ne 11) 7 10, r0 (.aload_n 0) 10, r0 (.iload_n 1) 11, ri (.invokevirtual 243) 12 166 2 0 1 5 1072, ra (.goto 4) 15 11, r0 (.iload_n 2) 18, r0 .ireturn 19]
def mt167 : List (List RI) := [mt167_0]
def mt168_0 : List RI := [r0 (.aload_n 0) 0, r0 (.iload_n 1) 1, ri (.invokevirtual 240) 2 165 2 0 1 5 1068, r0 (.istore 4) 5, r0 (.iload 4) 7, ra (.ifCond .eq 6) 9 8, r0 (.iload 4) 12, r0 .ireturn 14, r0 (.aload_n 0) 15, r0 (.iload_n 2) 16, ri (.invokevirtual 179) 17 107 2 0 1 5 960, ra (.ifCond .ne 6) 20 14, rv (.bipush (-5)) 23 0 (-5), r0 .ireturn 25, r0 (.iload_n 3) 26, rv (.iconst 0) 27 0 0, rv (.iconst 1) 28 0 1, ri (.invokestatic 75) 29 104 3 1 1 5 735, ra (.ifCond .ne 6) 32 21, rv (.bipush (-7)) 35 0 (-7), r0 .ireturn 37, r0 (.aload_n 0) 38, rf (.getfield 7) 39 5 1 0 775, r0 (.iload_n 2) 42, r0 .iaload 43, r0 (.istore 5) 44, r0 (.aload_n 0) 46, rf (.getfield 13) 47 5 2 0 776, r0 (.iload_n 2) 50, r0 .iaload 51, r0 (.istore 6) 52, rv (.iconst 0) 54 0 0]
def mt168_1 : List RI := [r0 (.istore 7) 55, rv (.iconst 0) 57 0 0, r0 (.istore 8) 58, r0 (.iload 8) 60, r0 (.iload_n 3) 62, ra (.ifCond .ne 8) 63 40, rv (.bipush 6) 66 0 6, ra (.goto 5) 68 41, rv (.bipush 10) 71 0 10, ra (.if_icmp .ge 66) 73 76, r0 (.aload_n 0) 76, rf (.getfield 7) 77 5 1 0 775, r0 (.iload_n 2) 80, r0 (.iload_n 3) 81, ra (.ifCond .ne 8) 82 49, r0 (.iload 8) 85, ra (.goto 5) 87 50, r0 (.iload 5) 90, r0 .iastore 92, r0 (.aload_n 0) 93, rf (.getfield 13) 94 5 2 0 776, r0 (.iload_n 2) 97, r0 (.iload_n 3) 98, rv (.iconst 1) 99 0 1, ra (.if_icmp .ne 8) 100 59, r0 (.iload 8) 103, ra (.goto 5) 105 60, r0 (.iload 6) 108, r0 .iastore 110, r0 (.iload 7) 111, r0 (.aload_n 0) 113, r0 (.iload_n 1) 114]
def mt168_2 : List RI := [ri (.invokevirtual 243) 115 166 2 0 1 5 1072, rv (.iconst (-1)) 118 0 (-1), ra (.if_icmp .ne 10) 119 71, rv (.iconst 1) 122 0 1, r0 (.iload 8) 123, r0 .ishl 125, ra (.goto 4) 126 72, rv (.iconst 0) 129 0 0, r0 .ior 130, r0 (.istore 7) 131, rv (.iinc 8 1) 133 0 1, ra (.goto (-76)) 136 35, r0 (.aload_n 0) 139, rf (.getfield 7) 140 5 1 0 775, r0 (.iload_n 2) 143, r0 (.iload 5) 144, r0 .iastore 146, r0 (.aload_n 0) 147, rf (.getfield 13) 148 5 2 0 776, r0 (.iload_n 2) 151, r0 (.iload 6) 152, r0 .iastore 154, r0 (.iload 7) 155, r0 .ireturn 157]
def mt168 : List (List RI) := [mt168_0, mt168_1, mt168_2]
def mt169_0 : List RI := [r0 (.aload_n 0) 0, r0 (.iload_n 1) 1, ri (.invokevirtual 240) 2 165 2 0 1 5 1068, ra (.ifCond .ne 11) 5 8, r0 (.aload_n 0) 8, r0 (.iload_n 2) 9, ri (.invokevirtual 179) 10 107 2 0 1 5 960, ra (.ifCond .ne 7) 13 10, rw (.ldc2_w 238) 16 1063 (-4611686018427387904), r0 .lreturn 19, r0 (.aload_n 0) 20, rf (.getfield 16) 21 5 3 0 777, rv (.iconst 3) 24 0 3, r0 (.iload_n 2) 25, r0 .imul 26, r0 .iaload 27, r0 (.istore_n 3) 28, r0 (.iload_n 3) 29, rv (.iconst (-1)) 30 0 (-1), ra (.if_icmp .ne 7) 31 22, rw (.ldc2_w 238) 34 1063 (-4611686018427387904), r0 .lreturn 37, rw (.lconst 0) 38 0 0, r0 (.lstore 4) 39, rv (.iconst 0) 41 0 0, r0 (.istore 6) 42, r0 (.iload 6) 44, rv (.bipush 64) 46 0 64, ra (.if_icmp .ge 41) 48 51, r0 (.aload_n 0) 51, rf (.getfield 16) 52 5 3 0 777, rv (.iconst 3) 55 0 3]
def mt169_1 : List RI := [r0 (.iload_n 2) 56, r0 .imul 57, r0 (.iload 6) 58, r0 .iastore 60, r0 (.lload 4) 61, r0 (.aload_n 0) 63, r0 (.iload_n 1) 64, ri (.invokevirtual 243) 65 166 2 0 1 5 1072, rv (.iconst (-1)) 68 0 (-1), ra (.if_icmp .ne 10) 69 46, rw (.lconst 1) 72 0 1, r0 (.iload 6) 73, r0 .lshl 75, ra (.goto 4) 76 47, rw (.lconst 0) 79 0 0, r0 .lor 80, r0 (.lstore 4) 81, rv (.iinc 6 1) 83 0 1, ra (.goto (-42)) 86 26, r0 (.aload_n 0) 89, rf (.getfield 16) 90 5 3 0 777, rv (.iconst 3) 93 0 3, r0 (.iload_n 2) 94, r0 .imul 95, r0 (.iload_n 3) 96, r0 .iastore 97, r0 (.lload 4) 98, r0 .lreturn 100]
def mt169 : List (List RI) := [mt169_0, mt169_1]
def mt170_0 : List RI := [r0 (.aload_n 0) 0, r0 (.iload_n 1) 1, ri (.invokevirtual 240) 2 165 2 0 1 5 1068, r0 (.istore_n 2) 5, r0 (.iload_n 2) 6, ra (.ifCond .eq 5) 7 8, r0 (.iload_n 2) 10, r0 .ireturn 11, rv (.iconst 0) 12 0 0, r0 (.istore_n 3) 13, rv (.iconst 0) 14 0 0, r0 (.istore 4) 15, r0 (.iload 4) 17, r0 (.aload_n 0) 19, rf (.getfield 72) 20 5 0 0 774, ra (.if_icmp .ge 77) 23 67, r0 (.aload_n 0) 26, rf (.getfield 16) 27 5 3 0 777, rv (.iconst 3) 30 0 3, r0 (.iload 4) 31, r0 .imul 33, rv (.iconst 1) 34 0 1, r0 .iadd 35, rv (.iconst 1) 36 0 1, r0 (.aload_n 0) 37, rf (.getfield 16) 38 5 3 0 777, rv (.iconst 3) 41 0 3, r0 (.iload 4) 42, r0 .imul 44, rv (.iconst 1) 45 0 1, r0 .iadd 46, r0 .iaload 47]
def mt170_1 : List RI := [r0 .isub 48, r0 .iastore 49, r0 (.iload_n 3) 50, r0 (.aload_n 0) 51, r0 (.iload_n 1) 52, ri (.invokevirtual 243) 53 166 2 0 1 5 1072, rv (.iconst (-1)) 56 0 (-1), ra (.if_icmp .ne 10) 57 44, rv (.iconst 1) 60 0 1, r0 (.iload 4) 61, r0 .ishl 63, ra (.goto 4) 64 45, rv (.iconst 0) 67 0 0, r0 .ior 68, r0 (.istore_n 3) 69, r0 (.aload_n 0) 70, rf (.getfield 16) 71 5 3 0 777, rv (.iconst 3) 74 0 3, r0 (.iload 4) 75, r0 .imul 77, rv (.iconst 1) 78 0 1, r0 .iadd 79, rv (.iconst 1) 80 0 1, r0 (.aload_n 0) 81, rf (.getfield 16) 82 5 3 0 777, rv (.iconst 3) 85 0 3, r0 (.iload 4) 86, r0 .imul 88, rv (.iconst 1) 89 0 1, r0 .iadd 90, r0 .iaload 91, r0 .isub 92]
def mt170_2 : List RI := [r0 .iastore 93, rv (.iinc 4 1) 94 0 1, ra (.goto (-80)) 97 12, r0 (.iload_n 3) 100, r0 .ireturn 101]
def mt170 : List (List RI) := [mt170_0, mt170_1, mt170_2]
def mt171_0 : List RI := [r0 (.aload_n 0) 0, r0 (.iload_n 1) 1, ri (.invokevirtual 240) 2 165 2 0 1 5 1068, r0 (.istore 4) 5, r0 (.iload 4) 7, ra (.ifCond .eq 6) 9 8, r0 (.iload 4) 12, r0 .ireturn 14, r0 (.aload_n 0) 15, r0 (.iload_n 2) 16, ri (.invokevirtual 179) 17 107 2 0 1 5 960, ra (.ifCond .ne 6) 20 14, rv (.bipush (-5)) 23 0 (-5), r0 .ireturn 25, r0 (.iload_n 3) 26, rv (.iconst 0) 27 0 0, rv (.iconst 1) 28 0 1, ri (.invokestatic 75) 29 104 3 1 1 5 735, ra (.ifCond .ne 6) 32 21, rv (.bipush (-7)) 35 0 (-7), r0 .ireturn 37, r0 (.aload_n 0) 38, rf (.getfield 16) 39 5 3 0 777, rv (.iconst 3) 42 0 3, r0 (.iload_n 2) 43, r0 .imul 44, rv (.iconst 2) 45 0 2, r0 .iadd 46, r0 .iaload 47, r0 (.istore 5) 48, rv (.iconst 0) 50 0 0, r0 (.istore 6) 51]
def mt171_1 : List RI := [rv (.iconst (-1)) 53 0 (-1), r0 (.istore 7) 54, rv (.iconst 0) 56 0 0, r0 (.istore 8) 57, r0 (.iload 8) 59, rv (.bipush 99) 61 0 99, ra (.if_icmp .gt 72) 63 76, r0 (.aload_n 0) 66, rf (.getfield 16) 67 5 3 0 777, rv (.iconst 3) 70 0 3, r0 (.iload_n 2) 71, r0 .imul 72, rv (.iconst 2) 73 0 2, r0 .iadd 74, r0 (.iload 8) 75, r0 .iastore 77, r0 (.aload_n 0) 78, r0 (.iload_n 1) 79, ri (.invokevirtual 243) 80 166 2 0 1 5 1072, rv (.iconst (-1)) 83 0 (-1), ra (.if_icmp .ne 7) 84 55, rv (.iconst 1) 87 0 1, ra (.goto 4) 88 56, rv (.iconst 0) 91 0 0, r0 (.istore 9) 92, r0 (.iload 6) 94, r0 (.iload 9) 96, ra (.ifCond .eq 7) 98 62, rv (.iconst 1) 101 0 1, ra (.goto 4) 102 63, rv (.iconst 0) 105 0 0, r0 .iadd 106]
def mt171_2 : List RI := [r0 (.istore 6) 107, r0 (.iload 9) 109, ra (.ifCond .eq 14) 111 72, r0 (.iload 7) 114, rv (.iconst (-1)) 116 0 (-1), ra (.if_icmp .ne 8) 117 72, r0 (.iload 8) 120, ra (.goto 5) 122 73, r0 (.iload 7) 125, r0 (.istore 7) 127, rv (.iinc 8 1) 129 0 1, ra (.goto (-73)) 132 36, r0 (.aload_n 0) 135, rf (.getfield 16) 136 5 3 0 777, rv (.iconst 3) 139 0 3, r0 (.iload_n 2) 140, r0 .imul 141, rv (.iconst 2) 142 0 2, r0 .iadd 143, r0 (.iload 5) 144, r0 .iastore 146, r0 (.iload_n 3) 147, ra (.ifCond .ne 8) 148 89, r0 (.iload 6) 151, ra (.goto 5) 153 90, r0 (.iload 7) 156, r0 .ireturn 158]
def mt171 : List (List RI) := [mt171_0, mt171_1, mt171_2]
def mt172_0 : List RI := [r0 (.aload_n 0) 0, r0 (.iload_n 1) 1, ri (.invokevirtual 240) 2 165 2 0 1 5 1068, r0 (.istore_n 2) 5, r0 (.iload_n 2) 6, ra (.ifCond .eq 5) 7 8, r0 (.iload_n 2) 10, r0 .ireturn 11, r0 (.aload_n 0) 12, rf (.getfield 92) 13 5 10 0 784, r0 (.istore_n 3) 16, rv (.iconst 0) 17 0 0, r0 (.istore 4) 18, rv (.iconst 0) 20 0 0, r0 (.istore 5) 21, r0 (.iload 5) 23, r0 (.aload_n 0) 25, rf (.getfield 89) 26 5 9 0 783, ra (.if_icmp .ge 37) 29 37, r0 (.aload_n 0) 32, r0 (.iload 5) 33, rf (.putfield 92) 35 5 10 0 784, r0 (.iload 4) 38, r0 (.aload_n 0) 40, r0 (.iload_n 1) 41, ri (.invokevirtual 243) 42 166 2 0 1 5 1072, rv (.iconst (-1)) 45 0 (-1), ra (.if_icmp .ne 10) 46 32, rv (.iconst 1) 49 0 1, r0 (.iload 5) 50, r0 .ishl 52, ra (.goto 4) 53 33]
def mt172_1 : List RI := [rv (.iconst 0) 56 0 0, r0 .ior 57, r0 (.istore 4) 58, rv (.iinc 5 1) 60 0 1, ra (.goto (-40)) 63 15, r0 (.aload_n 0) 66, r0 (.iload_n 3) 67, rf (.putfield 92) 68 5 10 0 784, r0 (.iload 4) 71, r0 .ireturn 73]
def mt172 : List (List RI) := [mt172_0, mt172_1]
def mt173_0 : List RI := [r0 (.iload_n 1) 0, rv (.iconst 0) 1 0 0, rv (.iconst 3) 2 0 3, ri (.invokestatic 75) 3 104 3 1 1 5 735, ra (.ifCond .ne 6) 6 7, rv (.bipush (-2)) 9 0 (-2), r0 .ireturn 11, r0 (.iload_n 2) 12, rv (.iconst 0) 13 0 0, rv (.bipush 24) 14 0 24, ri (.invokestatic 75) 16 104 3 1 1 5 735, ra (.ifCond .ne 6) 19 14, rv (.bipush (-7)) 22 0 (-7), r0 .ireturn 24, r0 (.aload_n 0) 25, rf (.getfield 37) 26 5 14 0 788, r0 (.iload_n 1) 29, rv (.iconst 0) 30 0 0, r0 .iastore 31, r0 (.aload_n 0) 32, rf (.getfield 40) 33 5 15 0 789, r0 (.iload_n 1) 36, r0 (.iload_n 2) 37, r0 .iastore 38, r0 (.aload_n 0) 39, ri (.invokevirtual 209) 40 148 1 0 0 5 1000, rv (.iconst 0) 43 0 0, r0 (.istore_n 3) 44, r0 (.iload_n 3) 45, rv (.bipush 40) 46 0 40, ra (.if_icmp .ge 35) 48 50, r0 (.aload_n 0) 51]
def mt173_1 : List RI := [rf (.getfield 43) 52 5 16 0 790, rv (.bipush 40) 55 0 40, r0 (.iload_n 1) 57, r0 .imul 58, r0 (.iload_n 3) 59, r0 .iadd 60, r0 (.iload_n 3) 61, r0 (.iload_n 2) 62, ra (.if_icmp .ge 12) 63 46, r0 (.aload_n 0) 66, ri (.invokevirtual 203) 67 145 1 0 1 5 984, rv (.iconst 1) 70 0 1, r0 .iadd 71, ra (.goto 4) 72 47, rv (.iconst 0) 75 0 0, r0 .iastore 76, rv (.iinc 3 1) 77 0 1, ra (.goto (-35)) 80 28, r0 (.aload_n 0) 83, ri (.invokevirtual 215) 84 149 1 0 0 5 1008, r0 (.iload_n 2) 87, r0 .ireturn 88]
def mt173 : List (List RI) := [mt173_0, mt173_1]
def mt174_0 : List RI := [r0 (.iload_n 1) 0, r0 .i2l 1, rw (.lconst 1) 2 0 1, r0 .ladd 3, r0 (.lstore_n 2) 4, rv (.iconst 0) 5 0 0, r0 (.istore 4) 6, r0 (.aload_n 0) 8, ri (.invokevirtual 209) 9 148 1 0 0 5 1000, rv (.iconst 0) 12 0 0, r0 (.istore 5) 13, r0 (.iload 5) 15, rv (.bipush 12) 17 0 12, ra (.if_icmp .ge 92) 19 63, r0 (.lload_n 2) 22, rw (.ldc2_w 246) 23 1109 48271, r0 .lmul 26, rw (.ldc2_w 248) 27 1110 2147483647, r0 .lrem 30, r0 (.lstore_n 2) 31, r0 (.lload_n 2) 32, rw (.ldc2_w 250) 33 1111 6, r0 .lrem 36, r0 .l2i 37, r0 (.istore 6) 38, r0 (.lload_n 2) 40, rw (.ldc2_w 246) 41 1109 48271, r0 .lmul 44, rw (.ldc2_w 248) 45 1110 2147483647, r0 .lrem 48, r0 (.lstore_n 2) 49, r0 (.iload 6) 50]
def mt174_1 : List RI := [r0 (.aload_n 0) 52, rf (.getfield 72) 53 5 0 0 774, ra (.if_icmp .ge 31) 56 51, r0 (.aload_n 0) 59, rf (.getfield 16) 60 5 3 0 777, rv (.iconst 3) 63 0 3, r0 (.iload 6) 64, r0 .imul 66, r0 (.aload_n 0) 67, r0 (.iload 6) 68, ri (.invokevirtual 79) 70 108 2 0 1 5 895, ra (.ifCond .eq 12) 73 49, r0 (.lload_n 2) 76, rw (.ldc2_w 252) 77 1112 64, r0 .lrem 80, r0 .l2i 81, ra (.goto 4) 82 50, rv (.iconst (-1)) 85 0 (-1), r0 .iastore 86, r0 (.iload 4) 87, r0 (.aload_n 0) 89, ri (.invokevirtual 203) 90 145 1 0 1 5 984, rv (.iconst (-1)) 93 0 (-1), ra (.if_icmp .ne 7) 94 58, rv (.iconst 0) 97 0 0, ra (.goto 4) 98 59, rv (.iconst 1) 101 0 1, r0 .iadd 102, r0 (.istore 4) 103, rv (.iinc 5 1) 105 0 1, ra (.goto (-93)) 108 11, r0 (.aload_n 0) 111]
def mt174_2 : List RI := [r0 (.aload_n 0) 112, ri (.invokevirtual 104) 113 112 1 0 1 5 936, rf (.putfield 254) 116 5 31 0 805, r0 (.aload_n 0) 119, ri (.invokevirtual 215) 120 149 1 0 0 5 1008, r0 (.iload 4) 123, r0 .ireturn 125]
def mt174 : List (List RI) := [mt174_0, mt174_1, mt174_2]
def mt175_0 : List RI := [r0 (.iload_n 1) 0, rv (.iconst 0) 1 0 0, rv (.ldc_w 257) 2 1104 99999, ri (.invokestatic 75) 5 104 3 1 1 5 735, ra (.ifCond .eq 12) 8 10, r0 (.iload_n 2) 11, rv (.iconst 0) 12 0 0, rv (.iconst 1) 13 0 1, ri (.invokestatic 75) 14 104 3 1 1 5 735, ra (.ifCond .ne 6) 17 12, rv (.bipush (-2)) 20 0 (-2), r0 .ireturn 22, r0 (.aload_n 0) 23, r0 (.iload_n 1) 24, ri (.invokevirtual 258) 25 174 2 0 1 5 1105, r0 (.istore_n 3) 28, r0 (.iload_n 2) 29, ra (.ifCond .ne 7) 30 20, r0 (.iload_n 3) 33, ra (.goto 7) 34 22, r0 (.aload_n 0) 37, rf (.getfield 254) 38 5 31 0 805, r0 .ireturn 41]
def mt175 : List (List RI) := [mt175_0]
def mt176_0 : List RI := [r0 (.iload_n 1) 0, rv (.iconst 0) 1 0 0, rv (.ldc_w 257) 2 1104 99999, ri (.invokestatic 75) 5 104 3 1 1 5 735, ra (.ifCond .eq 33) 8 20, r0 (.iload_n 2) 11, rv (.iconst 1) 12 0 1, rv (.bipush 40) 13 0 40, ri (.invokestatic 75) 15 104 3 1 1 5 735, ra (.ifCond .eq 23) 18 20, r0 (.iload_n 3) 21, rv (.iconst 0) 22 0 0, rv (.bipush 12) 23 0 12, ri (.invokestatic 75) 25 104 3 1 1 5 735, ra (.ifCond .eq 13) 28 20, r0 (.iload 4) 31, rv (.iconst 0) 33 0 0, rv (.iconst 1) 34 0 1, ri (.invokestatic 75) 35 104 3 1 1 5 735, ra (.ifCond .ne 7) 38 22, rw (.ldc2_w 238) 41 1063 (-4611686018427387904), r0 .lreturn 44, rw (.lconst 0) 45 0 0, r0 (.lstore 5) 46, rv (.iconst 0) 48 0 0, r0 (.istore 7) 49, r0 (.iload 7) 51, r0 (.iload_n 2) 53, ra (.if_icmp .ge 31) 54 44, r0 (.lload 5) 57, r0 (.aload_n 0) 59, r0 (.iload_n 1) 60]
def mt176_1 : List RI := [r0 (.iload 7) 61, r0 .iadd 63, ri (.invokevirtual 258) 64 174 2 0 1 5 1105, r0 (.iload_n 3) 67, ra (.if_icmp .lt 7) 68 39, rw (.lconst 1) 71 0 1, ra (.goto 4) 72 40, rw (.lconst 0) 75 0 0, r0 .ladd 76, r0 (.lstore 5) 77, rv (.iinc 7 1) 79 0 1, ra (.goto (-31)) 82 26, r0 (.lload 5) 85, r0 (.iload_n 2) 87, r0 .i2l 88, r0 (.iload 4) 89, ri (.invokestatic 234) 91 163 3 1 2 5 1060, r0 .lreturn 94]
def mt176 : List (List RI) := [mt176_0, mt176_1]
def mt177_0 : List RI := [r0 (.aload_n 0) 0, rv (.iconst 1) 1 0 1, rf (.putfield 261) 2 5 11 1 785, rv (.iconst 0) 5 0 0, r0 (.istore_n 1) 6, r0 (.iload_n 1) 7, rv (.bipush 18) 8 0 18, ra (.if_icmp .ge 21) 10 18, r0 (.aload_n 0) 13, rf (.getfield 31) 14 5 12 0 786, r0 (.iload_n 1) 17, r0 (.aload_n 0) 18, rf (.getfield 16) 19 5 3 0 777, r0 (.iload_n 1) 22, r0 .iaload 23, r0 .iastore 24, rv (.iinc 1 1) 25 0 1, ra (.goto (-21)) 28 5, rv (.iconst 0) 31 0 0, r0 (.istore_n 1) 32, r0 (.iload_n 1) 33, rv (.iconst 4) 34 0 4, ra (.if_icmp .ge 24) 35 35, r0 (.aload_n 0) 38, rf (.getfield 31) 39 5 12 0 786, rv (.bipush 18) 42 0 18, r0 (.iload_n 1) 44, r0 .iadd 45, r0 (.aload_n 0) 46, rf (.getfield 19) 47 5 4 0 778, r0 (.iload_n 1) 50, r0 .iaload 51]
def mt177_1 : List RI := [r0 .iastore 52, rv (.iinc 1 1) 53 0 1, ra (.goto (-23)) 56 20, r0 (.aload_n 0) 59, rf (.getfield 34) 60 5 13 0 787, rv (.iconst 0) 63 0 0, r0 (.aload_n 0) 64, rf (.getfield 72) 65 5 0 0 774, r0 .iastore 68, r0 (.aload_n 0) 69, rf (.getfield 34) 70 5 13 0 787, rv (.iconst 1) 73 0 1, r0 (.aload_n 0) 74, rf (.getfield 92) 75 5 10 0 784, r0 .iastore 78, r0 (.aload_n 0) 79, rf (.getfield 72) 80 5 0 0 774, r0 .ireturn 83]
def mt177 : List (List RI) := [mt177_0, mt177_1]
def mt178_0 : List RI := [r0 (.aload_n 0) 0, rf (.getfield 261) 1 5 11 1 785, ra (.ifCond .ne 6) 4 5, rv (.bipush (-3)) 7 0 (-3), r0 .ireturn 9, rv (.iconst 0) 10 0 0, r0 (.istore_n 1) 11, r0 (.iload_n 1) 12, rv (.bipush 18) 13 0 18, ra (.if_icmp .ge 21) 15 20, r0 (.aload_n 0) 18, rf (.getfield 16) 19 5 3 0 777, r0 (.iload_n 1) 22, r0 (.aload_n 0) 23, rf (.getfield 31) 24 5 12 0 786, r0 (.iload_n 1) 27, r0 .iaload 28, r0 .iastore 29, rv (.iinc 1 1) 30 0 1, ra (.goto (-21)) 33 7, rv (.iconst 0) 36 0 0, r0 (.istore_n 1) 37, r0 (.iload_n 1) 38, rv (.iconst 4) 39 0 4, ra (.if_icmp .ge 24) 40 37, r0 (.aload_n 0) 43, rf (.getfield 19) 44 5 4 0 778, r0 (.iload_n 1) 47, r0 (.aload_n 0) 48, rf (.getfield 31) 49 5 12 0 786, rv (.bipush 18) 52 0 18, r0 (.iload_n 1) 54]
def mt178_1 : List RI := [r0 .iadd 55, r0 .iaload 56, r0 .iastore 57, rv (.iinc 1 1) 58 0 1, ra (.goto (-23)) 61 22, r0 (.aload_n 0) 64, r0 (.aload_n 0) 65, rf (.getfield 34) 66 5 13 0 787, rv (.iconst 0) 69 0 0, r0 .iaload 70, rf (.putfield 72) 71 5 0 0 774, r0 (.aload_n 0) 74, r0 (.aload_n 0) 75, rf (.getfield 34) 76 5 13 0 787, rv (.iconst 1) 79 0 1, r0 .iaload 80, rf (.putfield 92) 81 5 10 0 784, r0 (.aload_n 0) 84, rf (.getfield 72) 85 5 0 0 774, r0 .ireturn 88]
def mt178 : List (List RI) := [mt178_0, mt178_1]
def mt179_0 : List RI := [r0 (.iload_n 1) 0, rv (.iconst 0) 1 0 0, rv (.iconst 3) 2 0 3, ri (.invokestatic 75) 3 104 3 1 1 5 735, ra (.ifCond .eq 23) 6 16, r0 (.iload_n 2) 9, rv (.iconst (-1)) 10 0 (-1), rv (.iconst 2) 11 0 2, ri (.invokestatic 75) 12 104 3 1 1 5 735, ra (.ifCond .eq 14) 15 16, r0 (.iload_n 2) 18, rv (.iconst (-1)) 19 0 (-1), ra (.if_icmp .eq 12) 20 18, r0 (.iload_n 3) 23, rv (.bipush 40) 24 0 40, ra (.if_icmp .le 6) 26 18, rv (.bipush (-2)) 29 0 (-2), r0 .ireturn 31, r0 (.iload_n 2) 32, rv (.iconst (-1)) 33 0 (-1), ra (.if_icmp .eq 10) 34 25, r0 (.iload_n 3) 37, ra (.ifCond .ge 6) 38 25, rv (.bipush (-14)) 41 0 (-14), r0 .ireturn 43, r0 (.aload_n 0) 44, rf (.getfield 37) 45 5 14 0 788, r0 (.iload_n 1) 48, r0 (.iload_n 2) 49, r0 .iastore 50, r0 (.aload_n 0) 51, rf (.getfield 40) 52 5 15 0 789]
def mt179_1 : List RI := [r0 (.iload_n 1) 55, r0 (.iload_n 2) 56, rv (.iconst (-1)) 57 0 (-1), ra (.if_icmp .ne 7) 58 38, rv (.iconst 0) 61 0 0, ra (.goto 4) 62 39, r0 (.iload_n 3) 65, r0 .iastore 66, rv (.iconst 0) 67 0 0, r0 (.istore 4) 68, r0 (.iload 4) 70, rv (.bipush 40) 72 0 40, ra (.if_icmp .ge 22) 74 56, r0 (.aload_n 0) 77, rf (.getfield 43) 78 5 16 0 790, rv (.bipush 40) 81 0 40, r0 (.iload_n 1) 83, r0 .imul 84, r0 (.iload 4) 85, r0 .iadd 87, rv (.iconst 0) 88 0 0, r0 .iastore 89, rv (.iinc 4 1) 90 0 1, ra (.goto (-23)) 93 42, rv (.iconst 1) 96 0 1, r0 .ireturn 97]
def mt179 : List (List RI) := [mt179_0, mt179_1]
def mt180_0 : List RI := [r0 (.iload_n 1) 0, rv (.iconst 0) 1 0 0, rv (.iconst 3) 2 0 3, ri (.invokestatic 75) 3 104 3 1 1 5 735, ra (.ifCond .ne 6) 6 7, rv (.bipush (-2)) 9 0 (-2), r0 .ireturn 11, r0 (.aload_n 0) 12, rf (.getfield 37) 13 5 14 0 788, r0 (.iload_n 1) 16, r0 .iaload 17, rv (.iconst (-1)) 18 0 (-1), ra (.if_icmp .ne 6) 19 15, rv (.bipush (-11)) 22 0 (-11), r0 .ireturn 24, r0 (.iload_n 2) 25, rv (.iconst 0) 26 0 0, r0 (.aload_n 0) 27, rf (.getfield 40) 28 5 15 0 789, r0 (.iload_n 1) 31, r0 .iaload 32, rv (.iconst 1) 33 0 1, r0 .isub 34, ri (.invokestatic 75) 35 104 3 1 1 5 735, ra (.ifCond .ne 6) 38 27, rv (.bipush (-12)) 41 0 (-12), r0 .ireturn 43, r0 (.aload_n 0) 44, rf (.getfield 43) 45 5 16 0 790, rv (.bipush 40) 48 0 40, r0 (.iload_n 1) 50, r0 .imul 51]
def mt180_1 : List RI := [r0 (.iload_n 2) 52, r0 .iadd 53, r0 (.aload_n 0) 54, rf (.getfield 37) 55 5 14 0 788, r0 (.iload_n 1) 58, r0 .iaload 59, ra (.ifCond .ne 8) 60 42, r0 (.iload_n 3) 63, r0 .i2b 64, ra (.goto 19) 65 52, r0 (.aload_n 0) 68, rf (.getfield 37) 69 5 14 0 788, r0 (.iload_n 1) 72, r0 .iaload 73, rv (.iconst 1) 74 0 1, ra (.if_icmp .ne 8) 75 51, r0 (.iload_n 3) 78, r0 .i2s 79, ra (.goto 4) 80 52, r0 (.iload_n 3) 83, r0 .iastore 84, rv (.iconst 1) 85 0 1, r0 .ireturn 86]
def mt180 : List (List RI) := [mt180_0, mt180_1]
def mt181_0 : List RI := [r0 (.iload_n 1) 0, rv (.iconst 0) 1 0 0, rv (.iconst 3) 2 0 3, ri (.invokestatic 75) 3 104 3 1 1 5 735, ra (.ifCond .eq 12) 6 10, r0 (.iload_n 3) 9, rv (.iconst 0) 10 0 0, rv (.iconst 3) 11 0 3, ri (.invokestatic 75) 12 104 3 1 1 5 735, ra (.ifCond .ne 6) 15 12, rv (.bipush (-2)) 18 0 (-2), r0 .ireturn 20, r0 (.aload_n 0) 21, rf (.getfield 37) 22 5 14 0 788, r0 (.iload_n 1) 25, r0 .iaload 26, rv (.iconst (-1)) 27 0 (-1), ra (.if_icmp .eq 13) 28 24, r0 (.aload_n 0) 31, rf (.getfield 37) 32 5 14 0 788, r0 (.iload_n 3) 35, r0 .iaload 36, rv (.iconst (-1)) 37 0 (-1), ra (.if_icmp .ne 6) 38 26, rv (.bipush (-11)) 41 0 (-11), r0 .ireturn 43, r0 (.aload_n 0) 44, rf (.getfield 37) 45 5 14 0 788, r0 (.iload_n 1) 48, r0 .iaload 49, r0 (.aload_n 0) 50, rf (.getfield 37) 51 5 14 0 788]
def mt181_1 : List RI := [r0 (.iload_n 3) 54, r0 .iaload 55, ra (.if_icmp .eq 6) 56 37, rv (.bipush (-13)) 59 0 (-13), r0 .ireturn 61, r0 (.iload 5) 62, ra (.ifCond .lt 60) 64 71, r0 (.iload_n 2) 67, ra (.ifCond .lt 56) 68 71, r0 (.iload 4) 71, ra (.ifCond .lt 51) 73 71, r0 (.iload_n 2) 76, r0 (.aload_n 0) 77, rf (.getfield 40) 78 5 15 0 789, r0 (.iload_n 1) 81, r0 .iaload 82, ra (.if_icmp .gt 41) 83 71, r0 (.iload 4) 86, r0 (.aload_n 0) 88, rf (.getfield 40) 89 5 15 0 789, r0 (.iload_n 3) 92, r0 .iaload 93, ra (.if_icmp .gt 30) 94 71, r0 (.iload 5) 97, r0 (.aload_n 0) 99, rf (.getfield 40) 100 5 15 0 789, r0 (.iload_n 1) 103, r0 .iaload 104, r0 (.iload_n 2) 105, r0 .isub 106, ra (.if_icmp .gt 17) 107 71, r0 (.iload 5) 110]
def mt181_2 : List RI := [r0 (.aload_n 0) 112, rf (.getfield 40) 113 5 15 0 789, r0 (.iload_n 3) 116, r0 .iaload 117, r0 (.iload 4) 118, r0 .isub 120, ra (.if_icmp .le 6) 121 73, rv (.bipush (-12)) 124 0 (-12), r0 .ireturn 126, rv (.bipush 40) 127 0 40, r0 (.iload_n 1) 129, r0 .imul 130, r0 (.iload_n 2) 131, r0 .iadd 132, r0 (.istore 6) 133, rv (.bipush 40) 135 0 40, r0 (.iload_n 3) 137, r0 .imul 138, r0 (.iload 4) 139, r0 .iadd 141, r0 (.istore 7) 142, rv (.iconst 0) 144 0 0, r0 (.istore 8) 145, r0 (.iload 8) 147, r0 (.iload 5) 149, ra (.if_icmp .ge 50) 151 115, r0 (.iload 6) 154, r0 (.iload 7) 156, ra (.if_icmp .ge 13) 158 99, r0 (.iload 5) 161, rv (.iconst 1) 163 0 1, r0 .isub 164]
def mt181_3 : List RI := [r0 (.iload 8) 165, r0 .isub 167, ra (.goto 5) 168 100, r0 (.iload 8) 171, r0 (.istore 9) 173, r0 (.aload_n 0) 175, rf (.getfield 43) 176 5 16 0 790, r0 (.iload 7) 179, r0 (.iload 9) 181, r0 .iadd 183, r0 (.aload_n 0) 184, rf (.getfield 43) 185 5 16 0 790, r0 (.iload 6) 188, r0 (.iload 9) 190, r0 .iadd 192, r0 .iaload 193, r0 .iastore 194, rv (.iinc 8 1) 195 0 1, ra (.goto (-51)) 198 87, r0 (.iload 5) 201, r0 .ireturn 203]
def mt181 : List (List RI) := [mt181_0, mt181_1, mt181_2, mt181_3]
def mt182_0 : List RI := [r0 (.iload_n 1) 0, rv (.iconst 0) 1 0 0, rv (.iconst 3) 2 0 3, ri (.invokestatic 75) 3 104 3 1 1 5 735, ra (.ifCond .eq 23) 6 15, r0 (.iload_n 2) 9, rv (.iconst 0) 10 0 0, rv (.iconst 2) 11 0 2, ri (.invokestatic 75) 12 104 3 1 1 5 735, ra (.ifCond .eq 14) 15 15, r0 (.iload 4) 18, rv (.iconst 0) 20 0 0, rv (.bipush 6) 21 0 6, ri (.invokestatic 75) 23 104 3 1 1 5 735, ra (.ifCond .ne 6) 26 17, rv (.bipush (-2)) 29 0 (-2), r0 .ireturn 31, r0 (.aload_n 0) 32, rf (.getfield 37) 33 5 14 0 788, r0 (.iload_n 1) 36, r0 .iaload 37, rv (.iconst (-1)) 38 0 (-1), ra (.if_icmp .ne 6) 39 25, rv (.bipush (-11)) 42 0 (-11), r0 .ireturn 44, r0 (.aload_n 0) 45, rf (.getfield 37) 46 5 14 0 788, r0 (.iload_n 1) 49, r0 .iaload 50, r0 (.iload_n 2) 51, ra (.if_icmp .eq 6) 52 33, rv (.bipush (-13)) 55 0 (-13)]
def mt182_1 : List RI := [r0 .ireturn 57, rv (.iconst 0) 58 0 0, r0 (.istore 5) 59, rv (.iconst 0) 61 0 0, r0 (.istore 6) 62, r0 (.iload 6) 64, r0 (.iload 4) 66, ra (.if_icmp .ge 85) 68 88, r0 (.iload_n 3) 71, rv (.iconst 2) 72 0 2, r0 (.iload 6) 73, r0 .imul 75, r0 .iadd 76, r0 (.istore 7) 77, r0 (.iload_n 3) 79, ra (.ifCond .lt 22) 80 59, r0 (.iload 7) 83, r0 (.iload_n 3) 85, ra (.if_icmp .lt 16) 86 59, r0 (.iload 7) 89, r0 (.aload_n 0) 91, rf (.getfield 40) 92 5 15 0 789, r0 (.iload_n 1) 95, r0 .iaload 96, rv (.iconst 2) 97 0 2, r0 .isub 98, ra (.if_icmp .le 6) 99 61, rv (.bipush (-12)) 102 0 (-12), r0 .ireturn 104, rv (.bipush 40) 105 0 40, r0 (.iload_n 1) 107, r0 .imul 108]
def mt182_2 : List RI := [r0 (.iload 7) 109, r0 .iadd 111, r0 (.istore 8) 112, r0 (.iload 5) 114, r0 (.aload_n 0) 116, r0 (.aload_n 0) 117, rf (.getfield 43) 118 5 16 0 790, r0 (.iload 8) 121, r0 .iaload 123, r0 (.aload_n 0) 124, rf (.getfield 43) 125 5 16 0 790, r0 (.iload 8) 128, rv (.iconst 1) 130 0 1, r0 .iadd 131, r0 .iaload 132, ri (.invokevirtual 265) 133 134 3 0 1 5 1141, ra (.ifCond .lt 7) 136 83, rv (.iconst 1) 139 0 1, ra (.goto 4) 140 84, rv (.iconst 0) 143 0 0, r0 .iadd 144, r0 (.istore 5) 145, rv (.iinc 6 1) 147 0 1, ra (.goto (-86)) 150 37, r0 (.iload 5) 153, r0 .ireturn 155]
def mt182 : List (List RI) := [mt182_0, mt182_1, mt182_2]
def mt183_0 : List RI := [r0 (.iload_n 1) 0, ra (.ifCond .eq 28) 1 17, r0 (.iload_n 0) 4, r0 (.iload_n 1) 5, ra (.if_icmp .eq 23) 6 17, r0 (.iload_n 1) 9, rv (.iconst 1) 10 0 1, ra (.if_icmp .ne 8) 11 11, r0 (.iload_n 0) 14, rv (.iconst 3) 15 0 3, ra (.if_icmp .eq 13) 16 17, r0 (.iload_n 1) 19, rv (.iconst 2) 20 0 2, ra (.if_icmp .ne 12) 21 19, r0 (.iload_n 0) 24, rv (.iconst 4) 25 0 4, ra (.if_icmp .ne 7) 26 19, rv (.iconst 1) 29 0 1, ra (.goto 4) 30 20, rv (.iconst 0) 33 0 0, ra .ireturn 34 1]
def mt183 : List (List RI) := [mt183_0]
def mt184_0 : List RI := [r0 (.iload_n 2) 0, rv (.iconst 0) 1 0 0, rv (.bipush 6) 2 0 6, ri (.invokestatic 75) 4 104 3 1 1 5 735, ra (.ifCond .ne 6) 7 7, rv (.bipush (-2)) 10 0 (-2), r0 .ireturn 12, r0 (.iload_n 1) 13, rv (.iconst 0) 14 0 0, rv (.bipush 11) 15 0 11, ri (.invokestatic 75) 17 104 3 1 1 5 735, ra (.ifCond .ne 6) 20 14, rv (.bipush (-12)) 23 0 (-12), r0 .ireturn 25, r0 (.iload_n 1) 26, rv (.bipush 6) 27 0 6, r0 .irem 29, r0 (.aload_n 0) 30, rf (.getfield 72) 31 5 0 0 774, ra (.if_icmp .lt 6) 34 22, rv (.bipush (-11)) 37 0 (-11), r0 .ireturn 39, r0 (.iload_n 1) 40, rv (.bipush 6) 41 0 6, ra (.if_icmp .lt 28) 43 41, r0 (.iload_n 2) 46, rv (.bipush 6) 47 0 6, ra (.if_icmp .ne 19) 49 39, r0 (.aload_n 0) 52, rf (.getfield 16) 53 5 3 0 777, rv (.iconst 3) 56 0 3, r0 (.iload_n 1) 57]
def mt184_1 : List RI := [rv (.bipush 6) 58 0 6, r0 .isub 60, r0 .imul 61, rv (.iconst 2) 62 0 2, r0 .iadd 63, r0 .iaload 64, ra (.goto 5) 65 40, rv (.bipush (-13)) 68 0 (-13), r0 .ireturn 70, r0 (.iload_n 2) 71, rv (.bipush 6) 72 0 6, ra (.if_icmp .ge 20) 74 53, r0 (.aload_n 0) 77, rf (.getfield 7) 78 5 1 0 775, r0 (.iload_n 1) 81, r0 .iaload 82, r0 (.iload_n 2) 83, ri (.invokestatic 268) 84 183 2 1 1 5 1146, ra (.ifCond .eq 7) 87 53, r0 (.iload_n 1) 90, ra (.goto 5) 91 54, rv (.bipush (-13)) 94 0 (-13), r0 .ireturn 96]
def mt184 : List (List RI) := [mt184_0, mt184_1]
def mt185_0 : List RI := [r0 (.new 7) 0, r0 .dup 3, ri (.invokespecial 9) 4 255 0 9 0 0 0, r0 (.astore_n 1) 7, r0 (.new 10) 8, r0 .dup 11, ri (.invokespecial 12) 12 255 0 9 0 0 0, r0 (.astore_n 2) 15, rv (.iconst 0) 16 0 0, r0 (.istore_n 3) 17, r0 (.iload_n 3) 18, r0 (.aload_n 0) 19, ra .arraylength 20 1, rv (.bipush 7) 21 0 7, r0 .isub 23, ra (.if_icmp .gt 1357) 24 989, r0 (.aload_n 0) 27, r0 (.iload_n 3) 28, ra .iaload 29 1, rv (.bipush 63) 30 0 63, r0 .iand 32, rt (.tableswitch 1342 0 35 #[159, 182, 215, 238, 313, 326, 349, 382, 415, 458, 491, 504, 537, 570, 603, 636, 669, 702, 725, 748, 772, 795, 838, 872, 895, 938, 961, 994, 1027, 1081, 1094, 1107, 1150, 1193, 1256, 1309]) 33 987 [(0, 22), (1, 39), (2, 66), (3, 83), (4, 150), (5, 157), (6, 174), (7, 201), (8, 228), (9, 265), (10, 292), (11, 299), (12, 326), (13, 353), (14, 380), (15, 407), (16, 434), (17, 461), (18, 478), (19, 495), (20, 513), (21, 530), (22, 567), (23, 595), (24, 612), (25, 649), (26, 666), (27, 693), (28, 720), (29, 768), (30, 775), (31, 782), (32, 819), (33, 856), (34, 913), (35, 960)], r0 (.aload_n 1) 192, r0 (.aload_n 0) 193, r0 (.iload_n 3) 194, rv (.iconst 1) 195 0 1, r0 .iadd 196, ra .iaload 197 1, ri (.invokevirtual 13) 198 54 2 0 1 4 249, r0 (.aload_n 2) 201, r0 (.aload_n 0) 202, r0 (.iload_n 3) 203]
def mt185_1 : List RI := [rv (.iconst 1) 204 0 1, r0 .iadd 205, ra .iaload 206 1, ri (.invokevirtual 17) 207 113 2 0 1 5 871, ra (.if_icmp .eq 1165) 210 987, rv (.iconst 0) 213 0 0, ra .ireturn 214 1, r0 (.aload_n 1) 215, r0 (.aload_n 0) 216, r0 (.iload_n 3) 217, rv (.iconst 1) 218 0 1, r0 .iadd 219, ra .iaload 220 1, r0 (.aload_n 0) 221, r0 (.iload_n 3) 222, rv (.iconst 2) 223 0 2, r0 .iadd 224, ra .iaload 225 1, ri (.invokevirtual 18) 226 55 3 0 1 4 253, r0 (.aload_n 2) 229, r0 (.aload_n 0) 230, r0 (.iload_n 3) 231, rv (.iconst 1) 232 0 1, r0 .iadd 233, ra .iaload 234 1, r0 (.aload_n 0) 235, r0 (.iload_n 3) 236, rv (.iconst 2) 237 0 2, r0 .iadd 238, ra .iaload 239 1, ri (.invokevirtual 22) 240 114 3 0 1 5 875, ra (.if_icmp .eq 1132) 243 987]
def mt185_2 : List RI := [rv (.iconst 0) 246 0 0, ra .ireturn 247 1, r0 (.aload_n 1) 248, r0 (.aload_n 0) 249, r0 (.iload_n 3) 250, rv (.iconst 1) 251 0 1, r0 .iadd 252, ra .iaload 253 1, ri (.invokevirtual 23) 254 56 2 0 1 4 260, r0 (.aload_n 2) 257, r0 (.aload_n 0) 258, r0 (.iload_n 3) 259, rv (.iconst 1) 260 0 1, r0 .iadd 261, ra .iaload 262 1, ri (.invokevirtual 26) 263 115 2 0 1 5 879, ra (.if_icmp .eq 1109) 266 987, rv (.iconst 0) 269 0 0, ra .ireturn 270 1, r0 (.aload_n 1) 271, r0 (.aload_n 0) 272, r0 (.iload_n 3) 273, rv (.iconst 1) 274 0 1, r0 .iadd 275, ra .iaload 276 1, r0 (.aload_n 0) 277, r0 (.iload_n 3) 278, rv (.iconst 2) 279 0 2, r0 .iadd 280, ra .iaload 281 1, r0 (.aload_n 0) 282, r0 (.iload_n 3) 283]
def mt185_3 : List RI := [rv (.iconst 3) 284 0 3, r0 .iadd 285, ra .iaload 286 1, r0 (.aload_n 0) 287, r0 (.iload_n 3) 288, rv (.iconst 4) 289 0 4, r0 .iadd 290, ra .iaload 291 1, r0 (.aload_n 0) 292, r0 (.iload_n 3) 293, rv (.iconst 5) 294 0 5, r0 .iadd 295, ra .iaload 296 1, r0 (.aload_n 0) 297, r0 (.iload_n 3) 298, rv (.bipush 6) 299 0 6, r0 .iadd 301, ra .iaload 302 1, ri (.invokevirtual 27) 303 57 7 0 1 4 320, r0 (.aload_n 2) 306, r0 (.aload_n 0) 307, r0 (.iload_n 3) 308, rv (.iconst 1) 309 0 1, r0 .iadd 310, ra .iaload 311 1, r0 (.aload_n 0) 312, r0 (.iload_n 3) 313, rv (.iconst 2) 314 0 2, r0 .iadd 315, ra .iaload 316 1, r0 (.aload_n 0) 317, r0 (.iload_n 3) 318]
def mt185_4 : List RI := [rv (.iconst 3) 319 0 3, r0 .iadd 320, ra .iaload 321 1, r0 (.aload_n 0) 322, r0 (.iload_n 3) 323, rv (.iconst 4) 324 0 4, r0 .iadd 325, ra .iaload 326 1, r0 (.aload_n 0) 327, r0 (.iload_n 3) 328, rv (.iconst 5) 329 0 5, r0 .iadd 330, ra .iaload 331 1, r0 (.aload_n 0) 332, r0 (.iload_n 3) 333, rv (.bipush 6) 334 0 6, r0 .iadd 336, ra .iaload 337 1, ri (.invokevirtual 31) 338 117 7 0 1 5 944, ra (.if_icmp .eq 1034) 341 987, rv (.iconst 0) 344 0 0, ra .ireturn 345 1, r0 (.aload_n 1) 346, ri (.invokevirtual 32) 347 58 1 0 1 4 331, r0 (.aload_n 2) 350, ri (.invokevirtual 36) 351 128 1 0 1 5 951, ra (.if_icmp .eq 1021) 354 987, rv (.iconst 0) 357 0 0, ra .ireturn 358 1, r0 (.aload_n 1) 359, r0 (.aload_n 0) 360, r0 (.iload_n 3) 361]
def mt185_5 : List RI := [rv (.iconst 1) 362 0 1, r0 .iadd 363, ra .iaload 364 1, ri (.invokevirtual 37) 365 59 2 0 1 4 466, r0 (.aload_n 2) 368, r0 (.aload_n 0) 369, r0 (.iload_n 3) 370, rv (.iconst 1) 371 0 1, r0 .iadd 372, ra .iaload 373 1, ri (.invokevirtual 40) 374 131 2 0 1 5 952, ra (.if_icmp .eq 998) 377 987, rv (.iconst 0) 380 0 0, ra .ireturn 381 1, r0 (.aload_n 1) 382, r0 (.aload_n 0) 383, r0 (.iload_n 3) 384, rv (.iconst 1) 385 0 1, r0 .iadd 386, ra .iaload 387 1, r0 (.aload_n 0) 388, r0 (.iload_n 3) 389, rv (.iconst 2) 390 0 2, r0 .iadd 391, ra .iaload 392 1, ri (.invokevirtual 41) 393 60 3 0 1 4 470, r0 (.aload_n 2) 396, r0 (.aload_n 0) 397, r0 (.iload_n 3) 398, rv (.iconst 1) 399 0 1, r0 .iadd 400, ra .iaload 401 1]
def mt185_6 : List RI := [r0 (.aload_n 0) 402, r0 (.iload_n 3) 403, rv (.iconst 2) 404 0 2, r0 .iadd 405, ra .iaload 406 1, ri (.invokevirtual 44) 407 133 3 0 1 5 956, ra (.if_icmp .eq 965) 410 987, rv (.iconst 0) 413 0 0, ra .ireturn 414 1, r0 (.aload_n 1) 415, r0 (.aload_n 0) 416, r0 (.iload_n 3) 417, rv (.iconst 1) 418 0 1, r0 .iadd 419, ra .iaload 420 1, r0 (.aload_n 0) 421, r0 (.iload_n 3) 422, rv (.iconst 2) 423 0 2, r0 .iadd 424, ra .iaload 425 1, ri (.invokevirtual 45) 426 61 3 0 1 4 479, r0 (.aload_n 2) 429, r0 (.aload_n 0) 430, r0 (.iload_n 3) 431, rv (.iconst 1) 432 0 1, r0 .iadd 433, ra .iaload 434 1, r0 (.aload_n 0) 435, r0 (.iload_n 3) 436, rv (.iconst 2) 437 0 2, r0 .iadd 438, ra .iaload 439 1]
def mt185_7 : List RI := [ri (.invokevirtual 48) 440 134 3 0 1 5 964, ra (.if_icmp .eq 932) 443 987, rv (.iconst 0) 446 0 0, ra .ireturn 447 1, r0 (.aload_n 1) 448, r0 (.aload_n 0) 449, r0 (.iload_n 3) 450, rv (.iconst 1) 451 0 1, r0 .iadd 452, ra .iaload 453 1, r0 (.aload_n 0) 454, r0 (.iload_n 3) 455, rv (.iconst 2) 456 0 2, r0 .iadd 457, ra .iaload 458 1, r0 (.aload_n 0) 459, r0 (.iload_n 3) 460, rv (.iconst 3) 461 0 3, r0 .iadd 462, ra .iaload 463 1, ri (.invokevirtual 49) 464 62 4 0 1 4 488, r0 (.aload_n 2) 467, r0 (.aload_n 0) 468, r0 (.iload_n 3) 469, rv (.iconst 1) 470 0 1, r0 .iadd 471, ra .iaload 472 1, r0 (.aload_n 0) 473, r0 (.iload_n 3) 474, rv (.iconst 2) 475 0 2, r0 .iadd 476, ra .iaload 477 1]
def mt185_8 : List RI := [r0 (.aload_n 0) 478, r0 (.iload_n 3) 479, rv (.iconst 3) 480 0 3, r0 .iadd 481, ra .iaload 482 1, ri (.invokevirtual 53) 483 135 4 0 1 5 968, ra (.if_icmp .eq 889) 486 987, rv (.iconst 0) 489 0 0, ra .ireturn 490 1, r0 (.aload_n 1) 491, r0 (.aload_n 0) 492, r0 (.iload_n 3) 493, rv (.iconst 1) 494 0 1, r0 .iadd 495, ra .iaload 496 1, r0 (.aload_n 0) 497, r0 (.iload_n 3) 498, rv (.iconst 2) 499 0 2, r0 .iadd 500, ra .iaload 501 1, ri (.invokevirtual 54) 502 63 3 0 1 4 495, r0 (.aload_n 2) 505, r0 (.aload_n 0) 506, r0 (.iload_n 3) 507, rv (.iconst 1) 508 0 1, r0 .iadd 509, ra .iaload 510 1, r0 (.aload_n 0) 511, r0 (.iload_n 3) 512, rv (.iconst 2) 513 0 2, r0 .iadd 514, ra .iaload 515 1]
def mt185_9 : List RI := [ri (.invokevirtual 57) 516 143 3 0 1 5 972, ra (.if_icmp .eq 856) 519 987, rv (.iconst 0) 522 0 0, ra .ireturn 523 1, r0 (.aload_n 1) 524, ri (.invokevirtual 58) 525 64 1 0 1 4 511, r0 (.aload_n 2) 528, ri (.invokevirtual 61) 529 146 1 0 1 5 980, ra (.if_icmp .eq 843) 532 987, rv (.iconst 0) 535 0 0, ra .ireturn 536 1, r0 (.aload_n 1) 537, r0 (.aload_n 0) 538, r0 (.iload_n 3) 539, rv (.iconst 1) 540 0 1, r0 .iadd 541, ra .iaload 542 1, r0 (.aload_n 0) 543, r0 (.iload_n 3) 544, rv (.iconst 2) 545 0 2, r0 .iadd 546, ra .iaload 547 1, ri (.invokevirtual 62) 548 65 3 0 1 4 530, r0 (.aload_n 2) 551, r0 (.aload_n 0) 552, r0 (.iload_n 3) 553, rv (.iconst 1) 554 0 1, r0 .iadd 555, ra .iaload 556 1, r0 (.aload_n 0) 557, r0 (.iload_n 3) 558, rv (.iconst 2) 559 0 2]
def mt185_10 : List RI := [r0 .iadd 560, ra .iaload 561 1, ri (.invokevirtual 65) 562 147 3 0 1 5 992, ra (.if_icmp .eq 810) 565 987, rv (.iconst 0) 568 0 0, ra .ireturn 569 1, r0 (.aload_n 1) 570, r0 (.aload_n 0) 571, r0 (.iload_n 3) 572, rv (.iconst 1) 573 0 1, r0 .iadd 574, ra .iaload 575 1, r0 (.aload_n 0) 576, r0 (.iload_n 3) 577, rv (.iconst 2) 578 0 2, r0 .iadd 579, ra .iaload 580 1, ri (.invokevirtual 66) 581 66 3 0 1 4 535, r0 (.aload_n 2) 584, r0 (.aload_n 0) 585, r0 (.iload_n 3) 586, rv (.iconst 1) 587 0 1, r0 .iadd 588, ra .iaload 589 1, r0 (.aload_n 0) 590, r0 (.iload_n 3) 591, rv (.iconst 2) 592 0 2, r0 .iadd 593, ra .iaload 594 1, ri (.invokevirtual 69) 595 151 3 0 1 5 996, ra (.if_icmp .eq 777) 598 987, rv (.iconst 0) 601 0 0]
def mt185_11 : List RI := [ra .ireturn 602 1, r0 (.aload_n 1) 603, r0 (.aload_n 0) 604, r0 (.iload_n 3) 605, rv (.iconst 1) 606 0 1, r0 .iadd 607, ra .iaload 608 1, r0 (.aload_n 0) 609, r0 (.iload_n 3) 610, rv (.iconst 2) 611 0 2, r0 .iadd 612, ra .iaload 613 1, ri (.invokevirtual 70) 614 67 3 0 1 4 545, r0 (.aload_n 2) 617, r0 (.aload_n 0) 618, r0 (.iload_n 3) 619, rv (.iconst 1) 620 0 1, r0 .iadd 621, ra .iaload 622 1, r0 (.aload_n 0) 623, r0 (.iload_n 3) 624, rv (.iconst 2) 625 0 2, r0 .iadd 626, ra .iaload 627 1, ri (.invokevirtual 73) 628 154 3 0 1 5 1012, ra (.if_icmp .eq 744) 631 987, rv (.iconst 0) 634 0 0, ra .ireturn 635 1, r0 (.aload_n 1) 636, r0 (.aload_n 0) 637, r0 (.iload_n 3) 638, rv (.iconst 1) 639 0 1]
def mt185_12 : List RI := [r0 .iadd 640, ra .iaload 641 1, r0 (.aload_n 0) 642, r0 (.iload_n 3) 643, rv (.iconst 2) 644 0 2, r0 .iadd 645, ra .iaload 646 1, ri (.invokevirtual 74) 647 68 3 0 1 4 550, r0 (.aload_n 2) 650, r0 (.aload_n 0) 651, r0 (.iload_n 3) 652, rv (.iconst 1) 653 0 1, r0 .iadd 654, ra .iaload 655 1, r0 (.aload_n 0) 656, r0 (.iload_n 3) 657, rv (.iconst 2) 658 0 2, r0 .iadd 659, ra .iaload 660 1, ri (.invokevirtual 77) 661 156 3 0 1 5 1024, ra (.if_icmp .eq 711) 664 987, rv (.iconst 0) 667 0 0, ra .ireturn 668 1, r0 (.aload_n 1) 669, r0 (.aload_n 0) 670, r0 (.iload_n 3) 671, rv (.iconst 1) 672 0 1, r0 .iadd 673, ra .iaload 674 1, r0 (.aload_n 0) 675, r0 (.iload_n 3) 676, rv (.iconst 2) 677 0 2]
def mt185_13 : List RI := [r0 .iadd 678, ra .iaload 679 1, ri (.invokevirtual 78) 680 69 3 0 1 4 559, r0 (.aload_n 2) 683, r0 (.aload_n 0) 684, r0 (.iload_n 3) 685, rv (.iconst 1) 686 0 1, r0 .iadd 687, ra .iaload 688 1, r0 (.aload_n 0) 689, r0 (.iload_n 3) 690, rv (.iconst 2) 691 0 2, r0 .iadd 692, ra .iaload 693 1, ri (.invokevirtual 81) 694 157 3 0 1 5 1032, ra (.if_icmp .eq 678) 697 987, rv (.iconst 0) 700 0 0, ra .ireturn 701 1, r0 (.aload_n 1) 702, r0 (.aload_n 0) 703, r0 (.iload_n 3) 704, rv (.iconst 1) 705 0 1, r0 .iadd 706, ra .iaload 707 1, r0 (.aload_n 0) 708, r0 (.iload_n 3) 709, rv (.iconst 2) 710 0 2, r0 .iadd 711, ra .iaload 712 1, ri (.invokevirtual 82) 713 70 3 0 1 4 567, r0 (.aload_n 2) 716, r0 (.aload_n 0) 717]
def mt185_14 : List RI := [r0 (.iload_n 3) 718, rv (.iconst 1) 719 0 1, r0 .iadd 720, ra .iaload 721 1, r0 (.aload_n 0) 722, r0 (.iload_n 3) 723, rv (.iconst 2) 724 0 2, r0 .iadd 725, ra .iaload 726 1, ri (.invokevirtual 85) 727 158 3 0 1 5 1036, ra (.if_icmp .eq 645) 730 987, rv (.iconst 0) 733 0 0, ra .ireturn 734 1, r0 (.aload_n 1) 735, r0 (.aload_n 0) 736, r0 (.iload_n 3) 737, rv (.iconst 1) 738 0 1, r0 .iadd 739, ra .iaload 740 1, ri (.invokevirtual 86) 741 71 2 0 1 4 575, r0 (.aload_n 2) 744, r0 (.aload_n 0) 745, r0 (.iload_n 3) 746, rv (.iconst 1) 747 0 1, r0 .iadd 748, ra .iaload 749 1, ri (.invokevirtual 89) 750 160 2 0 1 5 1040, ra (.if_icmp .eq 622) 753 987, rv (.iconst 0) 756 0 0, ra .ireturn 757 1, r0 (.aload_n 1) 758, r0 (.aload_n 0) 759]
def mt185_15 : List RI := [r0 (.iload_n 3) 760, rv (.iconst 1) 761 0 1, r0 .iadd 762, ra .iaload 763 1, ri (.invokevirtual 90) 764 72 2 0 1 4 589, r0 (.aload_n 2) 767, r0 (.aload_n 0) 768, r0 (.iload_n 3) 769, rv (.iconst 1) 770 0 1, r0 .iadd 771, ra .iaload 772 1, ri (.invokevirtual 93) 773 162 2 0 1 5 1048, ra (.if_icmp .eq 599) 776 987, rv (.iconst 0) 779 0 0, ra .ireturn 780 1, r0 (.aload_n 1) 781, r0 (.aload_n 0) 782, r0 (.iload_n 3) 783, rv (.iconst 1) 784 0 1, r0 .iadd 785, ra .iaload 786 1, ri (.invokevirtual 94) 787 73 2 0 2 4 597, r0 (.aload_n 2) 790, r0 (.aload_n 0) 791, r0 (.iload_n 3) 792, rv (.iconst 1) 793 0 1, r0 .iadd 794, ra .iaload 795 1, ri (.invokevirtual 98) 796 164 2 0 2 5 1056, r0 .lcmp 799, ra (.ifCond .eq 575) 800 987, rv (.iconst 0) 803 0 0]
def mt185_16 : List RI := [ra .ireturn 804 1, r0 (.aload_n 1) 805, r0 (.aload_n 0) 806, r0 (.iload_n 3) 807, rv (.iconst 1) 808 0 1, r0 .iadd 809, ra .iaload 810 1, ri (.invokevirtual 99) 811 74 2 0 1 4 606, r0 (.aload_n 2) 814, r0 (.aload_n 0) 815, r0 (.iload_n 3) 816, rv (.iconst 1) 817 0 1, r0 .iadd 818, ra .iaload 819 1, ri (.invokevirtual 102) 820 167 2 0 1 5 1064, ra (.if_icmp .eq 552) 823 987, rv (.iconst 0) 826 0 0, ra .ireturn 827 1, r0 (.aload_n 1) 828, r0 (.aload_n 0) 829, r0 (.iload_n 3) 830, rv (.iconst 1) 831 0 1, r0 .iadd 832, ra .iaload 833 1, r0 (.aload_n 0) 834, r0 (.iload_n 3) 835, rv (.iconst 2) 836 0 2, r0 .iadd 837, ra .iaload 838 1, r0 (.aload_n 0) 839, r0 (.iload_n 3) 840, rv (.iconst 3) 841 0 3]
def mt185_17 : List RI := [r0 .iadd 842, ra .iaload 843 1, ri (.invokevirtual 103) 844 75 4 0 1 4 626, r0 (.aload_n 2) 847, r0 (.aload_n 0) 848, r0 (.iload_n 3) 849, rv (.iconst 1) 850 0 1, r0 .iadd 851, ra .iaload 852 1, r0 (.aload_n 0) 853, r0 (.iload_n 3) 854, rv (.iconst 2) 855 0 2, r0 .iadd 856, ra .iaload 857 1, r0 (.aload_n 0) 858, r0 (.iload_n 3) 859, rv (.iconst 3) 860 0 3, r0 .iadd 861, ra .iaload 862 1, ri (.invokevirtual 106) 863 168 4 0 1 5 1076, ra (.if_icmp .eq 509) 866 987, rv (.iconst 0) 869 0 0, ra .ireturn 870 1, r0 (.aload_n 1) 871, r0 (.aload_n 0) 872, r0 (.iload_n 3) 873, rv (.iconst 1) 874 0 1, r0 .iadd 875, ra .iaload 876 1, r0 (.aload_n 0) 877, r0 (.iload_n 3) 878, rv (.iconst 2) 879 0 2]
def mt185_18 : List RI := [r0 .iadd 880, ra .iaload 881 1, ri (.invokevirtual 107) 882 76 3 0 2 4 630, r0 (.aload_n 2) 885, r0 (.aload_n 0) 886, r0 (.iload_n 3) 887, rv (.iconst 1) 888 0 1, r0 .iadd 889, ra .iaload 890 1, r0 (.aload_n 0) 891, r0 (.iload_n 3) 892, rv (.iconst 2) 893 0 2, r0 .iadd 894, ra .iaload 895 1, ri (.invokevirtual 111) 896 169 3 0 2 5 1080, r0 .lcmp 899, ra (.ifCond .eq 475) 900 987, rv (.iconst 0) 903 0 0, ra .ireturn 904 1, r0 (.aload_n 1) 905, r0 (.aload_n 0) 906, r0 (.iload_n 3) 907, rv (.iconst 1) 908 0 1, r0 .iadd 909, ra .iaload 910 1, ri (.invokevirtual 112) 911 77 2 0 1 4 634, r0 (.aload_n 2) 914, r0 (.aload_n 0) 915, r0 (.iload_n 3) 916, rv (.iconst 1) 917 0 1, r0 .iadd 918, ra .iaload 919 1]
def mt185_19 : List RI := [ri (.invokevirtual 115) 920 170 2 0 1 5 1084, ra (.if_icmp .eq 452) 923 987, rv (.iconst 0) 926 0 0, ra .ireturn 927 1, r0 (.aload_n 1) 928, r0 (.aload_n 0) 929, r0 (.iload_n 3) 930, rv (.iconst 1) 931 0 1, r0 .iadd 932, ra .iaload 933 1, r0 (.aload_n 0) 934, r0 (.iload_n 3) 935, rv (.iconst 2) 936 0 2, r0 .iadd 937, ra .iaload 938 1, r0 (.aload_n 0) 939, r0 (.iload_n 3) 940, rv (.iconst 3) 941 0 3, r0 .iadd 942, ra .iaload 943 1, ri (.invokevirtual 116) 944 78 4 0 1 4 638, r0 (.aload_n 2) 947, r0 (.aload_n 0) 948, r0 (.iload_n 3) 949, rv (.iconst 1) 950 0 1, r0 .iadd 951, ra .iaload 952 1, r0 (.aload_n 0) 953, r0 (.iload_n 3) 954, rv (.iconst 2) 955 0 2, r0 .iadd 956, ra .iaload 957 1]
def mt185_20 : List RI := [r0 (.aload_n 0) 958, r0 (.iload_n 3) 959, rv (.iconst 3) 960 0 3, r0 .iadd 961, ra .iaload 962 1, ri (.invokevirtual 119) 963 171 4 0 1 5 1088, ra (.if_icmp .eq 409) 966 987, rv (.iconst 0) 969 0 0, ra .ireturn 970 1, r0 (.aload_n 1) 971, r0 (.aload_n 0) 972, r0 (.iload_n 3) 973, rv (.iconst 1) 974 0 1, r0 .iadd 975, ra .iaload 976 1, ri (.invokevirtual 120) 977 79 2 0 1 4 642, r0 (.aload_n 2) 980, r0 (.aload_n 0) 981, r0 (.iload_n 3) 982, rv (.iconst 1) 983 0 1, r0 .iadd 984, ra .iaload 985 1, ri (.invokevirtual 123) 986 172 2 0 1 5 1092, ra (.if_icmp .eq 386) 989 987, rv (.iconst 0) 992 0 0, ra .ireturn 993 1, r0 (.aload_n 1) 994, r0 (.aload_n 0) 995, r0 (.iload_n 3) 996, rv (.iconst 1) 997 0 1, r0 .iadd 998, ra .iaload 999 1]
def mt185_21 : List RI := [r0 (.aload_n 0) 1000, r0 (.iload_n 3) 1001, rv (.iconst 2) 1002 0 2, r0 .iadd 1003, ra .iaload 1004 1, ri (.invokevirtual 124) 1005 80 3 0 1 4 646, r0 (.aload_n 2) 1008, r0 (.aload_n 0) 1009, r0 (.iload_n 3) 1010, rv (.iconst 1) 1011 0 1, r0 .iadd 1012, ra .iaload 1013 1, r0 (.aload_n 0) 1014, r0 (.iload_n 3) 1015, rv (.iconst 2) 1016 0 2, r0 .iadd 1017, ra .iaload 1018 1, ri (.invokevirtual 127) 1019 173 3 0 1 5 1096, ra (.if_icmp .eq 353) 1022 987, rv (.iconst 0) 1025 0 0, ra .ireturn 1026 1, r0 (.aload_n 1) 1027, r0 (.aload_n 0) 1028, r0 (.iload_n 3) 1029, rv (.iconst 1) 1030 0 1, r0 .iadd 1031, ra .iaload 1032 1, r0 (.aload_n 0) 1033, r0 (.iload_n 3) 1034, rv (.iconst 2) 1035 0 2, r0 .iadd 1036, ra .iaload 1037 1]
def mt185_22 : List RI := [ri (.invokevirtual 128) 1038 81 3 0 1 4 658, r0 (.aload_n 2) 1041, r0 (.aload_n 0) 1042, r0 (.iload_n 3) 1043, rv (.iconst 1) 1044 0 1, r0 .iadd 1045, ra .iaload 1046 1, r0 (.aload_n 0) 1047, r0 (.iload_n 3) 1048, rv (.iconst 2) 1049 0 2, r0 .iadd 1050, ra .iaload 1051 1, ri (.invokevirtual 131) 1052 175 3 0 1 5 1100, ra (.if_icmp .eq 320) 1055 987, rv (.iconst 0) 1058 0 0, ra .ireturn 1059 1, r0 (.aload_n 1) 1060, r0 (.aload_n 0) 1061, r0 (.iload_n 3) 1062, rv (.iconst 1) 1063 0 1, r0 .iadd 1064, ra .iaload 1065 1, r0 (.aload_n 0) 1066, r0 (.iload_n 3) 1067, rv (.iconst 2) 1068 0 2, r0 .iadd 1069, ra .iaload 1070 1, r0 (.aload_n 0) 1071, r0 (.iload_n 3) 1072, rv (.iconst 3) 1073 0 3, r0 .iadd 1074, ra .iaload 1075 1]
def mt185_23 : List RI := [r0 (.aload_n 0) 1076, r0 (.iload_n 3) 1077, rv (.iconst 4) 1078 0 4, r0 .iadd 1079, ra .iaload 1080 1, ri (.invokevirtual 132) 1081 82 5 0 2 4 674, r0 (.aload_n 2) 1084, r0 (.aload_n 0) 1085, r0 (.iload_n 3) 1086, rv (.iconst 1) 1087 0 1, r0 .iadd 1088, ra .iaload 1089 1, r0 (.aload_n 0) 1090, r0 (.iload_n 3) 1091, rv (.iconst 2) 1092 0 2, r0 .iadd 1093, ra .iaload 1094 1, r0 (.aload_n 0) 1095, r0 (.iload_n 3) 1096, rv (.iconst 3) 1097 0 3, r0 .iadd 1098, ra .iaload 1099 1, r0 (.aload_n 0) 1100, r0 (.iload_n 3) 1101, rv (.iconst 4) 1102 0 4, r0 .iadd 1103, ra .iaload 1104 1, ri (.invokevirtual 136) 1105 176 5 0 2 5 1113, r0 .lcmp 1108, ra (.ifCond .eq 266) 1109 987, rv (.iconst 0) 1112 0 0, ra .ireturn 1113 1]
def mt185_24 : List RI := [r0 (.aload_n 1) 1114, ri (.invokevirtual 137) 1115 83 1 0 1 4 678, r0 (.aload_n 2) 1118, ri (.invokevirtual 140) 1119 177 1 0 1 5 1117, ra (.if_icmp .eq 253) 1122 987, rv (.iconst 0) 1125 0 0, ra .ireturn 1126 1, r0 (.aload_n 1) 1127, ri (.invokevirtual 141) 1128 84 1 0 1 4 682, r0 (.aload_n 2) 1131, ri (.invokevirtual 144) 1132 178 1 0 1 5 1121, ra (.if_icmp .eq 240) 1135 987, rv (.iconst 0) 1138 0 0, ra .ireturn 1139 1, r0 (.aload_n 1) 1140, r0 (.aload_n 0) 1141, r0 (.iload_n 3) 1142, rv (.iconst 1) 1143 0 1, r0 .iadd 1144, ra .iaload 1145 1, r0 (.aload_n 0) 1146, r0 (.iload_n 3) 1147, rv (.iconst 2) 1148 0 2, r0 .iadd 1149, ra .iaload 1150 1, r0 (.aload_n 0) 1151, r0 (.iload_n 3) 1152, rv (.iconst 3) 1153 0 3, r0 .iadd 1154, ra .iaload 1155 1, ri (.invokevirtual 145) 1156 85 4 0 1 4 686, r0 (.aload_n 2) 1159]
def mt185_25 : List RI := [r0 (.aload_n 0) 1160, r0 (.iload_n 3) 1161, rv (.iconst 1) 1162 0 1, r0 .iadd 1163, ra .iaload 1164 1, r0 (.aload_n 0) 1165, r0 (.iload_n 3) 1166, rv (.iconst 2) 1167 0 2, r0 .iadd 1168, ra .iaload 1169 1, r0 (.aload_n 0) 1170, r0 (.iload_n 3) 1171, rv (.iconst 3) 1172 0 3, r0 .iadd 1173, ra .iaload 1174 1, ri (.invokevirtual 148) 1175 179 4 0 1 5 1125, ra (.if_icmp .eq 197) 1178 987, rv (.iconst 0) 1181 0 0, ra .ireturn 1182 1, r0 (.aload_n 1) 1183, r0 (.aload_n 0) 1184, r0 (.iload_n 3) 1185, rv (.iconst 1) 1186 0 1, r0 .iadd 1187, ra .iaload 1188 1, r0 (.aload_n 0) 1189, r0 (.iload_n 3) 1190, rv (.iconst 2) 1191 0 2, r0 .iadd 1192, ra .iaload 1193 1, r0 (.aload_n 0) 1194, r0 (.iload_n 3) 1195]
def mt185_26 : List RI := [rv (.iconst 3) 1196 0 3, r0 .iadd 1197, ra .iaload 1198 1, ri (.invokevirtual 149) 1199 86 4 0 1 4 690, r0 (.aload_n 2) 1202, r0 (.aload_n 0) 1203, r0 (.iload_n 3) 1204, rv (.iconst 1) 1205 0 1, r0 .iadd 1206, ra .iaload 1207 1, r0 (.aload_n 0) 1208, r0 (.iload_n 3) 1209, rv (.iconst 2) 1210 0 2, r0 .iadd 1211, ra .iaload 1212 1, r0 (.aload_n 0) 1213, r0 (.iload_n 3) 1214, rv (.iconst 3) 1215 0 3, r0 .iadd 1216, ra .iaload 1217 1, ri (.invokevirtual 152) 1218 180 4 0 1 5 1129, ra (.if_icmp .eq 154) 1221 987, rv (.iconst 0) 1224 0 0, ra .ireturn 1225 1, r0 (.aload_n 1) 1226, r0 (.aload_n 0) 1227, r0 (.iload_n 3) 1228, rv (.iconst 1) 1229 0 1, r0 .iadd 1230, ra .iaload 1231 1, r0 (.aload_n 0) 1232, r0 (.iload_n 3) 1233]
def mt185_27 : List RI := [rv (.iconst 2) 1234 0 2, r0 .iadd 1235, ra .iaload 1236 1, r0 (.aload_n 0) 1237, r0 (.iload_n 3) 1238, rv (.iconst 3) 1239 0 3, r0 .iadd 1240, ra .iaload 1241 1, r0 (.aload_n 0) 1242, r0 (.iload_n 3) 1243, rv (.iconst 4) 1244 0 4, r0 .iadd 1245, ra .iaload 1246 1, r0 (.aload_n 0) 1247, r0 (.iload_n 3) 1248, rv (.iconst 5) 1249 0 5, r0 .iadd 1250, ra .iaload 1251 1, ri (.invokevirtual 153) 1252 87 6 0 1 4 694, r0 (.aload_n 2) 1255, r0 (.aload_n 0) 1256, r0 (.iload_n 3) 1257, rv (.iconst 1) 1258 0 1, r0 .iadd 1259, ra .iaload 1260 1, r0 (.aload_n 0) 1261, r0 (.iload_n 3) 1262, rv (.iconst 2) 1263 0 2, r0 .iadd 1264, ra .iaload 1265 1, r0 (.aload_n 0) 1266, r0 (.iload_n 3) 1267]
def mt185_28 : List RI := [rv (.iconst 3) 1268 0 3, r0 .iadd 1269, ra .iaload 1270 1, r0 (.aload_n 0) 1271, r0 (.iload_n 3) 1272, rv (.iconst 4) 1273 0 4, r0 .iadd 1274, ra .iaload 1275 1, r0 (.aload_n 0) 1276, r0 (.iload_n 3) 1277, rv (.iconst 5) 1278 0 5, r0 .iadd 1279, ra .iaload 1280 1, ri (.invokevirtual 157) 1281 181 6 0 1 5 1133, ra (.if_icmp .eq 91) 1284 987, rv (.iconst 0) 1287 0 0, ra .ireturn 1288 1, r0 (.aload_n 1) 1289, r0 (.aload_n 0) 1290, r0 (.iload_n 3) 1291, rv (.iconst 1) 1292 0 1, r0 .iadd 1293, ra .iaload 1294 1, r0 (.aload_n 0) 1295, r0 (.iload_n 3) 1296, rv (.iconst 2) 1297 0 2, r0 .iadd 1298, ra .iaload 1299 1, r0 (.aload_n 0) 1300, r0 (.iload_n 3) 1301, rv (.iconst 3) 1302 0 3, r0 .iadd 1303]
def mt185_29 : List RI := [ra .iaload 1304 1, r0 (.aload_n 0) 1305, r0 (.iload_n 3) 1306, rv (.iconst 4) 1307 0 4, r0 .iadd 1308, ra .iaload 1309 1, ri (.invokevirtual 158) 1310 88 5 0 1 4 709, r0 (.aload_n 2) 1313, r0 (.aload_n 0) 1314, r0 (.iload_n 3) 1315, rv (.iconst 1) 1316 0 1, r0 .iadd 1317, ra .iaload 1318 1, r0 (.aload_n 0) 1319, r0 (.iload_n 3) 1320, rv (.iconst 2) 1321 0 2, r0 .iadd 1322, ra .iaload 1323 1, r0 (.aload_n 0) 1324, r0 (.iload_n 3) 1325, rv (.iconst 3) 1326 0 3, r0 .iadd 1327, ra .iaload 1328 1, r0 (.aload_n 0) 1329, r0 (.iload_n 3) 1330, rv (.iconst 4) 1331 0 4, r0 .iadd 1332, ra .iaload 1333 1, ri (.invokevirtual 162) 1334 182 5 0 1 5 1137, ra (.if_icmp .eq 38) 1337 987, rv (.iconst 0) 1340 0 0, ra .ireturn 1341 1]
def mt185_30 : List RI := [r0 (.aload_n 1) 1342, r0 (.aload_n 0) 1343, r0 (.iload_n 3) 1344, rv (.iconst 1) 1345 0 1, r0 .iadd 1346, ra .iaload 1347 1, r0 (.aload_n 0) 1348, r0 (.iload_n 3) 1349, rv (.iconst 2) 1350 0 2, r0 .iadd 1351, ra .iaload 1352 1, ri (.invokevirtual 163) 1353 89 3 0 1 4 714, r0 (.aload_n 2) 1356, r0 (.aload_n 0) 1357, r0 (.iload_n 3) 1358, rv (.iconst 1) 1359 0 1, r0 .iadd 1360, ra .iaload 1361 1, r0 (.aload_n 0) 1362, r0 (.iload_n 3) 1363, rv (.iconst 2) 1364 0 2, r0 .iadd 1365, ra .iaload 1366 1, ri (.invokevirtual 166) 1367 184 3 0 1 5 1142, ra (.if_icmp .eq 5) 1370 987, rv (.iconst 0) 1373 0 0, ra .ireturn 1374 1, rv (.iinc 3 7) 1375 0 7, ra (.goto (-1360)) 1378 10, rv (.iconst 1) 1381 0 1, ra .ireturn 1382 1]
def mt185 : List (List RI) := [mt185_0, mt185_1, mt185_2, mt185_3, mt185_4, mt185_5, mt185_6, mt185_7, mt185_8, mt185_9, mt185_10, mt185_11, mt185_12, mt185_13, mt185_14, mt185_15, mt185_16, mt185_17, mt185_18, mt185_19, mt185_20, mt185_21, mt185_22, mt185_23, mt185_24, mt185_25, mt185_26, mt185_27, mt185_28, mt185_29, mt185_30]
def mb0 : List (List (List RI)) := [mt0, mt1, mt2, mt3, mt4, mt5, mt6, mt7, mt8, mt9, mt10, mt11, mt12, mt13, mt14, mt15]
def mb1 : List (List (List RI)) := [mt16, mt17, mt18, mt19, mt20, mt21, mt22, mt23, mt24, mt25, mt26, mt27, mt28, mt29, mt30, mt31]
def mb2 : List (List (List RI)) := [mt32, mt33, mt34, mt35, mt36, mt37, mt38, mt39, mt40, mt41, mt42, mt43, mt44, mt45, mt46, mt47]
def mb3 : List (List (List RI)) := [mt48, mt49, mt50, mt51, mt52, mt53, mt54, mt55, mt56, mt57, mt58, mt59, mt60, mt61, mt62, mt63]
def mb4 : List (List (List RI)) := [mt64, mt65, mt66, mt67, mt68, mt69, mt70, mt71, mt72, mt73, mt74, mt75, mt76, mt77, mt78, mt79]
def mb5 : List (List (List RI)) := [mt80, mt81, mt82, mt83, mt84, mt85, mt86, mt87, mt88, mt89, mt90, mt91, mt92, mt93, mt94, mt95]
def mb6 : List (List (List RI)) := [mt96, mt97, mt98, mt99, mt100, mt101, mt102, mt103, mt104, mt105, mt106, mt107, mt108, mt109, mt110, mt111]
def mb7 : List (List (List RI)) := [mt112, mt113, mt114, mt115, mt116, mt117, mt118, mt119, mt120, mt121, mt122, mt123, mt124, mt125, mt126, mt127]
def mb8 : List (List (List RI)) := [mt128, mt129, mt130, mt131, mt132, mt133, mt134, mt135, mt136, mt137, mt138, mt139, mt140, mt141, mt142, mt143]
def mb9 : List (List (List RI)) := [mt144, mt145, mt146, mt147, mt148, mt149, mt150, mt151, mt152, mt153, mt154, mt155, mt156, mt157, mt158, mt159]
def mb10 : List (List (List RI)) := [mt160, mt161, mt162, mt163, mt164, mt165, mt166, mt167, mt168, mt169, mt170, mt171, mt172, mt173, mt174, mt175]
def mb11 : List (List (List RI)) := [mt176, mt177, mt178, mt179, mt180, mt181, mt182, mt183, mt184, mt185]
def mtab : List (List (List (List RI))) := [mb0, mb1, mb2, mb3, mb4, mb5, mb6, mb7, mb8, mb9, mb10, mb11]
def fet1 : Option (List (List RI)) → Nat → Option RI
  | none, _ => none
  | some m, i => match nth m (i / 32) with
    | none => none
    | some c => nth c (i % 32)
def fet0 : Option (List (List (List RI))) → Nat → Option (List (List RI))
  | none, _ => none
  | some b, j => nth b j
/-- the instruction i of the method y -/
def fetch (y i : Nat) : Option RI := fet1 (fet0 (nth mtab (y / 16)) (y % 16)) i
/-! METHODS: name, bytes, how many locals, what it returns, whether static, how many it takes (not counting the receiver), its height, the places of its words -/
abbrev MI : Type := MethodName × ByteArray × Nat × Option FieldType × Bool × Nat × Nat × Nat × Nat × Nat × Nat
def mi0_ : MI := (⟨"java/lang/Integer", "bitCount", "(I)I"⟩, prog_8_method_49_code, 1, some .int, true, 1, 1, 581, 580, 0, 71)
def mi1 : MI := (⟨"java/lang/String", "length", "()I"⟩, prog_10_method_54_code, 1, some .int, false, 0, 2, 359, 357, 358, 67)
def mi2 : MI := (⟨"java/lang/String", "coder", "()B"⟩, prog_10_method_152_code, 1, some .byte, false, 0, 1, 363, 361, 362, 67)
def mi3 : MI := (⟨"java/lang/String", "isLatin1", "()Z"⟩, prog_10_method_154_code, 1, some .boolean, false, 0, 1, 373, 371, 372, 67)
def mi4 : MI := (⟨"java/lang/String", "charAt", "(I)C"⟩, prog_10_method_56_code, 2, some .char, false, 1, 4, 369, 367, 368, 67)
def mi5 : MI := (⟨"java/lang/String", "checkIndex", "(II)V"⟩, prog_10_method_155_code, 2, none, true, 2, 2, 379, 378, 0, 67)
def mi6 : MI := (⟨"java/lang/StringLatin1", "charAt", "([BI)C"⟩, prog_11_method_2_code, 2, some .char, true, 2, 3, 376, 375, 0, 68)
def mi7 : MI := (⟨"jdk/internal/util/Preconditions", "checkIndex", "(IILjava/util/function/BiFunction;)I"⟩, prog_14_method_11_code, 3, some .int, true, 3, 1, 384, 383, 0, 69)
def mi8 : MI := (⟨"FerryForAlone$Reader", "faultOf", "(I)I"⟩, prog_2_method_2_code, 4, some .int, false, 1, 16, 338, 336, 337, 62)
def mi9 : MI := (⟨"FerryForAlone$Reader", "fail", "()V"⟩, prog_2_method_3_code, 1, none, false, 0, 1, 432, 431, 6, 62)
def mi10 : MI := (⟨"FerryForAlone$Reader", "expect", "(I)V"⟩, prog_2_method_4_code, 2, none, false, 1, 8, 428, 427, 5, 62)
def mi11 : MI := (⟨"FerryForAlone$Reader", "write", "(I)V"⟩, prog_2_method_5_code, 2, none, false, 1, 1, 464, 463, 14, 62)
def mi12 : MI := (⟨"FerryForAlone$Reader", "either", "(I)V"⟩, prog_2_method_6_code, 3, none, false, 1, 15, 436, 435, 7, 62)
def mi13 : MI := (⟨"FerryForAlone$Reader", "both", "(I)V"⟩, prog_2_method_7_code, 3, none, false, 1, 14, 440, 439, 8, 62)
def mi14 : MI := (⟨"FerryForAlone$Reader", "negation", "(I)V"⟩, prog_2_method_8_code, 2, none, false, 1, 13, 444, 443, 9, 62)
def mi15 : MI := (⟨"FerryForAlone$Reader", "comparison", "(I)V"⟩, prog_2_method_9_code, 3, none, false, 1, 12, 448, 447, 10, 62)
def mi16 : MI := (⟨"FerryForAlone$Reader", "sum", "(I)V"⟩, prog_2_method_10_code, 4, none, false, 1, 11, 452, 451, 11, 62)
def mi17 : MI := (⟨"FerryForAlone$Reader", "term", "(I)V"⟩, prog_2_method_11_code, 3, none, false, 1, 10, 456, 455, 12, 62)
def mi18 : MI := (⟨"FerryForAlone$Reader", "one", "(I)V"⟩, prog_2_method_12_code, 3, none, false, 1, 9, 460, 459, 13, 62)
def mi19 : MI := (⟨"FerryForAlone$Reader", "take", "()V"⟩, prog_2_method_13_code, 2, none, false, 0, 7, 343, 342, 1, 62)
def mi20 : MI := (⟨"FerryForAlone$Reader", "takeWord", "()V"⟩, prog_2_method_14_code, 2, none, false, 0, 6, 350, 349, 2, 62)
def mi21 : MI := (⟨"FerryForAlone$Reader", "isWord", "(Ljava/lang/String;)Z"⟩, prog_2_method_15_code, 3, some .boolean, false, 1, 5, 355, 354, 3, 62)
def mi22 : MI := (⟨"FerryForAlone$Reader", "takeNumber", "()V"⟩, prog_2_method_16_code, 2, none, false, 0, 2, 421, 420, 4, 62)
def mi23 : MI := (⟨"FerryForAlone$Reader", "isLetter", "(I)Z"⟩, prog_2_method_17_code, 1, some .boolean, true, 1, 1, 346, 345, 0, 62)
def mi24 : MI := (⟨"FerryForAlone$Reader", "isDigit", "(I)Z"⟩, prog_2_method_18_code, 1, some .boolean, true, 1, 1, 417, 416, 0, 62)
def mi25 : MI := (⟨"FerryForAlone$Reader", "signOf", "(I)I"⟩, prog_2_method_19_code, 1, some .int, true, 1, 1, 424, 423, 0, 62)
def mi26 : MI := (⟨"FerryForAlone$Sheets", "has", "(I)Z"⟩, prog_3_method_2_code, 2, some .boolean, false, 1, 1, 617, 615, 616, 64)
def mi27 : MI := (⟨"FerryForAlone$Sheets", "holds", "(IJI)Z"⟩, prog_3_method_3_code, 5, some .boolean, false, 3, 1, 701, 699, 700, 64)
def mi28 : MI := (⟨"FerryForAlone$Sheets", "renew", "(III)V"⟩, prog_3_method_4_code, 5, none, false, 3, 1, 653, 651, 652, 64)
def mi29 : MI := (⟨"FerryForAlone$Sheets", "read", "(II)I"⟩, prog_3_method_5_code, 3, some .int, false, 2, 1, 625, 623, 624, 64)
def mi30 : MI := (⟨"FerryForAlone$Sheets", "write", "(III)V"⟩, prog_3_method_6_code, 5, none, false, 3, 1, 657, 655, 656, 64)
def mi31 : MI := (⟨"FerryForAlone$Sheets", "carry", "(IIIII)V"⟩, prog_3_method_7_code, 6, none, false, 5, 1, 705, 703, 704, 64)
def mi32 : MI := (⟨"FerryForAlone$Strand", "becomes", "(LFerryForAlone$Strand;)V"⟩, prog_4_method_2_code, 3, none, false, 1, 1, 544, 542, 543, 63)
def mi33 : MI := (⟨"FerryForAlone$Strand", "has", "(J)Z"⟩, prog_4_method_3_code, 3, some .boolean, false, 1, 1, 477, 475, 476, 63)
def mi34 : MI := (⟨"FerryForAlone$Strand", "welcome", "(II)I"⟩, prog_4_method_4_code, 4, some .int, false, 2, 2, 486, 484, 485, 63)
def mi35 : MI := (⟨"FerryForAlone$Strand", "isSeen", "(I)Z"⟩, prog_4_method_5_code, 2, some .boolean, false, 1, 1, 275, 273, 274, 63)
def mi36 : MI := (⟨"FerryForAlone$Strand", "isOver", "(I)Z"⟩, prog_4_method_6_code, 2, some .boolean, false, 1, 1, 319, 317, 318, 63)
def mi37 : MI := (⟨"FerryForAlone$Strand", "isAlone", "(I)Z"⟩, prog_4_method_7_code, 4, some .boolean, false, 1, 4, 271, 269, 270, 63)
def mi38 : MI := (⟨"FerryForAlone$Strand", "farFrom", "(I)I"⟩, prog_4_method_8_code, 5, some .int, false, 1, 2, 509, 507, 508, 63)
def mi39 : MI := (⟨"FerryForAlone$Strand", "areNeighbours", "(II)Z"⟩, prog_4_method_9_code, 5, some .boolean, false, 2, 2, 596, 594, 595, 63)
def mi40 : MI := (⟨"FerryForAlone$Strand", "gapAbout", "(I)I"⟩, prog_4_method_10_code, 2, some .int, false, 1, 3, 279, 277, 278, 63)
def mi41 : MI := (⟨"FerryForAlone$Strand", "likedHow", "(I)I"⟩, prog_4_method_11_code, 2, some .int, false, 1, 3, 303, 301, 302, 63)
def mi42 : MI := (⟨"FerryForAlone$Strand", "walksFar", "(I)I"⟩, prog_4_method_12_code, 2, some .int, false, 1, 5, 504, 502, 503, 63)
def mi43 : MI := (⟨"FerryForAlone$Strand", "choice", "()I"⟩, prog_4_method_13_code, 5, some .int, false, 0, 5, 267, 265, 266, 63)
def mi44 : MI := (⟨"FerryForAlone$Strand", "goOn", "(II)V"⟩, prog_4_method_14_code, 3, none, false, 2, 1, 528, 526, 527, 63)
def mi45 : MI := (⟨"FerryForAlone$Strand", "passHour", "()I"⟩, prog_4_method_15_code, 3, some .int, false, 0, 6, 518, 516, 517, 63)
def mi46 : MI := (⟨"FerryForAlone$Strand", "fetch", "(I)V"⟩, prog_4_method_16_code, 2, none, false, 1, 1, 523, 521, 522, 63)
def mi47 : MI := (⟨"FerryForAlone$Strand", "aloneBits", "()I"⟩, prog_4_method_17_code, 3, some .int, false, 0, 5, 307, 305, 306, 63)
def mi48 : MI := (⟨"FerryForAlone$Strand", "seenBits", "()I"⟩, prog_4_method_18_code, 3, some .int, false, 0, 2, 311, 309, 310, 63)
def mi49 : MI := (⟨"FerryForAlone$Strand", "overBits", "()I"⟩, prog_4_method_19_code, 3, some .int, false, 0, 2, 315, 313, 314, 63)
def mi50 : MI := (⟨"FerryForAlone$Strand", "valueOf", "(II)I"⟩, prog_4_method_20_code, 5, some .int, false, 2, 1, 287, 285, 286, 63)
def mi51 : MI := (⟨"FerryForAlone$Texts", "addFirstLaw", "()V"⟩, prog_5_method_2_code, 2, none, false, 0, 1, 220, 218, 219, 61)
def mi52 : MI := (⟨"FerryForAlone$Texts", "says", "(ILFerryForAlone$Strand;I)I"⟩, prog_5_method_3_code, 8, some .int, false, 3, 2, 283, 281, 282, 61)
def mi53 : MI := (⟨"FerryForAlone$Texts", "joined", "(III)I"⟩, prog_5_method_4_code, 3, some .int, true, 3, 1, 290, 289, 0, 61)
def mi54 : MI := (⟨"FerryForAlone", "count", "(I)I"⟩, prog_1_method_2_code, 2, some .int, false, 1, 1, 252, 250, 251, 60)
def mi55 : MI := (⟨"FerryForAlone", "bay", "(II)I"⟩, prog_1_method_3_code, 4, some .int, false, 2, 2, 256, 254, 255, 60)
def mi56 : MI := (⟨"FerryForAlone", "ferry", "(I)I"⟩, prog_1_method_4_code, 2, some .int, false, 1, 6, 263, 261, 262, 60)
def mi57 : MI := (⟨"FerryForAlone", "feed", "(IIIIII)I"⟩, prog_1_method_5_code, 7, some .int, false, 6, 3, 323, 321, 322, 60)
def mi58 : MI := (⟨"FerryForAlone", "text", "()I"⟩, prog_1_method_6_code, 2, some .int, false, 0, 17, 334, 332, 333, 60)
def mi59 : MI := (⟨"FerryForAlone", "force", "(I)I"⟩, prog_1_method_7_code, 3, some .int, false, 1, 2, 469, 467, 468, 60)
def mi60 : MI := (⟨"FerryForAlone", "asks", "(II)I"⟩, prog_1_method_8_code, 3, some .int, false, 2, 3, 473, 471, 472, 60)
def mi61 : MI := (⟨"FerryForAlone", "traveller", "(II)I"⟩, prog_1_method_9_code, 3, some .int, false, 2, 3, 482, 480, 481, 60)
def mi62 : MI := (⟨"FerryForAlone", "put", "(III)I"⟩, prog_1_method_10_code, 5, some .int, false, 3, 2, 491, 489, 490, 60)
def mi63 : MI := (⟨"FerryForAlone", "told", "(II)I"⟩, prog_1_method_11_code, 3, some .int, false, 2, 6, 498, 496, 497, 60)
def mi64 : MI := (⟨"FerryForAlone", "hour", "()I"⟩, prog_1_method_12_code, 1, some .int, false, 0, 7, 514, 512, 513, 60)
def mi65 : MI := (⟨"FerryForAlone", "walk", "(II)I"⟩, prog_1_method_13_code, 3, some .int, false, 2, 2, 533, 531, 532, 60)
def mi66 : MI := (⟨"FerryForAlone", "run", "(II)I"⟩, prog_1_method_14_code, 10, some .int, false, 2, 7, 538, 536, 537, 60)
def mi67 : MI := (⟨"FerryForAlone", "when", "(II)I"⟩, prog_1_method_15_code, 5, some .int, false, 2, 7, 548, 546, 547, 60)
def mi68 : MI := (⟨"FerryForAlone", "hide", "(II)I"⟩, prog_1_method_16_code, 7, some .int, false, 2, 8, 553, 551, 552, 60)
def mi69 : MI := (⟨"FerryForAlone", "stand", "(II)I"⟩, prog_1_method_17_code, 7, some .int, false, 2, 8, 562, 560, 561, 60)
def mi70 : MI := (⟨"FerryForAlone", "apart", "(II)I"⟩, prog_1_method_18_code, 5, some .int, false, 2, 6, 570, 568, 569, 60)
def mi71 : MI := (⟨"FerryForAlone", "breakwater", "(I)I"⟩, prog_1_method_19_code, 6, some .int, false, 1, 7, 578, 576, 577, 60)
def mi72 : MI := (⟨"FerryForAlone", "gap", "(I)I"⟩, prog_1_method_20_code, 6, some .int, false, 1, 3, 592, 590, 591, 60)
def mi73 : MI := (⟨"FerryForAlone", "middle", "(I)J"⟩, prog_1_method_21_code, 7, some .long, false, 1, 3, 600, 598, 599, 60)
def mi74 : MI := (⟨"FerryForAlone", "judge", "(I)I"⟩, prog_1_method_22_code, 3, some .int, false, 1, 8, 609, 607, 608, 60)
def mi75 : MI := (⟨"FerryForAlone", "kinds", "(III)I"⟩, prog_1_method_23_code, 8, some .int, false, 3, 8, 629, 627, 628, 60)
def mi76 : MI := (⟨"FerryForAlone", "places", "(II)J"⟩, prog_1_method_24_code, 6, some .long, false, 2, 8, 633, 631, 632, 60)
def mi77 : MI := (⟨"FerryForAlone", "turned", "(I)I"⟩, prog_1_method_25_code, 5, some .int, false, 1, 8, 637, 635, 636, 60)
def mi78 : MI := (⟨"FerryForAlone", "waits", "(III)I"⟩, prog_1_method_26_code, 8, some .int, false, 3, 8, 641, 639, 640, 60)
def mi79 : MI := (⟨"FerryForAlone", "laws", "(I)I"⟩, prog_1_method_27_code, 5, some .int, false, 1, 8, 645, 643, 644, 60)
def mi80 : MI := (⟨"FerryForAlone", "film", "(II)I"⟩, prog_1_method_28_code, 4, some .int, false, 2, 7, 649, 647, 648, 60)
def mi81 : MI := (⟨"FerryForAlone", "drawn", "(II)I"⟩, prog_1_method_29_code, 4, some .int, false, 2, 8, 661, 659, 660, 60)
def mi82 : MI := (⟨"FerryForAlone", "odds", "(IIII)J"⟩, prog_1_method_30_code, 7, some .long, false, 4, 8, 677, 675, 676, 60)
def mi83 : MI := (⟨"FerryForAlone", "image", "()I"⟩, prog_1_method_31_code, 1, some .int, false, 0, 2, 681, 679, 680, 60)
def mi84 : MI := (⟨"FerryForAlone", "back", "()I"⟩, prog_1_method_32_code, 1, some .int, false, 0, 2, 685, 683, 684, 60)
def mi85 : MI := (⟨"FerryForAlone", "sheet", "(III)I"⟩, prog_1_method_33_code, 4, some .int, false, 3, 2, 689, 687, 688, 60)
def mi86 : MI := (⟨"FerryForAlone", "cell", "(III)I"⟩, prog_1_method_34_code, 4, some .int, false, 3, 2, 693, 691, 692, 60)
def mi87 : MI := (⟨"FerryForAlone", "copy", "(IIIII)I"⟩, prog_1_method_35_code, 6, some .int, false, 5, 2, 697, 695, 696, 60)
def mi88 : MI := (⟨"FerryForAlone", "peopleBy", "(IIII)I"⟩, prog_1_method_36_code, 10, some .int, false, 4, 3, 712, 710, 711, 60)
def mi89 : MI := (⟨"FerryForAlone", "taken", "(II)I"⟩, prog_1_method_37_code, 5, some .int, false, 2, 2, 717, 715, 716, 60)
def mi90 : MI := (⟨"FerryForAlone", "within", "(III)Z"⟩, prog_1_method_38_code, 3, some .boolean, true, 3, 1, 259, 258, 0, 60)
def mi91 : MI := (⟨"FerryForAlone", "isByte", "(I)Z"⟩, prog_1_method_39_code, 1, some .boolean, true, 1, 2, 326, 325, 0, 60)
def mi92 : MI := (⟨"FerryForAlone", "bit", "(Z)I"⟩, prog_1_method_40_code, 1, some .int, true, 1, 1, 494, 493, 0, 60)
def mi93 : MI := (⟨"FerryForAlone", "tapeOne", "(I)V"⟩, prog_1_method_41_code, 2, none, false, 1, 1, 330, 329, 0, 60)
def mi94 : MI := (⟨"FerryForAlone", "isOfKind", "(II)Z"⟩, prog_1_method_42_code, 2, some .boolean, true, 2, 1, 720, 719, 0, 60)
def mi95 : MI := (⟨"FerryForAlone", "fetchedInThought", "(I)I"⟩, prog_1_method_43_code, 4, some .int, false, 1, 7, 557, 556, 15, 60)
def mi96 : MI := (⟨"FerryForAlone", "hoursTillOver", "(II)I"⟩, prog_1_method_44_code, 4, some .int, false, 2, 7, 566, 565, 16, 60)
def mi97 : MI := (⟨"FerryForAlone", "wouldBeAlone", "(II)Z"⟩, prog_1_method_45_code, 3, some .boolean, false, 2, 5, 574, 573, 17, 60)
def mi98 : MI := (⟨"FerryForAlone", "othersAloneWithout", "(I)Z"⟩, prog_1_method_46_code, 3, some .boolean, false, 1, 6, 588, 587, 18, 60)
def mi99 : MI := (⟨"FerryForAlone", "refusalToJudge", "(I)I"⟩, prog_1_method_47_code, 2, some .int, false, 1, 2, 613, 612, 19, 60)
def mi100 : MI := (⟨"FerryForAlone", "firstOtherwise", "(I)I"⟩, prog_1_method_48_code, 3, some .int, false, 1, 7, 621, 620, 20, 60)
def mi101 : MI := (⟨"FerryForAlone", "fetchedAmongGulls", "(I)I"⟩, prog_1_method_49_code, 7, some .int, false, 1, 7, 666, 665, 21, 60)
def mi102 : MI := (⟨"FerryForAlone", "lotAfter", "(J)J"⟩, prog_1_method_50_code, 2, some .long, true, 1, 1, 669, 668, 0, 60)
def mi103 : MI := (⟨"FerryForAlone", "fraction", "(JJI)J"⟩, prog_1_method_51_code, 12, some .long, true, 3, 2, 603, 602, 0, 60)
def mi104 : MI := (⟨"FerryForAloneModel", "in", "(III)Z"⟩, prog_7_method_3_code, 3, some .boolean, true, 3, 1, 737, 736, 0, 65)
def mi105 : MI := (⟨"FerryForAloneModel", "within", "(III)I"⟩, prog_7_method_4_code, 3, some .int, true, 3, 1, 927, 926, 0, 65)
def mi106 : MI := (⟨"FerryForAloneModel", "onesOf", "(I)I"⟩, prog_7_method_5_code, 3, some .int, true, 1, 1, 917, 916, 0, 65)
def mi107 : MI := (⟨"FerryForAloneModel", "isOne", "(I)Z"⟩, prog_7_method_6_code, 2, some .boolean, false, 1, 2, 963, 962, 44, 65)
def mi108 : MI := (⟨"FerryForAloneModel", "isAt", "(I)Z"⟩, prog_7_method_7_code, 2, some .boolean, false, 1, 1, 898, 897, 34, 65)
def mi109 : MI := (⟨"FerryForAloneModel", "isSeen", "(I)Z"⟩, prog_7_method_8_code, 2, some .boolean, false, 1, 2, 894, 893, 33, 65)
def mi110 : MI := (⟨"FerryForAloneModel", "seenSet", "()I"⟩, prog_7_method_9_code, 3, some .int, false, 0, 3, 914, 913, 38, 65)
def mi111 : MI := (⟨"FerryForAloneModel", "isOver", "(I)Z"⟩, prog_7_method_10_code, 2, some .boolean, false, 1, 2, 943, 942, 43, 65)
def mi112 : MI := (⟨"FerryForAloneModel", "overSet", "()I"⟩, prog_7_method_11_code, 3, some .int, false, 0, 3, 939, 938, 42, 65)
def mi113 : MI := (⟨"FerryForAloneModel", "count", "(I)I"⟩, prog_7_method_12_code, 2, some .int, false, 1, 1, 874, 872, 873, 65)
def mi114 : MI := (⟨"FerryForAloneModel", "bay", "(II)I"⟩, prog_7_method_13_code, 5, some .int, false, 2, 2, 878, 876, 877, 65)
def mi115 : MI := (⟨"FerryForAloneModel", "ferry", "(I)I"⟩, prog_7_method_14_code, 2, some .int, false, 1, 8, 882, 880, 881, 65)
def mi116 : MI := (⟨"FerryForAloneModel", "isByte", "(I)Z"⟩, prog_7_method_15_code, 1, some .boolean, true, 1, 2, 950, 949, 0, 65)
def mi117 : MI := (⟨"FerryForAloneModel", "feed", "(IIIIII)I"⟩, prog_7_method_16_code, 8, some .int, false, 6, 3, 947, 945, 946, 65)
def mi118 : MI := (⟨"FerryForAloneModel", "wordFrom", "(II)I"⟩, prog_7_method_17_code, 6, some .int, false, 2, 1, 741, 740, 23, 65)
def mi119 : MI := (⟨"FerryForAloneModel", "next", "()V"⟩, prog_7_method_18_code, 3, none, false, 0, 2, 734, 733, 22, 65)
def mi120 : MI := (⟨"FerryForAloneModel", "rank", "(I)I"⟩, prog_7_method_19_code, 1, some .int, true, 1, 1, 757, 756, 0, 65)
def mi121 : MI := (⟨"FerryForAloneModel", "puts", "(I)V"⟩, prog_7_method_20_code, 2, none, false, 1, 1, 750, 749, 25, 65)
def mi122 : MI := (⟨"FerryForAloneModel", "unwinds", "(I)V"⟩, prog_7_method_21_code, 3, none, false, 1, 2, 754, 753, 26, 65)
def mi123 : MI := (⟨"FerryForAloneModel", "holds", "(I)V"⟩, prog_7_method_22_code, 2, none, false, 1, 1, 765, 764, 28, 65)
def mi124 : MI := (⟨"FerryForAloneModel", "opensOne", "(I)Z"⟩, prog_7_method_23_code, 2, some .boolean, false, 1, 2, 761, 760, 27, 65)
def mi125 : MI := (⟨"FerryForAloneModel", "between", "(I)Z"⟩, prog_7_method_24_code, 2, some .boolean, false, 1, 3, 773, 772, 30, 65)
def mi126 : MI := (⟨"FerryForAloneModel", "signOf", "()I"⟩, prog_7_method_25_code, 1, some .int, false, 0, 1, 769, 768, 29, 65)
def mi127 : MI := (⟨"FerryForAloneModel", "eRead", "()Z"⟩, prog_7_method_26_code, 4, some .boolean, false, 0, 4, 745, 744, 24, 65)
def mi128 : MI := (⟨"FerryForAloneModel", "text", "()I"⟩, prog_7_method_27_code, 3, some .int, false, 0, 5, 730, 728, 729, 65)
def mi129 : MI := (⟨"FerryForAloneModel", "two", "(III)I"⟩, prog_7_method_28_code, 3, some .int, true, 3, 1, 924, 923, 0, 65)
def mi130 : MI := (⟨"FerryForAloneModel", "says", "(I)I"⟩, prog_7_method_29_code, 5, some .int, false, 1, 2, 921, 920, 39, 65)
def mi131 : MI := (⟨"FerryForAloneModel", "force", "(I)I"⟩, prog_7_method_30_code, 3, some .int, false, 1, 2, 955, 953, 954, 65)
def mi132 : MI := (⟨"FerryForAloneModel", "asksOf", "(II)I"⟩, prog_7_method_31_code, 3, some .int, false, 2, 4, 910, 909, 37, 65)
def mi133 : MI := (⟨"FerryForAloneModel", "asks", "(II)I"⟩, prog_7_method_32_code, 3, some .int, false, 2, 5, 959, 957, 958, 65)
def mi134 : MI := (⟨"FerryForAloneModel", "traveller", "(II)I"⟩, prog_7_method_33_code, 3, some .int, false, 2, 2, 967, 965, 966, 65)
def mi135 : MI := (⟨"FerryForAloneModel", "put", "(III)I"⟩, prog_7_method_34_code, 7, some .int, false, 3, 3, 971, 969, 970, 65)
def mi136 : MI := (⟨"FerryForAloneModel", "gapOf", "(I)I"⟩, prog_7_method_35_code, 3, some .int, false, 1, 5, 906, 905, 36, 65)
def mi137 : MI := (⟨"FerryForAloneModel", "likedOf", "(I)I"⟩, prog_7_method_36_code, 3, some .int, false, 1, 5, 931, 930, 40, 65)
def mi138 : MI := (⟨"FerryForAloneModel", "walksOf", "(I)I"⟩, prog_7_method_37_code, 3, some .int, false, 1, 7, 979, 978, 45, 65)
def mi139 : MI := (⟨"FerryForAloneModel", "farOf", "(I)I"⟩, prog_7_method_38_code, 5, some .int, false, 1, 3, 902, 901, 35, 65)
def mi140 : MI := (⟨"FerryForAloneModel", "isAlone", "(I)Z"⟩, prog_7_method_39_code, 3, some .boolean, false, 1, 6, 890, 889, 32, 65)
def mi141 : MI := (⟨"FerryForAloneModel", "aloneSet", "()I"⟩, prog_7_method_40_code, 3, some .int, false, 0, 7, 935, 934, 41, 65)
def mi142 : MI := (⟨"FerryForAloneModel", "choice", "()I"⟩, prog_7_method_41_code, 6, some .int, false, 0, 7, 886, 885, 31, 65)
def mi143 : MI := (⟨"FerryForAloneModel", "told", "(II)I"⟩, prog_7_method_42_code, 3, some .int, false, 2, 8, 975, 973, 974, 65)
def mi144 : MI := (⟨"FerryForAloneModel", "fetches", "(I)V"⟩, prog_7_method_43_code, 3, none, false, 1, 2, 991, 990, 47, 65)
def mi145 : MI := (⟨"FerryForAloneModel", "hourOf", "()I"⟩, prog_7_method_44_code, 3, some .int, false, 0, 8, 987, 986, 46, 65)
def mi146 : MI := (⟨"FerryForAloneModel", "hour", "()I"⟩, prog_7_method_45_code, 1, some .int, false, 0, 9, 983, 981, 982, 65)
def mi147 : MI := (⟨"FerryForAloneModel", "walk", "(II)I"⟩, prog_7_method_46_code, 3, some .int, false, 2, 3, 995, 993, 994, 65)
def mi148 : MI := (⟨"FerryForAloneModel", "keeps", "()V"⟩, prog_7_method_47_code, 2, none, false, 0, 1, 1003, 1002, 48, 65)
def mi149 : MI := (⟨"FerryForAloneModel", "lays", "()V"⟩, prog_7_method_48_code, 2, none, false, 0, 1, 1011, 1010, 50, 65)
def mi150 : MI := (⟨"FerryForAloneModel", "goes", "(I)I"⟩, prog_7_method_49_code, 5, some .int, false, 1, 9, 1007, 1006, 49, 65)
def mi151 : MI := (⟨"FerryForAloneModel", "run", "(II)I"⟩, prog_7_method_50_code, 5, some .int, false, 2, 10, 999, 997, 998, 65)
def mi152 : MI := (⟨"FerryForAloneModel", "isNow", "(II)Z"⟩, prog_7_method_51_code, 3, some .boolean, false, 2, 8, 1023, 1022, 52, 65)
def mi153 : MI := (⟨"FerryForAloneModel", "firstTime", "(II)I"⟩, prog_7_method_52_code, 5, some .int, false, 2, 9, 1019, 1018, 51, 65)
def mi154 : MI := (⟨"FerryForAloneModel", "when", "(II)I"⟩, prog_7_method_53_code, 4, some .int, false, 2, 10, 1015, 1013, 1014, 65)
def mi155 : MI := (⟨"FerryForAloneModel", "fetchedIn", "(I)I"⟩, prog_7_method_54_code, 3, some .int, false, 1, 10, 1031, 1030, 53, 65)
def mi156 : MI := (⟨"FerryForAloneModel", "hide", "(II)I"⟩, prog_7_method_55_code, 7, some .int, false, 2, 11, 1027, 1025, 1026, 65)
def mi157 : MI := (⟨"FerryForAloneModel", "stand", "(II)I"⟩, prog_7_method_56_code, 8, some .int, false, 2, 10, 1035, 1033, 1034, 65)
def mi158 : MI := (⟨"FerryForAloneModel", "apart", "(II)I"⟩, prog_7_method_57_code, 9, some .int, false, 2, 7, 1039, 1037, 1038, 65)
def mi159 : MI := (⟨"FerryForAloneModel", "areAllAlone", "(II)Z"⟩, prog_7_method_58_code, 5, some .boolean, false, 2, 8, 1047, 1046, 54, 65)
def mi160 : MI := (⟨"FerryForAloneModel", "breakwater", "(I)I"⟩, prog_7_method_59_code, 8, some .int, false, 1, 9, 1043, 1041, 1042, 65)
def mi161 : MI := (⟨"FerryForAloneModel", "isBetween", "(II)Z"⟩, prog_7_method_60_code, 4, some .boolean, false, 2, 3, 1055, 1054, 55, 65)
def mi162 : MI := (⟨"FerryForAloneModel", "gap", "(I)I"⟩, prog_7_method_61_code, 8, some .int, false, 1, 4, 1051, 1049, 1050, 65)
def mi163 : MI := (⟨"FerryForAloneModel", "lowest", "(JJI)J"⟩, prog_7_method_62_code, 11, some .long, true, 3, 1, 1062, 1061, 0, 65)
def mi164 : MI := (⟨"FerryForAloneModel", "middle", "(I)J"⟩, prog_7_method_63_code, 5, some .long, false, 1, 2, 1059, 1057, 1058, 65)
def mi165 : MI := (⟨"FerryForAloneModel", "sheetWrong", "(I)I"⟩, prog_7_method_64_code, 2, some .int, false, 1, 2, 1071, 1070, 56, 65)
def mi166 : MI := (⟨"FerryForAloneModel", "unlike", "(I)I"⟩, prog_7_method_65_code, 4, some .int, false, 1, 9, 1075, 1074, 57, 65)
def mi167 : MI := (⟨"FerryForAloneModel", "judge", "(I)I"⟩, prog_7_method_66_code, 3, some .int, false, 1, 10, 1067, 1065, 1066, 65)
def mi168 : MI := (⟨"FerryForAloneModel", "kinds", "(III)I"⟩, prog_7_method_67_code, 9, some .int, false, 3, 10, 1079, 1077, 1078, 65)
def mi169 : MI := (⟨"FerryForAloneModel", "places", "(II)J"⟩, prog_7_method_68_code, 7, some .long, false, 2, 10, 1083, 1081, 1082, 65)
def mi170 : MI := (⟨"FerryForAloneModel", "turned", "(I)I"⟩, prog_7_method_69_code, 5, some .int, false, 1, 10, 1087, 1085, 1086, 65)
def mi171 : MI := (⟨"FerryForAloneModel", "waits", "(III)I"⟩, prog_7_method_70_code, 10, some .int, false, 3, 10, 1091, 1089, 1090, 65)
def mi172 : MI := (⟨"FerryForAloneModel", "laws", "(I)I"⟩, prog_7_method_71_code, 6, some .int, false, 1, 10, 1095, 1093, 1094, 65)
def mi173 : MI := (⟨"FerryForAloneModel", "film", "(II)I"⟩, prog_7_method_72_code, 4, some .int, false, 2, 9, 1099, 1097, 1098, 65)
def mi174 : MI := (⟨"FerryForAloneModel", "gulls", "(I)I"⟩, prog_7_method_73_code, 7, some .int, false, 1, 9, 1108, 1107, 58, 65)
def mi175 : MI := (⟨"FerryForAloneModel", "drawn", "(II)I"⟩, prog_7_method_74_code, 4, some .int, false, 2, 10, 1103, 1101, 1102, 65)
def mi176 : MI := (⟨"FerryForAloneModel", "odds", "(IIII)J"⟩, prog_7_method_75_code, 8, some .long, false, 4, 10, 1116, 1114, 1115, 65)
def mi177 : MI := (⟨"FerryForAloneModel", "image", "()I"⟩, prog_7_method_76_code, 2, some .int, false, 0, 1, 1120, 1118, 1119, 65)
def mi178 : MI := (⟨"FerryForAloneModel", "back", "()I"⟩, prog_7_method_77_code, 2, some .int, false, 0, 1, 1124, 1122, 1123, 65)
def mi179 : MI := (⟨"FerryForAloneModel", "sheet", "(III)I"⟩, prog_7_method_78_code, 5, some .int, false, 3, 2, 1128, 1126, 1127, 65)
def mi180 : MI := (⟨"FerryForAloneModel", "cell", "(III)I"⟩, prog_7_method_79_code, 4, some .int, false, 3, 2, 1132, 1130, 1131, 65)
def mi181 : MI := (⟨"FerryForAloneModel", "copy", "(IIIII)I"⟩, prog_7_method_80_code, 10, some .int, false, 5, 2, 1136, 1134, 1135, 65)
def mi182 : MI := (⟨"FerryForAloneModel", "peopleBy", "(IIII)I"⟩, prog_7_method_81_code, 9, some .int, false, 4, 3, 1140, 1138, 1139, 65)
def mi183 : MI := (⟨"FerryForAloneModel", "isUnder", "(II)Z"⟩, prog_7_method_82_code, 2, some .boolean, true, 2, 1, 1148, 1147, 0, 65)
def mi184 : MI := (⟨"FerryForAloneModel", "taken", "(II)I"⟩, prog_7_method_83_code, 3, some .int, false, 2, 2, 1145, 1143, 1144, 65)
def mi185 : MI := (⟨"FerryForAloneLaw", "law", "([I)Z"⟩, code, 4, some .boolean, true, 1, 18, 0, 0, 0, 0)
def mk0 : List MI := [mi0_, mi1, mi2, mi3, mi4, mi5, mi6, mi7, mi8, mi9, mi10, mi11, mi12, mi13, mi14, mi15]
def mk1 : List MI := [mi16, mi17, mi18, mi19, mi20, mi21, mi22, mi23, mi24, mi25, mi26, mi27, mi28, mi29, mi30, mi31]
def mk2 : List MI := [mi32, mi33, mi34, mi35, mi36, mi37, mi38, mi39, mi40, mi41, mi42, mi43, mi44, mi45, mi46, mi47]
def mk3 : List MI := [mi48, mi49, mi50, mi51, mi52, mi53, mi54, mi55, mi56, mi57, mi58, mi59, mi60, mi61, mi62, mi63]
def mk4 : List MI := [mi64, mi65, mi66, mi67, mi68, mi69, mi70, mi71, mi72, mi73, mi74, mi75, mi76, mi77, mi78, mi79]
def mk5 : List MI := [mi80, mi81, mi82, mi83, mi84, mi85, mi86, mi87, mi88, mi89, mi90, mi91, mi92, mi93, mi94, mi95]
def mk6 : List MI := [mi96, mi97, mi98, mi99, mi100, mi101, mi102, mi103, mi104, mi105, mi106, mi107, mi108, mi109, mi110, mi111]
def mk7 : List MI := [mi112, mi113, mi114, mi115, mi116, mi117, mi118, mi119, mi120, mi121, mi122, mi123, mi124, mi125, mi126, mi127]
def mk8 : List MI := [mi128, mi129, mi130, mi131, mi132, mi133, mi134, mi135, mi136, mi137, mi138, mi139, mi140, mi141, mi142, mi143]
def mk9 : List MI := [mi144, mi145, mi146, mi147, mi148, mi149, mi150, mi151, mi152, mi153, mi154, mi155, mi156, mi157, mi158, mi159]
def mk10 : List MI := [mi160, mi161, mi162, mi163, mi164, mi165, mi166, mi167, mi168, mi169, mi170, mi171, mi172, mi173, mi174, mi175]
def mk11 : List MI := [mi176, mi177, mi178, mi179, mi180, mi181, mi182, mi183, mi184, mi185]
def mis : List (List MI) := [mk0, mk1, mk2, mk3, mk4, mk5, mk6, mk7, mk8, mk9, mk10, mk11]
def mi0 : Option (List MI) → Nat → Option MI
  | none, _ => none
  | some b, j => nth b j
def mi? (y : Nat) : Option MI := mi0 (nth mis (y / 16)) (y % 16)
def mxOf : Option MI → Nat
  | none => 0
  | some t => t.2.2.1
/-- how many locals -/
def mx (y : Nat) : Nat := mxOf (mi? y)
end
section
/-! THE PURE MACHINE. A value is a Value whose references are numbers of cells; a store gives what stands at each place of each cell. -/
abbrev Sto : Type := Nat → Nat → Int32
abbrev Rs : Type := Int32 × Int64 × Sto
def su (σ : Sto) (c i : Nat) (v : Int32) : Sto := fun c' => if c' = c then upd (σ c) i v else σ c'
def inb (i : Int32) (n : Nat) : Bool := decide (0 ≤ i.toInt) && decide (i.toInt < (n : Int))
def zb (v : Int32) : Bool := v == 0 || v == 1
/-- what a small type keeps of an int is the int itself -/
def nok : Nat → Int32 → Bool
  | 0, _ => true
  | 1, v => zb v
  | 2, v => v.toInt8.toInt32 == v
  | 3, v => (v.toUInt32.toUInt16.toUInt32.toInt32) == v
  | _, v => v.toInt16.toInt32 == v
def memb : List Nat → Nat → Bool
  | [], _ => false
  | a :: l, n => Nat.beq a n || memb l n
/-- a long's second half is no value; nothing is said of a place that holds .null -/
def dl (v : Value) : Value := if v.category = 2 then .null else v
def st1 : List Value → Nat → Value → List Value
  | [], _, _ => []
  | _ :: l, 0, v => v :: l
  | a :: l, 1, v => dl a :: st1 l 0 v
  | a :: l, n + 2, v => a :: st1 l (n + 1) v
def nul1 : List Value → List Value
  | [] => []
  | _ :: l => .null :: l
def st2 : List Value → Nat → Value → List Value
  | [], _, _ => []
  | _ :: l, 0, v => v :: nul1 l
  | a :: l, 1, v => dl a :: st2 l 0 v
  | a :: l, n + 2, v => a :: st2 l (n + 1) v
def pad : Nat → List Value → List Value
  | 0, l => l
  | n + 1, [] => .null :: pad n []
  | n + 1, a :: l => a :: pad n l
def wide : List Value → List Value
  | [] => []
  | a :: l => if a.category = 2 then a :: .null :: wide l else a :: wide l
/-- a method's first locals -/
def ent (y : Nat) (as : List Value) : List Value := pad (mx y) (wide as)
def popn : Nat → List Value → List Value → Option (List Value × List Value)
  | 0, st, acc => some (acc, st)
  | _ + 1, [], _ => none
  | n + 1, v :: st, acc => popn n st (v :: acc)
def byteL : List (List Int32) := [[103, 97, 112, 115], [108, 105, 107, 101, 115], [119, 97, 108, 107, 115], [111, 114], [97, 110, 100], [110, 111, 116], [112, 108, 97, 99, 101], [119, 97, 105, 116, 101, 100], [104, 111, 117, 114], [115, 101, 101, 110], [102, 101, 116, 99, 104, 101, 100], [109, 111, 114, 101]]
def byteOf (k : Nat) : List Int32 := match nth byteL k with
  | some l => l
  | none => []
def kLaw : Nat := 185
def absI (x : Int32) : Int32 := if 0 ≤ x then x else 0 - x
def maxI (x y : Int32) : Int32 := if x < y then y else x
def minI (x y : Int32) : Int32 := if y < x then y else x
/-! One instruction's outcome: a list of guards, each with what comes if it holds, and what comes if none does. What comes: to go on in the method; to call, and with what to go on behind it; to return; or nothing. -/
abbrev Gd : Type := (p : Prop) ×' Decidable p
abbrev Lf : Type := (Nat × List Value × List Value × Sto) ⊕ ((Nat × Nat × List Value × Sto × (Rs → List Value)) ⊕ Rs)
abbrev DL : Type := List (Gd × Option Lf) × Option Lf
def no : DL := ([], none)
def lgo (i : Nat) (L st : List Value) (σ : Sto) : Option Lf := some (.inl (i, L, st, σ))
def go (i : Nat) (L st : List Value) (σ : Sto) : DL := ([], lgo i L st σ)
def cal (y k : Nat) (as : List Value) (σ : Sto) (kk : Rs → List Value) : DL := ([], some (.inr (.inl (y, k, as, σ, kk))))
def rtn (r : Rs) : DL := ([], some (.inr (.inr r)))
def gif (p : Prop) (h : Decidable p) (o : Option Lf) (B : DL) : DL := ((⟨p, h⟩, o) :: B.1, B.2)
def ldI (L : List Value) (j : Nat) (f : Int32 → DL) : DL := match nth L j with
  | some (.int x) => f x
  | _ => no
def ldJ (L : List Value) (j : Nat) (f : Int64 → DL) : DL := match nth L j with
  | some (.long x) => f x
  | _ => no
def ldR (L : List Value) (j : Nat) (f : Nat → DL) : DL := match nth L j with
  | some (.ref x) => f x
  | _ => no
def p1 (st : List Value) (f : Int32 → List Value → DL) : DL := match st with
  | .int x :: r => f x r
  | _ => no
def p2 (st : List Value) (f : Int32 → Int32 → List Value → DL) : DL := match st with
  | .int y :: .int x :: r => f x y r
  | _ => no
def q1 (st : List Value) (f : Int64 → List Value → DL) : DL := match st with
  | .long x :: r => f x r
  | _ => no
def q2 (st : List Value) (f : Int64 → Int64 → List Value → DL) : DL := match st with
  | .long y :: .long x :: r => f x y r
  | _ => no
def q3 (st : List Value) (f : Int64 → Int32 → List Value → DL) : DL := match st with
  | .int y :: .long x :: r => f x y r
  | _ => no
def c1 (st : List Value) (f : Nat → List Value → DL) : DL := match st with
  | .ref x :: r => f x r
  | _ => no
def c2 (st : List Value) (f : Nat → Int32 → List Value → DL) : DL := match st with
  | .int y :: .ref x :: r => f x y r
  | _ => no
def c3 (st : List Value) (f : Nat → Int32 → Int32 → List Value → DL) : DL := match st with
  | .int v :: .int y :: .ref x :: r => f x y v r
  | _ => no
def c4 (st : List Value) (f : Nat → Int32 → List Value → DL) : DL := match st with
  | .int v :: .ref x :: r => f x v r
  | _ => no
/-- a value of one slot on top -/
def d1 (st : List Value) (f : Value → List Value → DL) : DL := match st with
  | .int x :: r => f (.int x) r
  | .ref x :: r => f (.ref x) r
  | _ => no
/-- a field of an object -/
def fldG (Sh : Nat → Option Cs) (c a b : Nat) (f : Option Nat → DL) : DL := match Sh c with
  | some (.inl (ci, ks)) => if ci = a then (match nth ks b with
    | some o => f o
    | none => no) else no
  | _ => no
/-- a row -/
def rowG (Sh : Nat → Option Cs) (c : Nat) (z : Bool) (f : Nat → DL) : DL := match Sh c with
  | some (.inr (z', n)) => if z' = z then f n else no
  | _ => no
def rowL (Sh : Nat → Option Cs) (c : Nat) (f : Nat → DL) : DL := match Sh c with
  | some (.inr (_, n)) => f n
  | _ => no
def swc (x : Int32) (L st : List Value) (σ : Sto) (a : Nat) : List (Int32 × Nat) → DL
  | [] => go a L st σ
  | t :: ts => gif (x = t.1) inferInstance (lgo t.2 L st σ) (swc x L st σ a ts)
def popG (n m : Nat) (st : List Value) (f : List Value → List Value → DL) : DL := match popn n st [] with
  | some (as, r) => if (r.map fun v => v.category).sum ≤ 8 ∧ (wide as).length ≤ m then f as r else no
  | none => no
/-- the receiver is an object of the kind k (50: a String constant) -/
def recvG (Sh : Nat → Option Cs) (as : List Value) (k : Nat) (f : DL) : DL := match as with
  | .ref c :: _ => if k = 50 then (if 100 ≤ c ∧ c < 112 then f else no) else (match Sh c with
    | some (.inl (ci, _)) => if ci = k then f else no
    | _ => no)
  | _ => no
def pushR (e : Nat) (r : Rs) (st : List Value) : List Value := match e with
  | 0 => st
  | 1 => .int r.1 :: st
  | _ => .long r.2.1 :: st
def cpy (σ : Sto) (c d : Nat) (sp dp n : Int32) : Sto := fun c' => if c' = d then va_cpy (σ c) (σ d) sp.toNatClampNeg dp.toNatClampNeg n.toNatClampNeg else σ c'
def carryG (Sh : Nat → Option Cs) (i : Nat) (L st : List Value) (σ : Sto) : DL := match st with
  | .int n :: .int dp :: .ref d :: .int sp :: .ref c :: r =>
    rowG Sh c false (fun nc => rowG Sh d false (fun nd => if (r.map fun v => v.category).sum ≤ 8 then
      gif (0 ≤ sp.toInt ∧ 0 ≤ dp.toInt ∧ 0 ≤ n.toInt ∧ sp.toInt + n.toInt ≤ (nc : Int) ∧ dp.toInt + n.toInt ≤ (nd : Int)) inferInstance (lgo i L r (cpy σ c d sp dp n)) no else no))
  | _ => no
/-- one instruction -/
def act (Sh : Nat → Option Cs) (y k i : Nat) (L st : List Value) (σ : Sto) : DL := match fetch y i with
  | none => no
  | some (I, _, a, b, d, e, f, _, v, w, ts) => match I with
    | .aload_n n => ldR L n.val (fun x => go (i + 1) L (.ref x :: st) σ)
    | .iload_n n => ldI L n.val (fun x => go (i + 1) L (.int x :: st) σ)
    | .iload n => ldI L n (fun x => go (i + 1) L (.int x :: st) σ)
    | .lload_n n => ldJ L n.val (fun x => go (i + 1) L (.long x :: st) σ)
    | .lload n => ldJ L n (fun x => go (i + 1) L (.long x :: st) σ)
    | .istore_n n => p1 st (fun x r => go (i + 1) (st1 L n.val (.int x)) r σ)
    | .istore n => p1 st (fun x r => go (i + 1) (st1 L n (.int x)) r σ)
    | .lstore_n n => q1 st (fun x r => go (i + 1) (st2 L n.val (.long x)) r σ)
    | .lstore n => q1 st (fun x r => go (i + 1) (st2 L n (.long x)) r σ)
    | .iinc n _ => ldI L n (fun x => go (i + 1) (st1 L n (.int (x + v))) st σ)
    | .iconst _ => go (i + 1) L (.int v :: st) σ
    | .bipush _ => go (i + 1) L (.int v :: st) σ
    | .sipush _ => go (i + 1) L (.int v :: st) σ
    | .ldc _ => if a = 1 then go (i + 1) L (.ref b :: st) σ else go (i + 1) L (.int v :: st) σ
    | .ldc_w _ => go (i + 1) L (.int v :: st) σ
    | .ldc2_w _ => go (i + 1) L (.long w :: st) σ
    | .lconst _ => go (i + 1) L (.long w :: st) σ
    | .getfield _ => c1 st (fun c r => if a = 50 then (if 100 ≤ c ∧ c < 112 then go (i + 1) L (.ref (c + 100) :: r) σ else no)
        else if a = 51 then (if 100 ≤ c ∧ c < 112 then go (i + 1) L (.int 0 :: r) σ else no)
        else fldG Sh c a b (fun o => match o with
          | none => go (i + 1) L (.int (σ c b) :: r) σ
          | some x => go (i + 1) L (.ref x :: r) σ))
    | .putfield _ => c4 st (fun c x r => fldG Sh c a b (fun o => match o with
          | none => if d = 0 then go (i + 1) L r (su σ c b x) else gif (zb x = true) inferInstance (lgo (i + 1) L r (su σ c b x)) no
          | some _ => no))
    | .getstatic _ => if a = 1 then go (i + 1) L (.int v :: st) σ else if a = 2 then go (i + 1) L (.ref 300 :: st) σ else no
    | .iaload => c2 st (fun c x r => if a = 1 then (if c = 99 then gif (inb x (σ 98 0).toNatClampNeg = true) inferInstance (lgo (i + 1) L (.int (σ 99 x.toNatClampNeg) :: r) σ) no else no)
        else rowG Sh c false (fun n => gif (inb x n = true) inferInstance (lgo (i + 1) L (.int (σ c x.toNatClampNeg) :: r) σ) no))
    | .baload => c2 st (fun c x r => if a = 2 then (if 200 ≤ c ∧ c < 212 then gif (inb x (byteOf (c - 200)).length = true) inferInstance (lgo (i + 1) L (.int ((byteOf (c - 200)).getD x.toNatClampNeg 0) :: r) σ) no else no)
        else rowG Sh c true (fun n => gif (inb x n = true) inferInstance (lgo (i + 1) L (.int (σ c x.toNatClampNeg) :: r) σ) no))
    | .iastore => c3 st (fun c x z r => rowG Sh c false (fun n => gif (inb x n = true) inferInstance (lgo (i + 1) L r (su σ c x.toNatClampNeg z)) no))
    | .bastore => c3 st (fun c x z r => rowG Sh c true (fun n => gif (inb x n = true ∧ zb z = true) inferInstance (lgo (i + 1) L r (su σ c x.toNatClampNeg z)) no))
    | .arraylength => c1 st (fun c r => if a = 1 then (if c = 99 then go (i + 1) L (.int (σ 98 0) :: r) σ else no)
        else if a = 2 then (if 200 ≤ c ∧ c < 212 then go (i + 1) L (.int (Int32.ofNat (byteOf (c - 200)).length) :: r) σ else no)
        else rowL Sh c (fun n => go (i + 1) L (.int (Int32.ofNat n) :: r) σ))
    | .invokevirtual _ => if d = 0 then popG b (mx a) st (fun as r => recvG Sh as f (match ts with
          | [] => cal a k as σ (fun s => pushR e s r)
          | _ :: _ => gif (k < 6) inferInstance (some (.inr (.inl (a, k + 1, as, σ, fun s => pushR e s r)))) no)) else no
    | .invokestatic _ => if d = 3 then carryG Sh (i + 1) L st σ
        else if d = 4 then p1 st (fun x r => if (r.map fun v => v.category).sum ≤ 8 then go (i + 1) L (.int (absI x) :: r) σ else no)
        else if d = 5 then p2 st (fun x y r => if (r.map fun v => v.category).sum ≤ 8 then go (i + 1) L (.int (maxI x y) :: r) σ else no)
        else if d = 6 then p2 st (fun x y r => if (r.map fun v => v.category).sum ≤ 8 then go (i + 1) L (.int (minI x y) :: r) σ else no)
        else if d = 1 ∨ d = 2 then popG b (mx a) st (fun as r => cal a k as σ (fun s => pushR e s r)) else no
    | .iadd => p2 st (fun x y r => go (i + 1) L (.int (x + y) :: r) σ)
    | .isub => p2 st (fun x y r => go (i + 1) L (.int (x - y) :: r) σ)
    | .imul => p2 st (fun x y r => go (i + 1) L (.int (x * y) :: r) σ)
    | .idiv => p2 st (fun x y r => gif (y = 0) inferInstance none (go (i + 1) L (.int (x / y) :: r) σ))
    | .irem => p2 st (fun x y r => gif (y = 0) inferInstance none (go (i + 1) L (.int (x - x / y * y) :: r) σ))
    | .ineg => p1 st (fun x r => go (i + 1) L (.int (-x) :: r) σ)
    | .iand => p2 st (fun x y r => go (i + 1) L (.int (x &&& y) :: r) σ)
    | .ior => p2 st (fun x y r => go (i + 1) L (.int (x ||| y) :: r) σ)
    | .ixor => p2 st (fun x y r => go (i + 1) L (.int (x ^^^ y) :: r) σ)
    | .ishl => p2 st (fun x y r => go (i + 1) L (.int (x <<< (y &&& 31)) :: r) σ)
    | .ishr => p2 st (fun x y r => go (i + 1) L (.int (x >>> (y &&& 31)) :: r) σ)
    | .iushr => p2 st (fun x y r => go (i + 1) L (.int (x.toUInt32 >>> (y.toUInt32 &&& Int32.toUInt32 31)).toInt32 :: r) σ)
    | .ladd => q2 st (fun x y r => go (i + 1) L (.long (x + y) :: r) σ)
    | .lsub => q2 st (fun x y r => go (i + 1) L (.long (x - y) :: r) σ)
    | .lmul => q2 st (fun x y r => go (i + 1) L (.long (x * y) :: r) σ)
    | .ldiv => q2 st (fun x y r => gif (y = 0) inferInstance none (go (i + 1) L (.long (x / y) :: r) σ))
    | .lrem => q2 st (fun x y r => gif (y = 0) inferInstance none (go (i + 1) L (.long (x - x / y * y) :: r) σ))
    | .lor => q2 st (fun x y r => go (i + 1) L (.long (x ||| y) :: r) σ)
    | .lshl => q3 st (fun x y r => go (i + 1) L (.long (x <<< (y.toInt64 &&& 63)) :: r) σ)
    | .lcmp => q2 st (fun x y r => go (i + 1) L (.int (lg_cmp x y) :: r) σ)
    | .i2l => p1 st (fun x r => go (i + 1) L (.long x.toInt64 :: r) σ)
    | .l2i => q1 st (fun x r => go (i + 1) L (.int x.toInt32 :: r) σ)
    | .i2b => p1 st (fun x r => go (i + 1) L (.int x.toInt8.toInt32 :: r) σ)
    | .i2s => p1 st (fun x r => go (i + 1) L (.int x.toInt16.toInt32 :: r) σ)
    | .i2c => p1 st (fun x r => go (i + 1) L (.int (x.toUInt32 % 65536).toInt32 :: r) σ)
    | .dup => d1 st (fun x r => go (i + 1) L (x :: x :: r) σ)
    | .dup2 => d1 st (fun x r => d1 r (fun z r => go (i + 1) L (x :: z :: x :: z :: r) σ))
    | .pop => d1 st (fun _ r => go (i + 1) L r σ)
    | .goto _ => go a L st σ
    | .ifCond o _ => p1 st (fun x r => match o with
        | .eq => gif (x = 0) inferInstance (lgo a L r σ) (go (i + 1) L r σ)
        | .ne => gif (x = 0) inferInstance (lgo (i + 1) L r σ) (go a L r σ)
        | .lt => gif (x < 0) inferInstance (lgo a L r σ) (go (i + 1) L r σ)
        | .ge => gif (x < 0) inferInstance (lgo (i + 1) L r σ) (go a L r σ)
        | .gt => gif (0 < x) inferInstance (lgo a L r σ) (go (i + 1) L r σ)
        | .le => gif (0 < x) inferInstance (lgo (i + 1) L r σ) (go a L r σ))
    | .if_icmp o _ => p2 st (fun x y r => match o with
        | .eq => gif (x = y) inferInstance (lgo a L r σ) (go (i + 1) L r σ)
        | .ne => gif (x = y) inferInstance (lgo (i + 1) L r σ) (go a L r σ)
        | .lt => gif (x < y) inferInstance (lgo a L r σ) (go (i + 1) L r σ)
        | .ge => gif (x < y) inferInstance (lgo (i + 1) L r σ) (go a L r σ)
        | .gt => gif (y < x) inferInstance (lgo a L r σ) (go (i + 1) L r σ)
        | .le => gif (y < x) inferInstance (lgo (i + 1) L r σ) (go a L r σ))
    | .tableswitch .. => p1 st (fun x r => swc x L r σ a ts)
    | .lookupswitch .. => p1 st (fun x r => swc x L r σ a ts)
    | .ireturn => match st with
      | [.int x] => if a = 0 then rtn (x, 0, σ) else gif (nok a x = true) inferInstance (some (.inr (.inr (x, 0, σ)))) no
      | _ => no
    | .lreturn => match st with
      | [.long x] => rtn (0, x, σ)
      | _ => no
    | .return_ => match st with
      | [] => rtn (0, 0, σ)
      | _ => no
    | _ => no
abbrev KT : Type := Nat → Nat → Nat → List Value → List Value → Sto → Option Rs
/-- what comes, with K for the rest of the method (from i on; the locals L) and for the called ones -/
def lfK (K : KT) (K' : Nat → List Value → List Value → Sto → Option Rs) (i : Nat) (L : List Value) (o : Option Lf) : Option Rs := match o with
  | none => none
  | some (.inl (i', L', st', σ')) => K' i' L' st' σ'
  | some (.inr (.inl (y', k', as, σ', kk))) => (K y' k' 0 (ent y' as) [] σ').bind fun r => K' (i + 1) L (kk r) r.2.2
  | some (.inr (.inr r)) => some r
def fold (K : KT) (K' : Nat → List Value → List Value → Sto → Option Rs) (i : Nat) (L : List Value) (z : Option Lf) : List (Gd × Option Lf) → Option Rs
  | [] => lfK K K' i L z
  | g :: gs => @ite _ g.1.1 g.1.2 (lfK K K' i L g.2) (fold K K' i L z gs)
/-- one step, with K for what comes behind it -/
def stepF (Sh : Nat → Option Cs) (K : KT) : KT := fun y k i L st σ => fold K (K y k) i L (act Sh y k i L st σ).2 (act Sh y k i L st σ).1
def run (Sh : Nat → Option Cs) : Nat → KT
  | 0 => fun _ _ _ _ _ _ => none
  | n + 1 => stepF Sh (run Sh n)
def stp (K K' : Nat → List Value → List Value → Sto → Option Rs) (stops : List Nat) (i : Nat) (L st : List Value) (σ : Sto) : Option Rs := match memb stops i with
  | true => K i L st σ
  | false => K' i L st σ
def fold1 (K : KT) (K' : Nat → List Value → List Value → Sto → Option Rs) (i : Nat) (L : List Value) (d : DL) : Option Rs := fold K K' i L d.2 d.1
/-- n steps from here on, or fewer, till one of the stops; with K for what comes behind -/
def unr (Sh : Nat → Option Cs) (K : KT) (stops : List Nat) (y k : Nat) : Nat → Nat → List Value → List Value → Sto → Option Rs
  | 0 => K y k
  | n + 1 => fun i L st σ => fold1 K (stp (K y k) (unr Sh K stops y k n) stops) i L (act Sh y k i L st σ)
end
section
/-! CHECKS: what the tables say is what the bytes and the words say -/
def TT : List Jvm.Cond := lw_tbl.filter goodWord
theorem inTT {p : Nat} {w : Jvm.Cond} (h : nth lw_tbl p = some w) (hg : goodWord w = true) : w ∈ TT := by
  have key : ∀ (l : List Jvm.Cond) (p : Nat), nth l p = some w → w ∈ l := by
    intro l
    induction l with
    | nil => intro p h; cases h
    | cons a l ih =>
      intro p h
      cases p with
      | zero => cases h; exact List.mem_cons_self
      | succ p => exact List.mem_cons_of_mem _ (ih p h)
  exact List.mem_filter.mpr ⟨key _ _ h, hg⟩
theorem goodTT : GoodIn TT TT := fun _ h => ⟨h, good_of_word (List.mem_filter.mp h).2⟩
def strK : List (Nat × String) := [(112, "gaps"), (118, "likes"), (120, "walks"), (122, "or"), (124, "and"), (126, "not"), (128, "place"), (130, "waited"), (132, "hour"), (134, "seen"), (136, "fetched"), (138, "more")]
def eOf : Option FieldType → Nat
  | none => 0
  | some .long => 2
  | some _ => 1
def narK : Option FieldType → Nat → Bool
  | some .int, 0 => true
  | some .boolean, 1 => true
  | some .byte, 2 => true
  | some .char, 3 => true
  | _, _ => false
def mAt (y i : Nat) (z : Int) : Bool := match fetch y i with
  | some r => decide ((r.2.1 : Int) = z)
  | none => false
def ftC (y i q n len : Nat) : Bool := decide (n = len) && mAt y (i + 1) ((q + len : Nat) : Int)
def wC (p : Nat) (w : Jvm.Cond) : Bool := match nth lw_tbl p with
  | some w' => decide (w' = w)
  | none => false
def tsC (y : Nat) (q : Nat) (lo : Int) : Nat → List (Int32 × Nat) → List Int → Bool
  | _, [], [] => true
  | j, t :: ts, off :: offs => decide (t.1.toInt = lo + (j : Nat)) && mAt y t.2 (q + off) && tsC y q lo (j + 1) ts offs
  | _, _, _ => false
def lsC (y : Nat) (q : Nat) : List (Int32 × Nat) → List (Int × Int) → Bool
  | [], [] => true
  | t :: ts, pr :: prs => decide (t.1.toInt = pr.1) && mAt y t.2 (q + pr.2) && lsC y q ts prs
  | _, _ => false
def fldC (own : String) (idx p a b : Nat) (wr : Bool) (d : Nat) : Bool := match nth qcl a with
  | some (C, T, N) => decide (b < N) && decide ((T b).1 = C) && wC p (.fieldLink own idx C (T b).2.1 (T b).2.2.1) && (!wr || (decide ((T b).2.2.2 = false) && decide ((T b).2.2.1 = if d = 0 then "I" else "Z")))
  | none => false
def clsC (f : Nat) (C : String) : Bool := if f = 50 then decide (C = "java/lang/String") else match nth qcl f with
  | some q => decide (C = q.1)
  | none => false
def callC (t : MI) (own : String) (idx a b d e f p : Nat) (ts : List (Int32 × Nat)) : Bool := match mi? a with
  | none => false
  | some t' => decide (a ≠ kLaw) && decide (e = eOf t'.2.2.2.1) && (if d = 2 then decide (own = "FerryForAlone$Strand") && decide (idx = 51) && decide (t'.1 = ⟨"FerryForAlone", "within", "(III)Z"⟩) else wC p (.methodLink own idx t'.1)) &&
    (if d = 0 then decide (t'.2.2.2.2.1 = false) && decide (b = t'.2.2.2.2.2.1 + 1) && clsC f t'.1.cls && (match ts with
      | [] => decide (t'.2.2.2.2.2.2.1 < t.2.2.2.2.2.2.1)
      | _ :: _ => decide (t'.2.2.2.2.2.2.1 < t.2.2.2.2.2.2.1 + 20))
    else decide (t'.2.2.2.2.1 = true) && decide (b = t'.2.2.2.2.2.1) && decide (t'.2.2.2.2.2.2.1 < t.2.2.2.2.2.2.1))
def chkK (t : MI) (y i q a b d e f p : Nat) (v : Int32) (w : Int64) (ts : List (Int32 × Nat)) (n : Nat) (I : Instr) : Bool := match I with
  | .aload_n _ | .iload_n _ | .lload_n _ => ftC y i q n 1
  | .iload _ | .lload _ => ftC y i q n 2
  | .istore_n k => ftC y i q n 1 && decide (k.val < t.2.2.1)
  | .istore k => ftC y i q n 2 && decide (k < t.2.2.1)
  | .lstore_n k => ftC y i q n 1 && decide (k.val + 1 < t.2.2.1)
  | .lstore k => ftC y i q n 2 && decide (k + 1 < t.2.2.1)
  | .iinc k z => ftC y i q n 3 && decide (k < t.2.2.1) && decide (Int32.ofInt z = v)
  | .iconst z => ftC y i q n 1 && decide (Int32.ofInt z = v)
  | .bipush z => ftC y i q n 2 && decide ((Int8.ofInt z).toInt32 = v)
  | .sipush z => ftC y i q n 3 && decide ((Int16.ofInt z).toInt32 = v)
  | .ldc idx => ftC y i q n 2 && (if a = 1 then decide (t.1.cls = "FerryForAlone$Reader") && decide (100 ≤ b) && (match nth strK (b - 100) with
      | some s => decide (s.1 = idx)
      | none => false) else wC p (.constant t.1.cls idx v))
  | .ldc_w idx => ftC y i q n 3 && wC p (.constant t.1.cls idx v)
  | .ldc2_w idx => ftC y i q n 3 && wC p (.constantLong t.1.cls idx w)
  | .lconst z => ftC y i q n 1 && decide (Int64.ofNat z.val = w)
  | .getfield idx => ftC y i q n 3 && (if a = 50 then wC p (.fieldLink t.1.cls idx "java/lang/String" "value" "[B") else if a = 51 then wC p (.fieldLink t.1.cls idx "java/lang/String" "coder" "B") else fldC t.1.cls idx p a b false d)
  | .putfield idx => ftC y i q n 3 && fldC t.1.cls idx p a b true d
  | .getstatic idx => ftC y i q n 3 && (if a = 1 then decide (v = 1) && wC p (.fieldLink t.1.cls idx "java/lang/String" "COMPACT_STRINGS" "Z") else if a = 2 then wC p (.fieldLink t.1.cls idx "jdk/internal/util/Preconditions" "SIOOBE_FORMATTER" "Ljava/util/function/BiFunction;") else true)
  | .iaload | .arraylength => ftC y i q n 1 && (if a = 1 then decide (y = kLaw) else true)
  | .baload | .iastore | .bastore | .iadd | .isub | .imul | .idiv | .irem | .ineg | .iand | .ior | .ixor | .ishl | .ishr | .iushr | .ladd | .lsub | .lmul | .ldiv | .lrem | .lor | .lshl | .lcmp | .i2l | .l2i | .i2b | .i2s | .i2c | .dup | .dup2 | .pop => ftC y i q n 1
  | .invokevirtual idx => if d = 0 then ftC y i q n 3 && callC t t.1.cls idx a b d e f p ts else true
  | .invokestatic idx => if d = 3 then ftC y i q n 3 && wC p (.methodLink t.1.cls idx arraycopyName) else if d = 4 then ftC y i q n 3 && wC p (.methodLink t.1.cls idx Lib.Math.abs.name) else if d = 5 then ftC y i q n 3 && wC p (.methodLink t.1.cls idx Lib.Math.max.name) else if d = 6 then ftC y i q n 3 && wC p (.methodLink t.1.cls idx Lib.Math.min.name) else if d = 1 ∨ d = 2 then ftC y i q n 3 && callC t t.1.cls idx a b d e f p ts else true
  | .goto off => decide (n = 3) && mAt y a (q + off)
  | .ifCond _ off | .if_icmp _ off => ftC y i q n 3 && mAt y a (q + off)
  | .tableswitch dflt lo hi offs => mAt y a (q + dflt) && tsC y q lo 0 ts offs.toList && decide (hi = lo + (offs.size : Int) - 1)
  | .lookupswitch dflt ps => mAt y a (q + dflt) && lsC y q ts ps.toList && (ps.toList.zip (ps.toList.drop 1)).all (fun (a, next) => a.1 < next.1)
  | .ireturn => decide (n = 1) && narK t.2.2.2.1 a
  | .lreturn => decide (n = 1) && decide (t.2.2.2.1 = some .long)
  | .return_ => decide (n = 1) && decide (t.2.2.2.1 = none)
  | _ => true
def chkI (t : MI) (y i : Nat) (r : RI) : Bool := match r with
  | (I, q, a, b, d, e, f, p, v, w, ts) => match decode t.2.1 q with
    | .error _ => false
    | .ok (J, n) => decide (J = I) && chkK t y i q a b d e f p v w ts n I
def chk (y i : Nat) : Bool := match mi? y with
  | none => true
  | some t => match fetch y i with
    | none => true
    | some r => chkI t y i r
/-- all instructions of the chunks lo .. lo + n - 1 of a method -/
def chkR (y lo : Nat) : Nat → Bool
  | 0 => true
  | n + 1 => chk y lo && chkR y (lo + 1) n
end
section
/-! WORLDS: where the cells lie; what a store is in the heap -/
abbrev Geo : Type := (Nat → Nat) × (Nat → ClassId) × va_G × (Nat → Nat) × (Nat → Nat) × Value
def cr (G : Geo) (c : Nat) : Value := if c < 100 then .ref (G.1 c) else if c < 200 then .ref (G.2.2.2.1 (c - 100)) else if c < 300 then .ref (G.2.2.2.2.1 (c - 200)) else G.2.2.2.2.2
def cv (G : Geo) (v : Value) : Value := match v with
  | .ref c => cr G c
  | v => v
theorem cr_cat {G : Geo} (hF : G.2.2.2.2.2.category = 1) (c : Nat) : (cr G c).category = 1 := by
  unfold cr
  split
  · rfl
  · split
    · rfl
    · split
      · rfl
      · exact hF
theorem cv_cat {G : Geo} (hF : G.2.2.2.2.2.category = 1) (v : Value) : (cv G v).category = v.category := by
  cases v <;> first | rfl | exact cr_cat hF _
theorem cv_sum {G : Geo} (hF : G.2.2.2.2.2.category = 1) (l : List Value) : ((l.map (cv G)).map fun v => v.category).sum = (l.map fun v => v.category).sum := by
  induction l with
  | nil => rfl
  | cons a l ih => simp only [List.map_cons, List.sum_cons, ih, cv_cat hF]
theorem cr_lo {G : Geo} {c : Nat} (h : c < 100) : cr G c = .ref (G.1 c) := if_pos h
/-! locals -/
def hL (G : Geo) (ls : Array Slot) (nL : Nat) (L : List Value) : Prop := ls.size = nL ∧ lv_wf ls ∧ ∀ (i : Nat) (v : Value), nth L i = some v → v ≠ .null → ls[i]? = some (.val (cv G v))
def asL (G : Geo) : Nat → List Value → List (Nat × Value)
  | _, [] => []
  | i, v :: l => if v = .null then asL G (i + 1) l else (i, cv G v) :: asL G (i + 1) l
theorem asL_mem {G : Geo} {q : Nat × Value} : ∀ (L : List Value) (i : Nat), q ∈ asL G i L ↔ ∃ (j : Nat) (v : Value), nth L j = some v ∧ v ≠ .null ∧ q = (i + j, cv G v) := by
  intro L
  induction L with
  | nil => intro i; simp [asL, nth]
  | cons a l ih =>
    intro i
    unfold asL
    by_cases h : a = .null
    · rw [if_pos h, ih]
      constructor
      · rintro ⟨j, v, h1, h2, rfl⟩
        exact ⟨j + 1, v, h1, h2, by rw [show i + (j + 1) = i + 1 + j by omega]⟩
      · rintro ⟨j, v, h1, h2, rfl⟩
        cases j with
        | zero => cases h1; exact absurd h h2
        | succ j => exact ⟨j, v, h1, h2, by rw [show i + (j + 1) = i + 1 + j by omega]⟩
    · rw [if_neg h, List.mem_cons, ih]
      constructor
      · rintro (rfl | ⟨j, v, h1, h2, rfl⟩)
        · exact ⟨0, a, rfl, h, rfl⟩
        · exact ⟨j + 1, v, h1, h2, by rw [show i + (j + 1) = i + 1 + j by omega]⟩
      · rintro ⟨j, v, h1, h2, rfl⟩
        cases j with
        | zero => cases h1; exact Or.inl rfl
        | succ j => exact Or.inr ⟨j, v, h1, h2, by rw [show i + (j + 1) = i + 1 + j by omega]⟩
theorem hL.has {G : Geo} {ls : Array Slot} {nL : Nat} {L : List Value} (h : hL G ls nL L) : lv_has ls nL (asL G 0 L) :=
  ⟨h.1, h.2.1, fun q hq => by
    obtain ⟨j, v, h1, h2, rfl⟩ := (asL_mem L 0).mp hq
    simpa using h.2.2 j v h1 h2⟩
theorem nth_st1 : ∀ (L : List Value) (i : Nat) (v : Value) (j : Nat) (w : Value), nth (st1 L i v) j = some w →
    (j = i ∧ w = v) ∨ (j + 1 = i ∧ ∃ u, nth L j = some u ∧ w = dl u) ∨ (j ≠ i ∧ j + 1 ≠ i ∧ nth L j = some w) := by
  intro L
  induction L with
  | nil => intro i v j w h; cases i <;> simp [st1, nth] at h
  | cons a l ih =>
    intro i v j w h
    match i, j with
    | 0, 0 => cases h; exact Or.inl ⟨rfl, rfl⟩
    | 0, j + 1 => exact Or.inr (Or.inr ⟨by omega, by omega, h⟩)
    | 1, 0 => cases h; exact Or.inr (Or.inl ⟨rfl, a, rfl, rfl⟩)
    | 1, j + 1 =>
      rcases ih 0 v j w h with ⟨h1, h2⟩ | ⟨h1, -⟩ | ⟨h1, h2, h3⟩
      · exact Or.inl ⟨by omega, h2⟩
      · omega
      · exact Or.inr (Or.inr ⟨by omega, by omega, h3⟩)
    | n + 2, 0 => exact Or.inr (Or.inr ⟨by omega, by omega, h⟩)
    | n + 2, j + 1 =>
      rcases ih (n + 1) v j w h with ⟨h1, h2⟩ | ⟨h1, h2⟩ | ⟨h1, h2, h3⟩
      · exact Or.inl ⟨by omega, h2⟩
      · exact Or.inr (Or.inl ⟨by omega, h2⟩)
      · exact Or.inr (Or.inr ⟨by omega, by omega, h3⟩)
theorem nth_st2 : ∀ (L : List Value) (i : Nat) (v : Value) (j : Nat) (w : Value), nth (st2 L i v) j = some w → w ≠ .null →
    (j = i ∧ w = v) ∨ (j + 1 = i ∧ ∃ u, nth L j = some u ∧ w = dl u) ∨ (j ≠ i ∧ j ≠ i + 1 ∧ j + 1 ≠ i ∧ nth L j = some w) := by
  intro L
  induction L with
  | nil => intro i v j w h; cases i <;> simp [st2, nth] at h
  | cons a l ih =>
    intro i v j w h hw
    match i, j with
    | 0, 0 => cases h; exact Or.inl ⟨rfl, rfl⟩
    | 0, j + 1 =>
      cases l with
      | nil => cases h
      | cons b l =>
        cases j with
        | zero => cases h; exact absurd rfl hw
        | succ j => exact Or.inr (Or.inr ⟨by omega, by omega, by omega, h⟩)
    | 1, 0 => cases h; exact Or.inr (Or.inl ⟨rfl, a, rfl, rfl⟩)
    | 1, j + 1 =>
      rcases ih 0 v j w h hw with ⟨h1, h2⟩ | ⟨h1, -⟩ | ⟨h1, h2, h3, h4⟩
      · exact Or.inl ⟨by omega, h2⟩
      · omega
      · exact Or.inr (Or.inr ⟨by omega, by omega, by omega, h4⟩)
    | n + 2, 0 => exact Or.inr (Or.inr ⟨by omega, by omega, by omega, h⟩)
    | n + 2, j + 1 =>
      rcases ih (n + 1) v j w h hw with ⟨h1, h2⟩ | ⟨h1, h2⟩ | ⟨h1, h2, h3, h4⟩
      · exact Or.inl ⟨by omega, h2⟩
      · exact Or.inr (Or.inl ⟨by omega, h2⟩)
      · exact Or.inr (Or.inr ⟨by omega, by omega, by omega, h4⟩)
theorem dl_ne {u w : Value} (h : w = dl u) (hw : w ≠ .null) : w = u ∧ u.category ≠ 2 := by
  unfold dl at h
  by_cases hc : u.category = 2
  · rw [if_pos hc] at h; exact absurd h hw
  · rw [if_neg hc] at h; exact ⟨h, hc⟩
theorem hL.of1 {G : Geo} (hF : G.2.2.2.2.2.category = 1) {ls : Array Slot} {nL i : Nat} {L : List Value} {x : Value}
    (h : lv_has ls nL ((i, cv G x) :: (asL G 0 L).filter (fun q => !(q.1 == i) && !(q.1 + 1 == i && q.2.category == 2)))) : hL G ls nL (st1 L i x) := by
  refine ⟨h.1, h.2.1, fun j w hj hw => ?_⟩
  rcases nth_st1 L i x j w hj with ⟨rfl, rfl⟩ | ⟨h1, u, h2, h3⟩ | ⟨h1, h2, h3⟩
  · exact h.2.2 (j, cv G w) List.mem_cons_self
  · obtain ⟨rfl, hc⟩ := dl_ne h3 hw
    refine h.2.2 (j, cv G w) (List.mem_cons_of_mem _ (List.mem_filter.mpr ⟨(asL_mem L 0).mpr ⟨j, w, h2, hw, by simp⟩, ?_⟩))
    have h4 : ¬ j = i := by omega
    have h5 : ¬ (cv G w).category = 2 := by rw [cv_cat hF]; exact hc
    simp [h4, h5]
  · refine h.2.2 (j, cv G w) (List.mem_cons_of_mem _ (List.mem_filter.mpr ⟨(asL_mem L 0).mpr ⟨j, w, h3, hw, by simp⟩, ?_⟩))
    simp [h1, h2]
theorem hL.of2 {G : Geo} (hF : G.2.2.2.2.2.category = 1) {ls : Array Slot} {nL i : Nat} {L : List Value} {x : Value}
    (h : lv_has ls nL ((i, cv G x) :: (asL G 0 L).filter (fun q => !(q.1 == i) && (!(q.1 == i + 1) && !(q.1 + 1 == i && q.2.category == 2))))) : hL G ls nL (st2 L i x) := by
  refine ⟨h.1, h.2.1, fun j w hj hw => ?_⟩
  rcases nth_st2 L i x j w hj hw with ⟨rfl, rfl⟩ | ⟨h1, u, h2, h3⟩ | ⟨h1, h2, h3, h4⟩
  · exact h.2.2 (j, cv G w) List.mem_cons_self
  · obtain ⟨rfl, hc⟩ := dl_ne h3 hw
    refine h.2.2 (j, cv G w) (List.mem_cons_of_mem _ (List.mem_filter.mpr ⟨(asL_mem L 0).mpr ⟨j, w, h2, hw, by simp⟩, ?_⟩))
    have h4 : ¬ j = i := by omega
    have h6 : ¬ j = i + 1 := by omega
    have h5 : ¬ (cv G w).category = 2 := by rw [cv_cat hF]; exact hc
    simp [h4, h5, h6]
  · refine h.2.2 (j, cv G w) (List.mem_cons_of_mem _ (List.mem_filter.mpr ⟨(asL_mem L 0).mpr ⟨j, w, h4, hw, by simp⟩, ?_⟩))
    simp [h1, h2, h3]
/-- the locals at the entry -/
theorem nth_pad : ∀ (n : Nat) (l : List Value) (j : Nat) (w : Value), nth (pad n l) j = some w → w ≠ .null → nth l j = some w := by
  intro n
  induction n with
  | zero => intro l j w h _; exact h
  | succ n ih =>
    intro l j w h hw
    match l, j with
    | [], 0 => cases h; exact absurd rfl hw
    | [], j + 1 => exact absurd (ih [] j w h hw) (by simp [nth])
    | a :: l, 0 => exact h
    | a :: l, j + 1 => exact ih l j w h hw
theorem nth_wide {G : Geo} (hF : G.2.2.2.2.2.category = 1) : ∀ (l : List Value) (i j : Nat) (w : Value), nth (wide l) j = some w → w ≠ .null → (i + j, cv G w) ∈ lv_args i (l.map (cv G)) := by
  intro l
  induction l with
  | nil => intro i j w h; cases h
  | cons a l ih =>
    intro i j w h hw
    unfold wide at h
    simp only [List.map_cons, lv_args, cv_cat hF]
    by_cases hc : a.category = 2
    · rw [if_pos hc] at h
      simp only [hc, if_true]
      match j with
      | 0 => cases h; exact List.mem_cons_self
      | 1 => cases h; exact absurd rfl hw
      | j + 2 =>
        refine List.mem_cons_of_mem _ ?_
        rw [show i + (j + 2) = i + 2 + j by omega]
        exact ih (i + 2) j w h hw
    · rw [if_neg hc] at h
      simp only [hc, if_false]
      match j with
      | 0 => cases h; exact List.mem_cons_self
      | j + 1 =>
        refine List.mem_cons_of_mem _ ?_
        rw [show i + (j + 1) = i + 1 + j by omega]
        exact ih (i + 1) j w h hw
theorem wide_len {G : Geo} (hF : G.2.2.2.2.2.category = 1) (l : List Value) : (lg_sl (l.map (cv G))).length = (wide l).length := by
  induction l with
  | nil => rfl
  | cons a l ih =>
    unfold lg_sl at ih
    unfold wide
    simp only [lg_sl, List.map_cons, List.flatMap_cons, cv_cat hF, List.length_append, ih]
    by_cases hc : a.category = 2
    · simp [hc]; omega
    · simp [hc]; omega
theorem hL.entry {G : Geo} (hF : G.2.2.2.2.2.category = 1) {as : List Value} {y n : Nat} (hn : mx y = n) (h : (wide as).length ≤ n) :
    hL G ((lg_sl (as.map (cv G)) ++ List.replicate (n - (lg_sl (as.map (cv G))).length) Slot.unset).toArray) n (ent y as) := by
  have hl := lv_entry (as.map (cv G)) (n := n) (by rw [wide_len hF]; exact h)
  refine ⟨hl.1, hl.2.1, fun j w hj hw => ?_⟩
  have h1 := nth_wide hF as 0 j w (nth_pad _ _ j w hj hw) hw
  rw [Nat.zero_add] at h1
  exact hl.2.2 _ h1
/-! the heap -/
def fieldV (G : Geo) (x : Int32) (o : Option Nat) : Value := match o with
  | none => .int x
  | some c => cr G c
def wF (G : Geo) (r : Nat → Int32) : Nat → List (Option Nat) → List Value
  | _, [] => []
  | j, o :: ks => fieldV G (r j) o :: wF G r (j + 1) ks
theorem wF_get {G : Geo} {r : Nat → Int32} : ∀ (ks : List (Option Nat)) (j b : Nat) (o : Option Nat), nth ks b = some o → (wF G r j ks)[b]? = some (fieldV G (r (j + b)) o) := by
  intro ks
  induction ks with
  | nil => intro j b o h; cases h
  | cons a ks ih =>
    intro j b o h
    cases b with
    | zero => cases h; rfl
    | succ b =>
      have h1 := ih (j + 1) b o h
      rw [show j + 1 + b = j + (b + 1) by omega] at h1
      exact h1
theorem wF_congr {G : Geo} {r r' : Nat → Int32} : ∀ (ks : List (Option Nat)) (j : Nat), (∀ i, j ≤ i → r i = r' i) → wF G r j ks = wF G r' j ks := by
  intro ks
  induction ks with
  | nil => intro j _; rfl
  | cons a ks ih =>
    intro j h
    unfold wF
    rw [h j (Nat.le_refl j), ih (j + 1) (fun i hi => h i (by omega))]
theorem wF_len {G : Geo} {r : Nat → Int32} : ∀ (ks : List (Option Nat)) (j : Nat), (wF G r j ks).length = ks.length := by
  intro ks
  induction ks with
  | nil => intro j; rfl
  | cons a ks ih => intro j; simp [wF, ih]
theorem nth_lt {α : Type} : ∀ (l : List α) (b : Nat) (o : α), nth l b = some o → b < l.length := by
  intro l
  induction l with
  | nil => intro b o h; cases h
  | cons a l ih =>
    intro b o h
    cases b with
    | zero => simp
    | succ b => have := ih b o h; simp; omega
theorem nth_get {α : Type} : ∀ (l : List α) (b : Nat), nth l b = l[b]? := by
  intro l
  induction l with
  | nil => intro b; simp [nth]
  | cons a l ih =>
    intro b
    cases b with
    | zero => rfl
    | succ b => simpa [nth] using ih b
theorem upd_s {f : Nat → Int32} {i : Nat} {v : Int32} : upd f i v i = v := if_pos rfl
theorem upd_n {f : Nat → Int32} {i j : Nat} {v : Int32} (h : j ≠ i) : upd f i v j = f j := if_neg h
theorem wF_set {G : Geo} {r : Nat → Int32} {v : Int32} : ∀ (ks : List (Option Nat)) (j b : Nat), nth ks b = some none → (wF G r j ks).set b (.int v) = wF G (upd r (j + b) v) j ks := by
  intro ks
  induction ks with
  | nil => intro j b h; cases h
  | cons a ks ih =>
    intro j b h
    cases b with
    | zero =>
      cases h
      show Value.int v :: wF G r (j + 1) ks = .int (upd r j v j) :: wF G (upd r j v) (j + 1) ks
      rw [upd_s, wF_congr (r := r) (r' := upd r j v) ks (j + 1) (fun i hi => (upd_n (by omega)).symm)]
    | succ b =>
      show fieldV G (r j) a :: (wF G r (j + 1) ks).set b (.int v) = fieldV G (upd r (j + (b + 1)) v j) a :: wF G (upd r (j + (b + 1)) v) (j + 1) ks
      rw [ih (j + 1) b h, upd_n (by omega), show j + 1 + b = j + (b + 1) by omega]
def wE (G : Geo) (Sh : Nat → Option Cs) (σ : Sto) (c : Nat) : va_E := match Sh c with
  | some (.inl (ci, ks)) => .inr (ci, wF G (σ c) 0 ks)
  | some (.inr (_, n)) => .inl (G.2.1 c, n, .inl (σ c))
  | none => .inr (0, [])
def wW (G : Geo) (Sh : Nat → Option Cs) (cs : List Nat) (σ : Sto) : va_W := cs.map fun c => (G.1 c, wE G Sh σ c)
def tyc (Sh : Nat → Option Cs) (c : Nat) : FieldType := match Sh c with
  | some (.inr (true, _)) => .boolean
  | _ => .int
def tysW (G : Geo) (Sh : Nat → Option Cs) (cs : List Nat) : List (ClassId × FieldType) := cs.map fun c => (G.2.1 c, tyc Sh c)
theorem wW_at {G : Geo} {Sh : Nat → Option Cs} {cs : List Nat} {σ : Sto} {p c : Nat} (h : cs[p]? = some c) : (wW G Sh cs σ)[p]? = some (G.1 c, wE G Sh σ c) := by
  unfold wW
  rw [List.getElem?_map, h]
  rfl
theorem tysW_at {G : Geo} {Sh : Nat → Option Cs} {cs : List Nat} {p c : Nat} (h : cs[p]? = some c) : (tysW G Sh cs)[p]? = some (G.2.1 c, tyc Sh c) := by
  unfold tysW
  rw [List.getElem?_map, h]
  rfl
theorem wW_back {G : Geo} {Sh : Nat → Option Cs} {cs : List Nat} {σ : Sto} {p : Nat} {q : Nat × va_E} (h : (wW G Sh cs σ)[p]? = some q) : ∃ c, cs[p]? = some c ∧ q = (G.1 c, wE G Sh σ c) := by
  unfold wW at h
  rw [List.getElem?_map] at h
  cases hc : cs[p]? with
  | none => rw [hc] at h; cases h
  | some c => rw [hc] at h; cases h; exact ⟨c, rfl, rfl⟩
theorem su_row {σ : Sto} {c i : Nat} {v : Int32} : su σ c i v c = upd (σ c) i v := if_pos rfl
theorem su_ne {σ : Sto} {c i c' : Nat} {v : Int32} (h : c' ≠ c) : su σ c i v c' = σ c' := if_neg h
theorem wE_row {G : Geo} {Sh : Nat → Option Cs} {σ σ' : Sto} {c : Nat} (h : σ' c = σ c) : wE G Sh σ' c = wE G Sh σ c := by
  unfold wE
  rw [h]
/-- a world in which one cell has changed -/
theorem wW_set {G : Geo} {Sh : Nat → Option Cs} {cs : List Nat} {σ σ' : Sto} {p c : Nat} {e : va_E} (hn : cs.Nodup) (hp : cs[p]? = some c) (he : e = wE G Sh σ' c) (ho : ∀ c', c' ≠ c → σ' c' = σ c') :
    (wW G Sh cs σ).set p (G.1 c, e) = wW G Sh cs σ' := by
  subst he
  apply List.ext_getElem?
  intro q
  rw [List.getElem?_set]
  by_cases hq : p = q
  · subst hq
    rw [if_pos rfl, if_pos (by
      have := (List.getElem?_eq_some_iff.mp hp).1
      simpa [wW] using this), wW_at hp]
  · rw [if_neg hq]
    unfold wW
    rw [List.getElem?_map, List.getElem?_map]
    cases hc : cs[q]? with
    | none => rfl
    | some c' =>
      have hne : c' ≠ c := by
        intro h
        subst h
        exact hq ((List.getElem?_inj (List.getElem?_eq_some_iff.mp hp).1 hn).mp (hp.trans hc.symm))
      show some (G.1 c', wE G Sh σ c') = some (G.1 c', wE G Sh σ' c')
      rw [wE_row (ho c' hne)]
theorem va_D_any {G : Geo} {Sh : Nat → Option Cs} {cs : List Nat} {σ σ' : Sto} {A : Nat → Prop} (h : va_D A (wW G Sh cs σ)) : va_D A (wW G Sh cs σ') := by
  refine ⟨fun i j p q hi hj e => ?_, fun k q hk => ?_⟩
  · obtain ⟨c, hc, rfl⟩ := wW_back hi
    obtain ⟨c', hc', rfl⟩ := wW_back hj
    exact h.1 i j _ _ (wW_at hc) (wW_at hc') e
  · obtain ⟨c, hc, rfl⟩ := wW_back hk
    have h1 := h.2 k _ (wW_at (σ := σ) hc)
    exact h1
theorem va_A_any {G : Geo} {Sh : Nat → Option Cs} {cs : List Nat} {σ : Sto} (σ' : Sto) {sz q : Nat} (h : va_A (wW G Sh cs σ) sz q) : va_A (wW G Sh cs σ') sz q := by
  rcases h with ⟨k, e, hk⟩ | h
  · obtain ⟨c, hc, h2⟩ := wW_back hk
    have h3 : q = G.1 c := congrArg Prod.fst h2
    exact Or.inl ⟨k, wE G Sh σ' c, by rw [h3]; exact wW_at hc⟩
  · exact Or.inr h
end
section
/-! what lies outside the world: String constants, two static fields, a word of the nest -/
def lenL : List Nat := byteL.map List.length
def nestW : Jvm.Cond := .methodLinkNest "FerryForAlone$Strand" 51 ⟨"FerryForAlone", "within", "(III)Z"⟩ "FerryForAlone"
def Ext (G : Geo) (A : Nat → Prop) (U : State) (H : Heap) : Prop :=
  vk_S 12 lenL byteL G.2.2.2.1 G.2.2.2.2.1 A U H ∧ (∀ (i : Nat) (q : Nat × String), nth strK i = some q → vk_R "FerryForAlone$Reader" q.1 q.2 (G.2.2.2.1 i) U) ∧
  va_Z "java/lang/String" "COMPACT_STRINGS" "Z" (.int 1) A U H ∧ va_Z "jdk/internal/util/Preconditions" "SIOOBE_FORMATTER" "Ljava/util/function/BiFunction;" G.2.2.2.2.2 A U H ∧ va_Nw nestW U ∧
  (G.2.2.2.2.2 = .null ∨ ∃ t : Nat, G.2.2.2.2.2 = .ref t)
theorem Ext.cat {G : Geo} {A : Nat → Prop} {U : State} {H : Heap} (h : Ext G A U H) : G.2.2.2.2.2.category = 1 := by
  rcases h.2.2.2.2.2 with h | ⟨t, h⟩ <;> rw [h] <;> rfl
theorem Ext.orNull {G : Geo} {A : Nat → Prop} {U : State} {H : Heap} (h : Ext G A U H) (c : Nat) : cr G c = .null ∨ ∃ t : Nat, cr G c = .ref t := by
  unfold cr
  split
  · exact Or.inr ⟨_, rfl⟩
  · split
    · exact Or.inr ⟨_, rfl⟩
    · split
      · exact Or.inr ⟨_, rfl⟩
      · exact h.2.2.2.2.2
theorem Ext.go {G : Geo} {A B : Nat → Prop} {s U : State} (h : Ext G A s s.heap) (hq : ∀ a : Nat, a < s.heap.size → ¬ A a → U.heap[a]? = s.heap[a]?) (hW : s.WarmedH U.vm) (hB : ∀ q, B q → A q) : Ext G B U U.heap :=
  ⟨((h.1.kept hq).moved hW.alike).narrow hB, fun i q hi => (h.2.1 i q hi).warm hW, ((h.2.2.1.kept hq).moved hW.alike).narrow hB, ((h.2.2.2.1.kept hq).moved hW.alike).narrow hB, va_Nw.warmM hW h.2.2.2.2.1, h.2.2.2.2.2⟩
theorem Ext.blind {G : Geo} {A : Nat → Prop} {U : State} {g : JFrame} {mk : MethodId} {a : Array Value} (h : Ext G A U U.heap) : Ext G A (U.calling g mk a) (U.calling g mk a).heap :=
  ⟨vk_S.moved (u := U) (U := U.calling g mk a) (Vm.Alike.refl U.vm) h.1, fun i q hi => vk_R.same (u := U) (U := U.calling g mk a) rfl (h.2.1 i q hi), va_Z.moved (u := U) (U := U.calling g mk a) (Vm.Alike.refl U.vm) h.2.2.1, va_Z.moved (u := U) (U := U.calling g mk a) (Vm.Alike.refl U.vm) h.2.2.2.1, va_Nw.same (U := U.calling g mk a) rfl rfl h.2.2.2.2.1, h.2.2.2.2.2⟩
theorem byteL_getD (i : Nat) : byteL.getD i [] = byteOf i := by
  unfold byteOf
  rw [nth_get, List.getD_eq_getElem?_getD]
  cases byteL[i]? <;> rfl
theorem lenL_getD (i : Nat) (h : i < 12) : lenL.getD i 0 = (byteOf i).length := by
  have h1 : ∀ i, i < 12 → lenL.getD i 0 = (byteOf i).length := by decide +kernel
  exact h1 i h
/-! contracts -/
def PreW (G : Geo) (Sh : Nat → Option Cs) (cs : List Nat) (σ : Sto) (sz : Nat) (U : State) : Prop :=
  U.heap.size = sz ∧ va_P G.2.2.1 qcl (wW G Sh cs σ) U.heap ∧ va_K G.2.2.1 qcl (tysW G Sh cs) U ∧ va_D (fun _ => True) (wW G Sh cs σ) ∧ Ext G (va_A (wW G Sh cs σ) sz) U U.heap
def retV (e : Nat) (r : Rs) : Option Value := match e with
  | 0 => none
  | 1 => some (.int r.1)
  | _ => some (.long r.2.1)
def QW (G : Geo) (Sh : Nat → Option Cs) (cs : List Nat) (σ : Sto) (sz e : Nat) (r : Rs) : Array Value → State → Outcome → State → Prop := fun _ st oc t =>
  oc = .returned (retV e r) ∧ va_P G.2.2.1 qcl (wW G Sh cs r.2.2) t.heap ∧ va_F (va_A (wW G Sh cs σ) sz) st t
def wsM (t : MI) : List Jvm.Cond := .code t.1 t.2.1 t.2.2.1 t.2.2.2.1 :: TT
def hgt (t : MI) (k : Nat) : Nat := t.2.2.2.2.2.2.1 + 20 * (6 - k)
def rmM (h : Nat) : Room := { frames := h, cells := 0, slots := 0, locals := 64 * h }
def MetP (l : Launch) (G : Geo) (Sh : Nat → Option Cs) (cs : List Nat) (y k : Nat) (as : List Value) (σ : Sto) (r : Rs) : Prop :=
  ∀ t, mi? y = some t → ∀ sz, Met l t.1 (wsM t) (rmM (hgt t k)) (va_Pc (as.map (cv G)) (PreW G Sh cs σ sz)) (QW G Sh cs σ sz (eOf t.2.2.2.1) r) 0 0 (va_A (wW G Sh cs σ) sz)
/-- what the words say of a method that is called -/
def mokP (t : MI) : Prop := Jvm.Cond.code t.1 t.2.1 t.2.2.1 t.2.2.2.1 ∈ TT ∧ (t.2.2.2.2.1 = true → Jvm.Cond.static t.1 ∈ TT) ∧ (t.2.2.2.2.1 = false → Jvm.Cond.instanceMethod t.1 ∈ TT ∧ Jvm.Cond.selects t.1.cls t.1 t.1 ∈ TT) ∧ Jvm.Cond.initialized t.1.cls ∈ TT ∧
  t.1.cls ≠ "java/lang/invoke/MethodHandle" ∧ t.1.cls ≠ "java/lang/invoke/VarHandle" ∧ (parseMethodDescriptor t.1.desc).map (fun d => d.parameters.length) = some t.2.2.2.2.2.1 ∧ plainName t.1.cls = true ∧ t.2.2.1 ≤ 40
/-- what the words say of the JDK's own methods that are taken whole -/
def natP : Prop := Jvm.Cond.native arraycopyName ∈ TT ∧ Jvm.Cond.static arraycopyName ∈ TT ∧ Jvm.Cond.initialized "java/lang/System" ∈ TT ∧ Jvm.Cond.initialized "java/lang/Math" ∈ TT ∧ (Jvm.Cond.static Lib.Math.abs.name ∈ TT ∧ Jvm.Cond.code Lib.Math.abs.name Lib.Math.abs.code 1 (some .int) ∈ TT) ∧
  (Jvm.Cond.static Lib.Math.max.name ∈ TT ∧ Jvm.Cond.code Lib.Math.max.name Lib.Math.max.code 2 (some .int) ∈ TT) ∧ (Jvm.Cond.static Lib.Math.min.name ∈ TT ∧ Jvm.Cond.code Lib.Math.min.name Lib.Math.min.code 2 (some .int) ∈ TT)
/-- the kinds: their fields' words, and types -/
def clsP : Prop := ∀ (a : Nat) (C : String) (T : u_T) (N : Nat), nth qcl a = some (C, T, N) → (∀ w ∈ u_ws C T N, w ∈ TT) ∧ ∃ ty : Nat → FieldType, (∀ k, k < N → parseFieldDescriptor (T k).2.2.1 = some (ty k)) ∧ ∀ a, a < N → ∀ b, b < N → a ≠ b → (T a).2.1 ≠ (T b).2.1
/-- what holds in a method's frame, all the way -/
def Ctx (p : Program) (s : State) (m : MethodId) (args : Array Value) (c : Code) (R : Room) (t : MI) (G : Geo) (Sh : Nat → Option Cs) (cs : List Nat) (A : Nat → Prop) (cells slots : Nat) : Prop :=
  p.tables.exec = Jvm.exec ∧ c.code = t.2.1 ∧ c.maxLocals = t.2.2.1 ∧ s.vm.findClass t.1.cls = some m.cls ∧ (∀ w ∈ TT, w.before args s = true) ∧ va_K G.2.2.1 qcl (tysW G Sh cs) s ∧ (∀ σ, va_D A (wW G Sh cs σ)) ∧
  (∀ q, s.heap.size ≤ q → A q) ∧ Ext G A s s.heap ∧ cs.Nodup ∧ (∀ c' s', Sh c' = some s' → c' ∈ cs ∧ c' < 49) ∧ cells ≤ R.cells ∧ slots ≤ R.slots ∧ clsP ∧ (∀ y t, mi? y = some t → y ≠ kLaw → mokP t) ∧ (∀ y i, chk y i = true)
section CALLW
variable {p : Program} {l : Launch} {e : Env} {R : Room} {s : State} {m : MethodId} {args : Array Value} {below : List Frame} {meth : Method} {c : Code} {H : Heap} {locs : List Loc} {cells slots : Nat} {Q : State → Prop}
/-- a call by contract -/
theorem dc_call {G : Geo} {Sh : Nat → Option Cs} {cs : List Nat} {σ : Sto} {r : Rs} {e' : Nat} {A0 free : Nat → Prop} {a : Array Value} {pc : Nat} {ls : Array Slot} {st0 rest : List Value}
    (hr : va_Run p l e R s m args below meth c H locs cells slots 0 0 (F0 m pc ls st0) rest (QW G Sh cs σ H.size e' r a) free) (hS : va_S A0 s.heap H locs) (hA : ∀ q, q < H.size → va_A (wW G Sh cs σ) H.size q → A0 q) (hf : ∀ q, free q → A0 q)
    (kk : ∀ (H1 : Heap) (locs1 : List Loc), va_P G.2.2.1 qcl (wW G Sh cs r.2.2) H1 → va_S A0 s.heap H1 locs1 → W p l e R s m args below meth c H1 locs1 cells slots Q (F0 m (pc + 3) ls ((retV e' r).toList ++ rest))) : W p l e R s m args below meth c H locs cells slots Q (F0 m pc ls st0) := by
  intro T hT X
  obtain ⟨v, st₀, t, T', L, h0, X', hL, e1, e2, ⟨hv, hP, hz, hk⟩, st⟩ := hr T hT X
  have hv1 : v = retV e' r := Outcome.returned.inj hv
  rw [h0] at hz hk
  obtain ⟨t2, a1, b1⟩ := kk T'.heap (locs ++ L) (by rw [e1]; exact hP)
    ⟨Nat.le_trans hS.1 (by rw [e1]; exact hz), fun q h1 h2 => by rw [e1, hk q (Nat.lt_of_lt_of_le h1 hS.1) (fun z => h2 (hA q (Nat.lt_of_lt_of_le h1 hS.1) z))]; exact hS.2.1 q h1 h2, fun q hq => by
      rcases List.mem_append.mp hq with h | h
      · exact hS.2.2 q h
      · exact hf _ (hL q h)⟩ T' rfl X'
  rw [← hv1] at a1
  exact ⟨t2, st t2 a1, b1⟩
end CALLW
theorem wsM_head (t : MI) : wsM t = Jvm.Cond.code t.1 t.2.1 t.2.2.1 t.2.2.2.1 :: TT := rfl
theorem goodM {t : MI} (h : Jvm.Cond.code t.1 t.2.1 t.2.2.1 t.2.2.2.1 ∈ TT) : GoodIn TT (wsM t) := fun w hw => by
  rcases List.mem_cons.mp hw with rfl | hw
  · exact goodTT _ h
  · exact goodTT _ hw
theorem popn_inv : ∀ (n : Nat) (st acc as r : List Value), popn n st acc = some (as, r) → ∃ xs, xs.length = n ∧ st = xs ++ r ∧ as = xs.reverse ++ acc := by
  intro n
  induction n with
  | zero => intro st acc as r h; cases h; exact ⟨[], rfl, rfl, rfl⟩
  | succ n ih =>
    intro st acc as r h
    cases st with
    | nil => cases h
    | cons v st =>
      obtain ⟨xs, h1, h2, h3⟩ := ih st (v :: acc) as r h
      exact ⟨v :: xs, by simp [h1], by rw [h2]; rfl, by rw [h3]; simp⟩
def qo (y i : Nat) : Nat := match fetch y i with
  | some r => r.2.1
  | none => 0
theorem mAt_qo {y i : Nat} {z : Int} (h : mAt y i z = true) : (qo y i : Int) = z := by
  unfold mAt at h
  unfold qo
  cases hf : fetch y i with
  | none => rw [hf] at h; cases h
  | some r => rw [hf] at h; exact of_decide_eq_true h
theorem ftC_inv {y i q n len : Nat} (h : ftC y i q n len = true) : n = len ∧ qo y (i + 1) = q + len := by
  unfold ftC at h
  rw [Bool.and_eq_true, decide_eq_true_eq] at h
  have h1 := mAt_qo h.2
  exact ⟨h.1, by omega⟩
theorem wC_inv {p : Nat} {w : Jvm.Cond} (h : wC p w = true) (hg : goodWord w = true) : w ∈ TT := by
  unfold wC at h
  split at h
  · rename_i w' hw
    have := of_decide_eq_true h
    subst this
    exact inTT hw hg
  · cases h
section INV
variable {K : KT} {K' : Nat → List Value → List Value → Sto → Option Rs} {i : Nat} {L st : List Value} {r : Rs}
theorem no_inv (h : fold1 K K' i L no = some r) : False := by
  have h1 : (none : Option Rs) = some r := h
  cases h1
theorem ldI_inv {j : Nat} {f : Int32 → DL} (h : fold1 K K' i L (ldI st j f) = some r) : ∃ x, nth st j = some (.int x) ∧ fold1 K K' i L (f x) = some r := by
  unfold ldI at h
  split at h
  · exact ⟨_, by assumption, h⟩
  · exact (no_inv h).elim
theorem ldJ_inv {j : Nat} {f : Int64 → DL} (h : fold1 K K' i L (ldJ st j f) = some r) : ∃ x, nth st j = some (.long x) ∧ fold1 K K' i L (f x) = some r := by
  unfold ldJ at h
  split at h
  · exact ⟨_, by assumption, h⟩
  · exact (no_inv h).elim
theorem ldR_inv {j : Nat} {f : Nat → DL} (h : fold1 K K' i L (ldR st j f) = some r) : ∃ x : Nat, nth st j = some (.ref x) ∧ fold1 K K' i L (f x) = some r := by
  unfold ldR at h
  split at h
  · exact ⟨_, by assumption, h⟩
  · exact (no_inv h).elim
theorem p1_inv {f : Int32 → List Value → DL} (h : fold1 K K' i L (p1 st f) = some r) : ∃ x s, st = .int x :: s ∧ fold1 K K' i L (f x s) = some r := by
  unfold p1 at h
  split at h
  · exact ⟨_, _, rfl, h⟩
  · exact (no_inv h).elim
theorem p2_inv {f : Int32 → Int32 → List Value → DL} (h : fold1 K K' i L (p2 st f) = some r) : ∃ x y s, st = .int y :: .int x :: s ∧ fold1 K K' i L (f x y s) = some r := by
  unfold p2 at h
  split at h
  · exact ⟨_, _, _, rfl, h⟩
  · exact (no_inv h).elim
theorem q1_inv {f : Int64 → List Value → DL} (h : fold1 K K' i L (q1 st f) = some r) : ∃ x s, st = .long x :: s ∧ fold1 K K' i L (f x s) = some r := by
  unfold q1 at h
  split at h
  · exact ⟨_, _, rfl, h⟩
  · exact (no_inv h).elim
theorem q2_inv {f : Int64 → Int64 → List Value → DL} (h : fold1 K K' i L (q2 st f) = some r) : ∃ x y s, st = .long y :: .long x :: s ∧ fold1 K K' i L (f x y s) = some r := by
  unfold q2 at h
  split at h
  · exact ⟨_, _, _, rfl, h⟩
  · exact (no_inv h).elim
theorem q3_inv {f : Int64 → Int32 → List Value → DL} (h : fold1 K K' i L (q3 st f) = some r) : ∃ x y s, st = .int y :: .long x :: s ∧ fold1 K K' i L (f x y s) = some r := by
  unfold q3 at h
  split at h
  · exact ⟨_, _, _, rfl, h⟩
  · exact (no_inv h).elim
theorem c1_inv {f : Nat → List Value → DL} (h : fold1 K K' i L (c1 st f) = some r) : ∃ (x : Nat) (s : List Value), st = .ref x :: s ∧ fold1 K K' i L (f x s) = some r := by
  unfold c1 at h
  split at h
  · exact ⟨_, _, rfl, h⟩
  · exact (no_inv h).elim
theorem c2_inv {f : Nat → Int32 → List Value → DL} (h : fold1 K K' i L (c2 st f) = some r) : ∃ (x : Nat) (y : Int32) (s : List Value), st = .int y :: .ref x :: s ∧ fold1 K K' i L (f x y s) = some r := by
  unfold c2 at h
  split at h
  · exact ⟨_, _, _, rfl, h⟩
  · exact (no_inv h).elim
theorem c3_inv {f : Nat → Int32 → Int32 → List Value → DL} (h : fold1 K K' i L (c3 st f) = some r) : ∃ (x : Nat) (y v : Int32) (s : List Value), st = .int v :: .int y :: .ref x :: s ∧ fold1 K K' i L (f x y v s) = some r := by
  unfold c3 at h
  split at h
  · exact ⟨_, _, _, _, rfl, h⟩
  · exact (no_inv h).elim
theorem c4_inv {f : Nat → Int32 → List Value → DL} (h : fold1 K K' i L (c4 st f) = some r) : ∃ (x : Nat) (v : Int32) (s : List Value), st = .int v :: .ref x :: s ∧ fold1 K K' i L (f x v s) = some r := by
  unfold c4 at h
  split at h
  · exact ⟨_, _, _, rfl, h⟩
  · exact (no_inv h).elim
theorem d1_inv {f : Value → List Value → DL} (h : fold1 K K' i L (d1 st f) = some r) : ∃ v s, st = v :: s ∧ v.category = 1 ∧ fold1 K K' i L (f v s) = some r := by
  unfold d1 at h
  split at h
  · exact ⟨_, _, rfl, rfl, h⟩
  · exact ⟨_, _, rfl, rfl, h⟩
  · exact (no_inv h).elim
theorem fldG_inv {Sh : Nat → Option Cs} {c a b : Nat} {f : Option Nat → DL} (h : fold1 K K' i L (fldG Sh c a b f) = some r) : ∃ ks o, Sh c = some (.inl (a, ks)) ∧ nth ks b = some o ∧ fold1 K K' i L (f o) = some r := by
  unfold fldG at h
  split at h
  · split at h
    · rename_i hs ha
      subst ha
      split at h
      · exact ⟨_, _, hs, by assumption, h⟩
      · exact (no_inv h).elim
    · exact (no_inv h).elim
  · exact (no_inv h).elim
theorem rowG_inv {Sh : Nat → Option Cs} {c : Nat} {z : Bool} {f : Nat → DL} (h : fold1 K K' i L (rowG Sh c z f) = some r) : ∃ n, Sh c = some (.inr (z, n)) ∧ fold1 K K' i L (f n) = some r := by
  unfold rowG at h
  split at h
  · split at h
    · rename_i hs hz
      subst hz
      exact ⟨_, hs, h⟩
    · exact (no_inv h).elim
  · exact (no_inv h).elim
theorem rowL_inv {Sh : Nat → Option Cs} {c : Nat} {f : Nat → DL} (h : fold1 K K' i L (rowL Sh c f) = some r) : ∃ z n, Sh c = some (.inr (z, n)) ∧ fold1 K K' i L (f n) = some r := by
  unfold rowL at h
  split at h
  · exact ⟨_, _, by assumption, h⟩
  · exact (no_inv h).elim
theorem gif_inv {p : Prop} {hd : Decidable p} {o : Option Lf} {B : DL} (h : fold1 K K' i L (gif p hd o B) = some r) : (p ∧ lfK K K' i L o = some r) ∨ (¬ p ∧ fold1 K K' i L B = some r) := by
  have h1 : (@ite _ p hd (lfK K K' i L o) (fold1 K K' i L B)) = some r := h
  by_cases hp : p
  · rw [if_pos hp] at h1; exact Or.inl ⟨hp, h1⟩
  · rw [if_neg hp] at h1; exact Or.inr ⟨hp, h1⟩
theorem popG_inv {n m : Nat} {f : List Value → List Value → DL} (h : fold1 K K' i L (popG n m st f) = some r) : ∃ xs s, xs.length = n ∧ st = xs ++ s ∧ (s.map fun v => v.category).sum ≤ 8 ∧ (wide xs.reverse).length ≤ m ∧ fold1 K K' i L (f xs.reverse s) = some r := by
  unfold popG at h
  split at h
  · rename_i as s hp
    obtain ⟨xs, h1, h2, h3⟩ := popn_inv _ _ _ _ _ hp
    rw [List.append_nil] at h3
    subst h3
    split at h
    · rename_i hc
      exact ⟨xs, s, h1, h2, hc.1, hc.2, h⟩
    · exact (no_inv h).elim
  · exact (no_inv h).elim
theorem recvG_inv {Sh : Nat → Option Cs} {as : List Value} {k : Nat} {f : DL} (h : fold1 K K' i L (recvG Sh as k f) = some r) : ∃ (c : Nat) (s : List Value), as = .ref c :: s ∧ ((k = 50 ∧ 100 ≤ c ∧ c < 112) ∨ (k ≠ 50 ∧ ∃ ks, Sh c = some (.inl (k, ks)))) ∧ fold1 K K' i L f = some r := by
  unfold recvG at h
  split at h
  · split at h
    · rename_i hk
      split at h
      · rename_i hc
        exact ⟨_, _, rfl, Or.inl ⟨hk, hc⟩, h⟩
      · exact (no_inv h).elim
    · rename_i hk
      split at h
      · rename_i hs
        split at h
        · rename_i hk2
          subst hk2
          exact ⟨_, _, rfl, Or.inr ⟨hk, _, hs⟩, h⟩
        · exact (no_inv h).elim
      · exact (no_inv h).elim
  · exact (no_inv h).elim
end INV
end
section
/-! THE STEP: what the pure machine does, the machine does -/
theorem zb_cases {x : Int32} (h : zb x = true) : x = 0 ∨ x = 1 := by
  unfold zb at h
  rw [Bool.or_eq_true, beq_iff_eq, beq_iff_eq] at h
  exact h
theorem inb_in {x : Int32} {n : Nat} (h : inb x n = true) : vp_in x n := by
  unfold inb at h
  rw [Bool.and_eq_true, decide_eq_true_eq, decide_eq_true_eq] at h
  exact vp_in_iff.mpr h
theorem fldC_inv {own : String} {idx p a b d : Nat} {wr : Bool} (h : fldC own idx p a b wr d = true) : ∃ C T N, nth qcl a = some (C, T, N) ∧ b < N ∧ (T b).1 = C ∧ Jvm.Cond.fieldLink own idx C (T b).2.1 (T b).2.2.1 ∈ TT ∧
    (wr = true → (T b).2.2.2 = false ∧ (T b).2.2.1 = if d = 0 then "I" else "Z") := by
  unfold fldC at h
  split at h
  · rename_i C T N hq
    simp only [Bool.and_eq_true, decide_eq_true_eq, Bool.or_eq_true, Bool.not_eq_true'] at h
    obtain ⟨⟨⟨h1, h2⟩, h3⟩, h4⟩ := h
    refine ⟨C, T, N, hq, h1, h2, wC_inv h3 rfl, fun hw => ?_⟩
    rcases h4 with h4 | h4
    · rw [hw] at h4; cases h4
    · exact h4
  · cases h
theorem wE_obj {G : Geo} {Sh : Nat → Option Cs} {σ : Sto} {c a : Nat} {ks : List (Option Nat)} (h : Sh c = some (.inl (a, ks))) : wE G Sh σ c = .inr (a, wF G (σ c) 0 ks) := by
  unfold wE; rw [h]
theorem wE_arr {G : Geo} {Sh : Nat → Option Cs} {σ : Sto} {c n : Nat} {z : Bool} (h : Sh c = some (.inr (z, n))) : wE G Sh σ c = .inl (G.2.1 c, n, .inl (σ c)) := by
  unfold wE; rw [h]
theorem tyc_arr {Sh : Nat → Option Cs} {c n : Nat} {z : Bool} (h : Sh c = some (.inr (z, n))) : tyc Sh c = if z then .boolean else .int := by
  unfold tyc; rw [h]; cases z <;> rfl
theorem tsC_swc {y q : Nat} {lo : Int} {K : KT} {K' : Nat → List Value → List Value → Sto → Option Rs} {i0 : Nat} {L0 L st : List Value} {σ : Sto} {a : Nat} {r : Rs} {x : Int32} : ∀ (ts : List (Int32 × Nat)) (offs : List Int) (j : Nat), tsC y q lo j ts offs = true →
    fold1 K K' i0 L0 (swc x L st σ a ts) = some r → (∃ (n : Nat) (off : Int) (t : Nat), offs[n]? = some off ∧ x.toInt = lo + ((j + n : Nat) : Int) ∧ (qo y t : Int) = q + off ∧ K' t L st σ = some r) ∨ ((∀ n : Nat, n < offs.length → x.toInt ≠ lo + ((j + n : Nat) : Int)) ∧ K' a L st σ = some r) := by
  intro ts
  induction ts with
  | nil =>
    intro offs j h hf
    cases offs with
    | nil => exact Or.inr ⟨fun n hn => by simp at hn, hf⟩
    | cons o offs => cases h
  | cons t ts ih =>
    intro offs j h hf
    cases offs with
    | nil => cases h
    | cons o offs =>
      unfold tsC at h
      simp only [Bool.and_eq_true, decide_eq_true_eq] at h
      obtain ⟨⟨h1, h2⟩, h3⟩ := h
      rcases gif_inv hf with ⟨hx, hr⟩ | ⟨hx, hr⟩
      · exact Or.inl ⟨0, o, t.2, rfl, by rw [hx, h1]; simp, mAt_qo h2, hr⟩
      · rcases ih offs (j + 1) h3 hr with ⟨n, off, t', g1, g2, g3, g4⟩ | ⟨g1, g2⟩
        · exact Or.inl ⟨n + 1, off, t', g1, by rw [g2]; congr 2; omega, g3, g4⟩
        · refine Or.inr ⟨fun n hn => ?_, g2⟩
          cases n with
          | zero => exact fun e => hx (Int32.toInt_inj.mp (by rw [h1, e]; simp))
          | succ n =>
            have := g1 n (by simpa using hn)
            rw [show j + 1 + n = j + (n + 1) by omega] at this
            exact this
theorem lsC_swc {y q : Nat} {K : KT} {K' : Nat → List Value → List Value → Sto → Option Rs} {i0 : Nat} {L0 L st : List Value} {σ : Sto} {a : Nat} {r : Rs} {x : Int32} {dflt : Int} (hd : (qo y a : Int) = q + dflt) : ∀ (ts : List (Int32 × Nat)) (ps : List (Int × Int)), lsC y q ts ps = true →
    fold1 K K' i0 L0 (swc x L st σ a ts) = some r → ∃ t, (qo y t : Int) = q + Op.lookupswitch.offset ps dflt x.toInt ∧ K' t L st σ = some r := by
  intro ts
  induction ts with
  | nil =>
    intro ps h hf
    cases ps with
    | nil => exact ⟨a, hd, hf⟩
    | cons o ps => cases h
  | cons t ts ih =>
    intro ps h hf
    cases ps with
    | nil => cases h
    | cons o ps =>
      unfold lsC at h
      simp only [Bool.and_eq_true, decide_eq_true_eq] at h
      obtain ⟨⟨h1, h2⟩, h3⟩ := h
      obtain ⟨o1, o2⟩ := o
      rw [Op.lookupswitch.offset_cons]
      rcases gif_inv hf with ⟨hx, hr⟩ | ⟨hx, hr⟩
      · rw [if_pos (by rw [hx, h1])]
        exact ⟨t.2, mAt_qo h2, hr⟩
      · rw [if_neg (fun e => hx (Int32.toInt_inj.mp (by rw [h1]; exact e.symm)))]
        exact ih ps h3 hr
section SIM
variable {p : Program} {l : Launch} {e : Env} {R : Room} {s : State} {m : MethodId} {args : Array Value} {below : List Frame} {meth : Method} {c : Code} {cells slots : Nat} {Q : State → Prop}
/-- the script, which the law alone reads -/
def Scr (s : State) (G : Geo) (A : Nat → Prop) (xx : Nat → Int32) (LL : Nat) : Prop := va_X (G.1 99) LL xx s s.heap ∧ G.1 99 < s.heap.size ∧ ¬ A (G.1 99) ∧ LL < 2 ^ 31
def Rows (σ : Sto) (xx : Nat → Int32) (LL : Nat) : Prop := σ 99 = xx ∧ σ 98 0 = nI LL
def RetH (p : Program) (l : Launch) (e : Env) (R : Room) (s : State) (m : MethodId) (args : Array Value) (below : List Frame) (meth : Method) (c : Code) (cells slots : Nat) (Q : State → Prop) (t : MI) (G : Geo) (Sh : Nat → Option Cs) (cs : List Nat) (A : Nat → Prop) (r : Rs) : Prop :=
  ∀ (H : Heap) (locs : List Loc) (ls : Array Slot) (q : Nat) (st : List Value), va_P G.2.2.1 qcl (wW G Sh cs r.2.2) H → va_S A s.heap H locs →
    ((∃ a, decode t.2.1 q = .ok (.ireturn, 1) ∧ narK t.2.2.2.1 a = true ∧ nok a r.1 = true ∧ st = [.int r.1]) ∨ (decode t.2.1 q = .ok (.lreturn, 1) ∧ t.2.2.2.1 = some .long ∧ st = [.long r.2.1]) ∨ (decode t.2.1 q = .ok (.return_, 1) ∧ t.2.2.2.1 = none ∧ st = [])) →
    W p l e R s m args below meth c H locs cells slots Q (F0 m q ls st)
/-- what a walk from here on gives -/
def Goes1 (p : Program) (l : Launch) (e : Env) (R : Room) (s : State) (m : MethodId) (args : Array Value) (below : List Frame) (meth : Method) (c : Code) (cells slots : Nat) (Q : State → Prop) (G : Geo) (Sh : Nat → Option Cs) (cs : List Nat) (A : Nat → Prop) (nL : Nat) (y i : Nat) (L st : List Value) (σ : Sto) : Prop :=
  ∀ (H : Heap) (locs : List Loc) (ls : Array Slot) (q : Nat), qo y i = q → va_P G.2.2.1 qcl (wW G Sh cs σ) H → va_S A s.heap H locs → hL G ls nL L → W p l e R s m args below meth c H locs cells slots Q (F0 m q ls (st.map (cv G)))
theorem dc_invoke {t : MI} {G : Geo} {Sh : Nat → Option Cs} {cs : List Nat} {A : Nat → Prop} {y k : Nat} (C0 : Ctx p s m args c R t G Sh cs A cells slots) (hRf : hgt t k ≤ R.frames ∧ 64 * hgt t k ≤ R.locals)
    {a b d e' f p' idx k' : Nat} {ts : List (Int32 × Nat)} (hc : callC t t.1.cls idx a b d e' f p' ts = true) {xs rest : List Value} {σ : Sto} {r1 : Rs}
    (hk' : ∀ t', mi? a = some t' → (d = 0 → ts ≠ [] → k' = k + 1 ∧ k < 6) ∧ ((d ≠ 0 ∨ ts = []) → k' = k))
    (hM : ∀ t', mi? a = some t' → hgt t' k' < hgt t k → a ≠ kLaw → MetP l G Sh cs a k' xs.reverse σ r1) (hn : xs.length = b) (hsum : (rest.map fun v => v.category).sum ≤ 8)
    {q : Nat} (hdec : (d = 0 ∧ decode t.2.1 q = .ok (.invokevirtual idx, 3)) ∨ (d = 1 ∨ d = 2) ∧ decode t.2.1 q = .ok (.invokestatic idx, 3))
    (hrecv : d = 0 → ∃ (c : Nat) (s : List Value), xs.reverse = .ref c :: s ∧ ((f = 50 ∧ 100 ≤ c ∧ c < 112) ∨ (f ≠ 50 ∧ ∃ ks, Sh c = some (.inl (f, ks)))))
    {H : Heap} {locs : List Loc} {ls : Array Slot} (hP : va_P G.2.2.1 qcl (wW G Sh cs σ) H) (hS : va_S A s.heap H locs) (hl : ls.size = t.2.2.1)
    (kk : ∀ (H1 : Heap) (locs1 : List Loc), va_P G.2.2.1 qcl (wW G Sh cs r1.2.2) H1 → va_S A s.heap H1 locs1 → W p l e R s m args below meth c H1 locs1 cells slots Q (F0 m (q + 3) ls ((pushR e' r1 rest).map (cv G)))) :
    W p l e R s m args below meth c H locs cells slots Q (F0 m q ls ((xs ++ rest).map (cv G))) := by
  obtain ⟨hx, hb, hml, hown, hts, hK, hD, hA, hE, hnd, hSh, hcc, hss, hcls, hmok, hck⟩ := C0
  unfold callC at hc
  cases ht' : mi? a with
  | none => rw [ht'] at hc; cases hc
  | some t' =>
    rw [ht'] at hc
    simp only [Bool.and_eq_true, decide_eq_true_eq] at hc
    obtain ⟨⟨⟨hal, he'⟩, hlink⟩, hkind⟩ := hc
    obtain ⟨hcode, hstat, hinst, hini, hn1, hn2, hpar, hpl, hmx⟩ := hmok a t' ht' hal
    have hrank : hgt t' k' < hgt t k := by
      obtain ⟨h1, h2⟩ := hk' t' ht'
      unfold hgt
      by_cases hd : d = 0
      · rw [if_pos hd] at hkind
        simp only [Bool.and_eq_true, decide_eq_true_eq] at hkind
        cases ts with
        | nil =>
          have h3 := h2 (Or.inr rfl)
          have h4 := of_decide_eq_true hkind.2
          subst h3
          omega
        | cons z ts =>
          obtain ⟨h3, h4⟩ := h1 hd (fun h => by cases h)
          have h5 := of_decide_eq_true hkind.2
          subst h3
          omega
      · rw [if_neg hd] at hkind
        simp only [Bool.and_eq_true, decide_eq_true_eq] at hkind
        have h3 := h2 (Or.inl hd)
        have h4 := hkind.2
        subst h3
        omega
    have hM1 := hM t' ht' hrank hal t' ht' H.size
    have hsq : ∀ q, va_A (wW G Sh cs σ) H.size q → A q := by
      intro q hq
      rcases hq with ⟨k9, e9, h9⟩ | h9
      · exact (hD σ).2 k9 _ h9
      · exact hA q (Nat.le_trans hS.1 h9)
    have hpre : ∀ U : State, U.heap = H → s.WarmedH U.vm → PreW G Sh cs σ H.size U := fun U hU hW =>
      ⟨by rw [hU], by rw [hU]; exact hP, va_K.moved hW.alike hK, (hD σ).weaken (fun _ _ _ _ => trivial), hE.go (fun a h1 h2 => by rw [hU]; exact hS.2.1 a h1 h2) hW hsq⟩
    have hblind : FrameBlind (va_Pc (xs.reverse.map (cv G)) (PreW G Sh cs σ H.size)) := fun a U g mk q => by
      obtain ⟨q0, q1, qP, qK, qD, qE⟩ := q
      exact ⟨q0, q1, qP, va_K.moved (u := U) (U := U.calling g mk a) (Vm.Alike.refl U.vm) qK, qD, qE.blind⟩
    have hroom : (rmM (hgt t' k')).frames + 1 ≤ R.frames ∧ 8 + (t'.2.2.1 + 11) + (rmM (hgt t' k')).locals ≤ R.locals := by
      show hgt t' k' + 1 ≤ R.frames ∧ 8 + (t'.2.2.1 + 11) + 64 * hgt t' k' ≤ R.locals
      omega
    have hsum' : 2 * (F0 m q ls ((xs ++ rest).map (cv G))).monitorRoom + ((rest.map (cv G)).map fun v => v.category).sum ≤ 8 := lv_room (by rw [cv_sum hE.cat]; exact hsum)
    have hret : (retV e' r1).toList ++ rest.map (cv G) = (pushR e' r1 rest).map (cv G) := by
      match e' with
      | 0 => rfl
      | 1 => rfl
      | n + 2 => rfl
    have hff : ∀ q, (va_A (wW G Sh cs σ) H.size) q → A q := hsq
    rw [he'] at hret kk
    have kk' : ∀ (H1 : Heap) (locs1 : List Loc), va_P G.2.2.1 qcl (wW G Sh cs r1.2.2) H1 → va_S A s.heap H1 locs1 → W p l e R s m args below meth c H1 locs1 cells slots Q (F0 m (q + 3) ls ((retV (eOf t'.2.2.2.1) r1).toList ++ rest.map (cv G))) := by
      rw [hret]; exact kk
    rcases hdec with ⟨hd, hdec⟩ | ⟨hd, hdec⟩
    · -- a receiver's method
      rw [if_neg (by omega)] at hlink
      rw [if_pos hd] at hkind
      simp only [Bool.and_eq_true, decide_eq_true_eq] at hkind
      obtain ⟨⟨⟨hst, hbn⟩, hcl⟩, -⟩ := hkind
      obtain ⟨c9, s9, hxs, hrc⟩ := hrecv hd
      obtain ⟨hin, hse⟩ := hinst hst
      have hl1 := wC_inv hlink rfl
      have hlen : s9.length = t'.2.2.2.2.2.1 := by
        have h1 := congrArg List.length hxs
        simp at h1
        omega
      have e1 : (xs ++ rest).map (cv G) = (s9.map (cv G)).reverse ++ cr G c9 :: rest.map (cv G) := by
        have h2 : xs = (s9.reverse ++ [.ref c9]) := by
          have := congrArg List.reverse hxs
          simpa using this
        rw [h2]
        simp [cv]
      have hcr : ∃ a9 : Nat, cr G c9 = .ref a9 ∧ ∃ cell : Cell, H[a9]? = some cell ∧ cell.vm.isStatics = false ∧ s.vm.findClass t'.1.cls = some cell.cls := by
        rcases hrc with ⟨hf, h1, h2⟩ | ⟨hf, ks, hs9⟩
        · have hcs : t'.1.cls = "java/lang/String" := by
            unfold clsC at hcl
            rw [if_pos hf] at hcl
            exact of_decide_eq_true hcl
          refine ⟨G.2.2.2.1 (c9 - 100), ?_, ?_⟩
          · unfold cr
            rw [if_neg (by omega), if_pos (by omega)]
          · rw [hcs]
            exact vk_recv hE.1 (by omega) hS
        · unfold clsC at hcl
          rw [if_neg hf] at hcl
          cases hq : nth qcl f with
          | none => rw [hq] at hcl; cases hcl
          | some z =>
            rw [hq] at hcl
            have hz := of_decide_eq_true hcl
            obtain ⟨hin9, h49⟩ := hSh _ _ hs9
            obtain ⟨p9, hp9⟩ := List.mem_iff_getElem?.mp hin9
            refine ⟨G.1 c9, cr_lo (by omega), ?_⟩
            rw [hz]
            exact va_recv hK hP (by rw [← nth_get]; exact hq) (by rw [wW_at hp9, wE_obj hs9])
      obtain ⟨a9, hcr1, hcell⟩ := hcr
      rw [hcr1] at e1
      have hM2 : Met l t'.1 (wsM t') (rmM (hgt t' k')) (va_Pc (.ref a9 :: s9.map (cv G)) (PreW G Sh cs σ H.size)) (QW G Sh cs σ H.size (eOf t'.2.2.2.1) r1) 0 0 (va_A (wW G Sh cs σ) H.size) := by
        have h3 : xs.reverse.map (cv G) = .ref a9 :: s9.map (cv G) := by
          rw [hxs]
          show cr G c9 :: _ = _
          rw [hcr1]
        rw [← h3]
        exact hM1
      have hblind2 : FrameBlind (va_Pc (.ref a9 :: s9.map (cv G)) (PreW G Sh cs σ H.size)) := fun a U g mk q => by
        obtain ⟨q0, q1, qP, qK, qD, qE⟩ := q
        exact ⟨q0, q1, qP, va_K.moved (u := U) (U := U.calling g mk a) (Vm.Alike.refl U.vm) qK, qD, qE.blind⟩
      have hG : GoodIn TT (wsV t.1.cls idx t'.1.cls t'.1 (wsM t')) := fun w hw => by
        simp only [wsV, List.cons_append, List.nil_append, List.mem_cons] at hw
        rcases hw with rfl | rfl | rfl | rfl | hw
        · exact goodTT _ hl1
        · exact goodTT _ hin
        · exact goodTT _ hse
        · exact goodTT _ hini
        · exact goodM hcode w hw
      rw [e1]
      refine dc_call (e' := eOf t'.2.2.2.1) (r := r1) (va_runV (As := s9.map (cv G)) (rest := rest.map (cv G)) ⟨hx, hb, hml, hown, hts⟩ hM2 (cwV t'.2.2.2.2.2.1 hts hG (wsM_head t') rfl rfl ⟨rfl, hn1, hn2, hpar⟩ hroom) ⟨hblind2, hcell, fun U hU hW => ⟨rfl, hpre U hU hW⟩⟩ rfl (by simp [hlen]) hl rfl (by rw [← e1]; exact hsum') hdec ⟨hcc, hss⟩) hS (fun q _ h => hff q h) hff kk'
    · have hd0 : d ≠ 0 := by omega
      rw [if_neg hd0] at hkind
      simp only [Bool.and_eq_true, decide_eq_true_eq] at hkind
      obtain ⟨⟨hst, hbn⟩, -⟩ := hkind
      have hsta := hstat hst
      have e1 : (xs ++ rest).map (cv G) = (xs.reverse.map (cv G)).reverse ++ rest.map (cv G) := by simp
      rcases hd with hd | hd
      · rw [if_neg (by omega)] at hlink
        have hl1 := wC_inv hlink rfl
        have hG : GoodIn TT (va_wsS t.1.cls idx t'.1 (wsM t')) := fun w hw => by
          simp only [va_wsS, List.cons_append, List.nil_append, List.mem_cons] at hw
          rcases hw with rfl | rfl | rfl | hw
          · exact goodTT _ hl1
          · exact goodTT _ hsta
          · exact goodTT _ hini
          · exact goodM hcode w hw
        rw [e1]
        refine dc_call (e' := eOf t'.2.2.2.1) (r := r1) (va_runS (As := xs.reverse.map (cv G)) (rest := rest.map (cv G)) ⟨hx, hb, hml, hown, hts⟩ hM1 (va_cwS t'.2.2.2.2.2.1 hts hG (wsM_head t') rfl rfl ⟨hn1, hn2, hpar⟩ hroom) ⟨hblind, fun U hU hW => ⟨rfl, hpre U hU hW⟩⟩ rfl (by simp; omega) hl rfl (by rw [← e1]; exact hsum') hdec ⟨hcc, hss⟩) hS (fun q _ h => hff q h) hff kk'
      · rw [if_pos hd] at hlink
        simp only [Bool.and_eq_true, decide_eq_true_eq] at hlink
        obtain ⟨⟨hw1, hw2⟩, hw3⟩ := hlink
        have hnw : va_Nw (.methodLinkNest t.1.cls idx t'.1 "FerryForAlone") s := by
          rw [hw1, hw2, hw3]
          exact hE.2.2.2.2.1
        rw [e1]
        refine dc_call (e' := eOf t'.2.2.2.1) (r := r1) (va_runSN (As := xs.reverse.map (cv G)) (rest := rest.map (cv G)) ⟨hx, hb, hml, hown, hts⟩ hM1 ⟨va_cnB t'.2.2.2.2.2.1 hts (goodM hcode) (wsM_head t') rfl rfl hnw (hts _ hini) ⟨hn1, hn2, hpar⟩ hroom, hts _ hsta, trivial⟩ ⟨hblind, fun U hU hW => ⟨rfl, hpre U hU hW⟩⟩ rfl (by simp; omega) hl rfl (by rw [← e1]; exact hsum') hdec ⟨hcc, hss⟩) hS (fun q _ h => hff q h) hff kk'
end SIM
end
section
/-! THE WALK: a run of the pure machine is a run of the machine -/
def lfOK (Sh : Nat → Option Cs) (σ : Sto) (o : Option Lf) : Prop := match o with
  | none => True
  | some (.inl (_, _, _, σ')) => ∀ c, Sh c = none → σ' c = σ c
  | some (.inr (.inl (_, _, _, σ', _))) => ∀ c, Sh c = none → σ' c = σ c
  | some (.inr (.inr r)) => ∀ c, Sh c = none → r.2.2 c = σ c
def dlOK (Sh : Nat → Option Cs) (σ : Sto) (d : DL) : Prop := lfOK Sh σ d.2 ∧ ∀ g ∈ d.1, lfOK Sh σ g.2
section DLOK
variable {Sh : Nat → Option Cs} {σ : Sto}
theorem no_ok : dlOK Sh σ no := ⟨trivial, fun g h => by cases h⟩
theorem lgo_ok {i : Nat} {L st : List Value} : lfOK Sh σ (lgo i L st σ) := fun _ _ => rfl
theorem lgo_su {i c j : Nat} {v : Int32} {L st : List Value} (h : ∃ s, Sh c = some s) : lfOK Sh σ (lgo i L st (su σ c j v)) := fun c' h' => su_ne (fun e => by obtain ⟨s, hs⟩ := h; rw [e, hs] at h'; cases h')
theorem go_ok {i : Nat} {L st : List Value} : dlOK Sh σ (go i L st σ) := ⟨lgo_ok, fun g h => by cases h⟩
theorem go_su {i c j : Nat} {v : Int32} {L st : List Value} (h : ∃ s, Sh c = some s) : dlOK Sh σ (go i L st (su σ c j v)) := ⟨lgo_su h, fun g h => by cases h⟩
theorem cal_ok {y k : Nat} {as : List Value} {kk : Rs → List Value} : dlOK Sh σ (cal y k as σ kk) := ⟨fun _ _ => rfl, fun g h => by cases h⟩
theorem rtn_ok {x : Int32} {w : Int64} : dlOK Sh σ (rtn (x, w, σ)) := ⟨fun _ _ => rfl, fun g h => by cases h⟩
theorem gif_ok {p : Prop} {hd : Decidable p} {o : Option Lf} {B : DL} (h1 : lfOK Sh σ o) (h2 : dlOK Sh σ B) : dlOK Sh σ (gif p hd o B) := ⟨h2.1, fun g h => by
  rcases List.mem_cons.mp h with rfl | h
  · exact h1
  · exact h2.2 g h⟩

theorem ldI_ok {L : List Value} {j : Nat} {f : Int32 → DL} (h : ∀ x, dlOK Sh σ (f x)) : dlOK Sh σ (ldI L j f) := by
  unfold ldI
  split
  · exact h _
  · exact no_ok
theorem ldJ_ok {L : List Value} {j : Nat} {f : Int64 → DL} (h : ∀ x, dlOK Sh σ (f x)) : dlOK Sh σ (ldJ L j f) := by
  unfold ldJ
  split
  · exact h _
  · exact no_ok
theorem ldR_ok {L : List Value} {j : Nat} {f : Nat → DL} (h : ∀ x, dlOK Sh σ (f x)) : dlOK Sh σ (ldR L j f) := by
  unfold ldR
  split
  · exact h _
  · exact no_ok
theorem p1_ok {st : List Value} {f : Int32 → List Value → DL} (h : ∀ a b, dlOK Sh σ (f a b)) : dlOK Sh σ (p1 st f) := by
  unfold p1
  split
  · exact h _ _
  · exact no_ok
theorem p2_ok {st : List Value} {f : Int32 → Int32 → List Value → DL} (h : ∀ a b c, dlOK Sh σ (f a b c)) : dlOK Sh σ (p2 st f) := by
  unfold p2
  split
  · exact h _ _ _
  · exact no_ok
theorem q1_ok {st : List Value} {f : Int64 → List Value → DL} (h : ∀ a b, dlOK Sh σ (f a b)) : dlOK Sh σ (q1 st f) := by
  unfold q1
  split
  · exact h _ _
  · exact no_ok
theorem q2_ok {st : List Value} {f : Int64 → Int64 → List Value → DL} (h : ∀ a b c, dlOK Sh σ (f a b c)) : dlOK Sh σ (q2 st f) := by
  unfold q2
  split
  · exact h _ _ _
  · exact no_ok
theorem q3_ok {st : List Value} {f : Int64 → Int32 → List Value → DL} (h : ∀ a b c, dlOK Sh σ (f a b c)) : dlOK Sh σ (q3 st f) := by
  unfold q3
  split
  · exact h _ _ _
  · exact no_ok
theorem c1_ok {st : List Value} {f : Nat → List Value → DL} (h : ∀ a b, dlOK Sh σ (f a b)) : dlOK Sh σ (c1 st f) := by
  unfold c1
  split
  · exact h _ _
  · exact no_ok
theorem c2_ok {st : List Value} {f : Nat → Int32 → List Value → DL} (h : ∀ a b c, dlOK Sh σ (f a b c)) : dlOK Sh σ (c2 st f) := by
  unfold c2
  split
  · exact h _ _ _
  · exact no_ok
theorem c3_ok {st : List Value} {f : Nat → Int32 → Int32 → List Value → DL} (h : ∀ a b c d, dlOK Sh σ (f a b c d)) : dlOK Sh σ (c3 st f) := by
  unfold c3
  split
  · exact h _ _ _ _
  · exact no_ok
theorem c4_ok {st : List Value} {f : Nat → Int32 → List Value → DL} (h : ∀ a b c, dlOK Sh σ (f a b c)) : dlOK Sh σ (c4 st f) := by
  unfold c4
  split
  · exact h _ _ _
  · exact no_ok
theorem d1_ok {st : List Value} {f : Value → List Value → DL} (h : ∀ a b, dlOK Sh σ (f a b)) : dlOK Sh σ (d1 st f) := by
  unfold d1
  split
  · exact h _ _
  · exact h _ _
  · exact no_ok
theorem fldG_ok {c a b : Nat} {f : Option Nat → DL} (h : ∀ o, (∃ s, Sh c = some s) → dlOK Sh σ (f o)) : dlOK Sh σ (fldG Sh c a b f) := by
  unfold fldG
  split
  · split
    · split
      · exact h _ ⟨_, by assumption⟩
      · exact no_ok
    · exact no_ok
  · exact no_ok
theorem rowG_ok {c : Nat} {z : Bool} {f : Nat → DL} (h : ∀ n, (∃ s, Sh c = some s) → dlOK Sh σ (f n)) : dlOK Sh σ (rowG Sh c z f) := by
  unfold rowG
  split
  · split
    · exact h _ ⟨_, by assumption⟩
    · exact no_ok
  · exact no_ok
theorem rowL_ok {c : Nat} {f : Nat → DL} (h : ∀ n, dlOK Sh σ (f n)) : dlOK Sh σ (rowL Sh c f) := by
  unfold rowL
  split
  · exact h _
  · exact no_ok
theorem swc_ok {x : Int32} {L st : List Value} {a : Nat} : ∀ ts : List (Int32 × Nat), dlOK Sh σ (swc x L st σ a ts) := by
  intro ts
  induction ts with
  | nil => exact go_ok
  | cons t ts ih => exact gif_ok lgo_ok ih
theorem popG_ok {n m : Nat} {st : List Value} {f : List Value → List Value → DL} (h : ∀ a b, dlOK Sh σ (f a b)) : dlOK Sh σ (popG n m st f) := by
  unfold popG
  split
  · split
    · exact h _ _
    · exact no_ok
  · exact no_ok
theorem recvG_ok {as : List Value} {k : Nat} {f : DL} (h : dlOK Sh σ f) : dlOK Sh σ (recvG Sh as k f) := by
  unfold recvG
  split
  · split
    · split
      · exact h
      · exact no_ok
    · split
      · split
        · exact h
        · exact no_ok
      · exact no_ok
  · exact no_ok
theorem carryG_ok {i : Nat} {L st : List Value} : dlOK Sh σ (carryG Sh i L st σ) := by
  unfold carryG
  split
  · refine rowG_ok fun _ _ => rowG_ok fun _ h => ?_
    split
    · refine gif_ok (fun c' h' => ?_) no_ok
      obtain ⟨s, hs⟩ := h
      exact if_neg (fun e => by rw [e, hs] at h'; cases h')
    · exact no_ok
  · exact no_ok
set_option maxHeartbeats 4000000 in
theorem act_ok {y k i : Nat} {L st : List Value} : dlOK Sh σ (act Sh y k i L st σ) := by
  unfold act
  split
  · exact no_ok
  · rename_i I q a b d e f p v w ts hf
    cases I
    all_goals dsimp only
    all_goals repeat' (first
      | exact no_ok
      | exact go_ok
      | exact cal_ok
      | exact rtn_ok
      | exact lgo_ok
      | exact carryG_ok
      | exact swc_ok _
      | exact go_su (by assumption)
      | exact lgo_su (by assumption)
      | exact trivial
      | exact fun _ _ => rfl
      | refine ldI_ok fun _ => ?_
      | refine ldJ_ok fun _ => ?_
      | refine ldR_ok fun _ => ?_
      | refine p1_ok fun _ _ => ?_
      | refine p2_ok fun _ _ _ => ?_
      | refine q1_ok fun _ _ => ?_
      | refine q2_ok fun _ _ _ => ?_
      | refine q3_ok fun _ _ _ => ?_
      | refine c1_ok fun _ _ => ?_
      | refine c2_ok fun _ _ _ => ?_
      | refine c3_ok fun _ _ _ _ => ?_
      | refine c4_ok fun _ _ _ => ?_
      | refine d1_ok fun _ _ => ?_
      | refine fldG_ok fun _ _ => ?_
      | refine rowG_ok fun _ _ => ?_
      | refine rowL_ok fun _ => ?_
      | refine popG_ok fun _ _ => ?_
      | refine recvG_ok ?_
      | refine gif_ok ?_ ?_
      | split)
end DLOK
theorem fold_rows {Sh : Nat → Option Cs} {σ : Sto} {K : KT} {K' : Nat → List Value → List Value → Sto → Option Rs} {i : Nat} {L : List Value} {z : Option Lf} {r : Rs}
    (hK : ∀ y k i L st σ r, K y k i L st σ = some r → ∀ c, Sh c = none → r.2.2 c = σ c) (hK' : ∀ i L st σ r, K' i L st σ = some r → ∀ c, Sh c = none → r.2.2 c = σ c) :
    ∀ gs : List (Gd × Option Lf), lfOK Sh σ z → (∀ g ∈ gs, lfOK Sh σ g.2) → fold K K' i L z gs = some r → ∀ c, Sh c = none → r.2.2 c = σ c := by
  have key : ∀ o : Option Lf, lfOK Sh σ o → lfK K K' i L o = some r → ∀ c, Sh c = none → r.2.2 c = σ c := by
    intro o ho h c hc
    match o, ho, h with
    | none, _, h => cases h
    | some (.inl (i', L', st', σ')), ho, h => exact (hK' _ _ _ _ _ h c hc).trans (ho c hc)
    | some (.inr (.inl (y', k', as, σ', kk))), ho, h =>
      have h1 : ((K y' k' 0 (ent y' as) [] σ').bind fun r => K' (i + 1) L (kk r) r.2.2) = some r := h
      cases h2 : K y' k' 0 (ent y' as) [] σ' with
      | none => rw [h2] at h1; cases h1
      | some r1 =>
        rw [h2] at h1
        exact (hK' _ _ _ _ _ h1 c hc).trans ((hK _ _ _ _ _ _ _ h2 c hc).trans (ho c hc))
    | some (.inr (.inr r')), ho, h => cases h; exact ho c hc
  intro gs
  induction gs with
  | nil => intro hz _ h; exact key z hz h
  | cons g gs ih =>
    intro hz hg h
    by_cases hp : g.1.1
    · have h1 : fold K K' i L z (g :: gs) = lfK K K' i L g.2 := @if_pos _ g.1.2 hp _ _ _
      rw [h1] at h
      exact key g.2 (hg g List.mem_cons_self) h
    · have h1 : fold K K' i L z (g :: gs) = fold K K' i L z gs := @if_neg _ g.1.2 hp _ _ _
      rw [h1] at h
      exact ih hz (fun g' h' => hg g' (List.mem_cons_of_mem _ h')) h
theorem run_rows {Sh : Nat → Option Cs} : ∀ (n y k i : Nat) (L st : List Value) (σ : Sto) (r : Rs), run Sh n y k i L st σ = some r → ∀ c, Sh c = none → r.2.2 c = σ c := by
  intro n
  induction n with
  | zero => intro y k i L st σ r h; cases h
  | succ n ih =>
    intro y k i L st σ r h
    have ok : dlOK Sh σ (act Sh y k i L st σ) := act_ok
    exact fold_rows ih (ih y k) _ ok.1 ok.2 h

section WALK
variable {p : Program} {l : Launch} {e : Env} {R : Room} {s : State} {m : MethodId} {args : Array Value} {below : List Frame} {meth : Method} {c : Code} {cells slots : Nat} {Q : State → Prop}
theorem not_lt_ge {x y : Int32} (h : ¬ x < y) : y ≤ x := Int32.not_lt.mp h
theorem lt_not_ge {x y : Int32} (h : x < y) : ¬ y ≤ x := Int32.not_le.mpr h
set_option maxHeartbeats 16000000 in
theorem sim {t : MI} {G : Geo} {Sh : Nat → Option Cs} {cs : List Nat} {A : Nat → Prop} {y k : Nat} {xx : Nat → Int32} {LL : Nat} (ht : mi? y = some t) (C0 : Ctx p s m args c R t G Sh cs A cells slots) (hRf : hgt t k ≤ R.frames ∧ 64 * hgt t k ≤ R.locals) (hR1 : 1 ≤ hgt t k)
    (hIH : ∀ (n y' k' : Nat) (t' : MI), mi? y' = some t' → hgt t' k' < hgt t k → y' ≠ kLaw → ∀ (as : List Value) (σ : Sto) (r : Rs), run Sh n y' k' 0 (ent y' as) [] σ = some r → (wide as).length ≤ mx y' → MetP l G Sh cs y' k' as σ r)
    (hcarry : natP) (hscr : y = kLaw → Scr s G A xx LL) {r : Rs} (hret : RetH p l e R s m args below meth c cells slots Q t G Sh cs A r) :
    ∀ (n i : Nat) (L st : List Value) (σ : Sto), run Sh n y k i L st σ = some r → (y = kLaw → Rows σ xx LL) → Goes1 p l e R s m args below meth c cells slots Q G Sh cs A t.2.2.1 y i L st σ := by
  have C0' := C0
  obtain ⟨hx, hb, hml, hown, hts, hK, hD, hA, hE, hnd, hSh, hcc, hss, hcls, hmok, hck⟩ := C0
  have hF := hE.cat
  intro n
  induction n with
  | zero => intro i L st σ h; cases h
  | succ n ih =>
    intro i L st σ h hrows H locs ls q hq hP hS hl
    replace h : fold1 (run Sh n) (run Sh n y k) i L (act Sh y k i L st σ) = some r := h
    unfold act at h
    cases hfet : fetch y i with
    | none => rw [hfet] at h; exact (no_inv h).elim
    | some ri =>
      obtain ⟨I, q', a, b, d, e', f, p', v, w, ts⟩ := ri
      rw [hfet] at h
      have hqq : q' = q := by rw [← hq]; unfold qo; rw [hfet]
      subst hqq
      have hck1 := hck y i
      unfold chk at hck1
      rw [ht, hfet] at hck1
      unfold chkI at hck1
      dsimp only at hck1
      cases hdec : decode t.2.1 q' with
      | error _ => rw [hdec] at hck1; cases hck1
      | ok jn =>
        obtain ⟨J, len⟩ := jn
        rw [hdec] at hck1
        dsimp only at hck1
        rw [Bool.and_eq_true, decide_eq_true_eq] at hck1
        obtain ⟨rfl, hk⟩ := hck1
        unfold chkK at hk
        have go1 : ∀ {i' : Nat} {st' : List Value} {q2 : Nat}, run Sh n y k i' L st' σ = some r → qo y i' = q2 → W p l e R s m args below meth c H locs cells slots Q (F0 m q2 ls (st'.map (cv G))) := fun h1 h2 => ih _ _ _ _ h1 hrows H locs ls _ h2 hP hS hl
        have sto : ∀ {c' : Nat}, (∃ s', Sh c' = some s') → ∀ {σ' : Sto}, (∀ c2, c2 ≠ c' → σ' c2 = σ c2) → (y = kLaw → Rows σ' xx LL) := fun {c'} ⟨s', hs'⟩ {σ'} ho hy => by
          have h49 := (hSh c' s' hs').2
          obtain ⟨h1, h2⟩ := hrows hy
          exact ⟨by rw [ho 99 (by omega)]; exact h1, by rw [ho 98 (by omega)]; exact h2⟩
        cases J
        case aload_n n =>
          dsimp only at h hk
          obtain ⟨rfl, hnx⟩ := ftC_inv hk
          obtain ⟨x, hn, h⟩ := ldR_inv h
          have h9 := hl.2.2 n.val (.ref x) hn (fun z => by cases z)
          have g9 := go1 h hnx
          rcases hE.orNull x with z | ⟨z1, z⟩
          · have e1 : cv G (.ref x) = .null := z
            rw [e1] at h9
            simp only [List.map_cons, e1] at g9
            exact lv_aload_nN hx hb hdec rfl h9 g9
          · have e1 : cv G (.ref x) = .ref z1 := z
            rw [e1] at h9
            simp only [List.map_cons, e1] at g9
            exact lv_aload_n hx hb hdec rfl h9 g9
        case iload_n n =>
          dsimp only at h hk
          obtain ⟨rfl, hnx⟩ := ftC_inv hk
          obtain ⟨x, hn, h⟩ := ldI_inv h
          exact lv_iload_n hx hb hdec rfl (hl.2.2 n.val (.int x) hn (fun z => by cases z)) (go1 h hnx)
        case lload_n n =>
          dsimp only at h hk
          obtain ⟨rfl, hnx⟩ := ftC_inv hk
          obtain ⟨x, hn, h⟩ := ldJ_inv h
          exact lv_lload_n hx hb hdec rfl (hl.2.2 n.val (.long x) hn (fun z => by cases z)) (go1 h hnx)
        case iload n =>
          dsimp only at h hk
          obtain ⟨rfl, hnx⟩ := ftC_inv hk
          obtain ⟨x, hn, h⟩ := ldI_inv h
          exact lv_iload hx hb hdec (hl.2.2 n (.int x) hn (fun z => by cases z)) (go1 h hnx)
        case lload n =>
          dsimp only at h hk
          obtain ⟨rfl, hnx⟩ := ftC_inv hk
          obtain ⟨x, hn, h⟩ := ldJ_inv h
          exact lv_lload hx hb hdec (hl.2.2 n (.long x) hn (fun z => by cases z)) (go1 h hnx)
        case istore_n n =>
          dsimp only at h hk
          rw [Bool.and_eq_true, decide_eq_true_eq] at hk
          obtain ⟨hk, hlt⟩ := hk
          obtain ⟨rfl, hnx⟩ := ftC_inv hk
          obtain ⟨x, rs, rfl, h⟩ := p1_inv h
          exact lv_istore_n hx hb hdec rfl hl.has hlt rfl (fun ls' hl' => ih _ _ _ _ h hrows H locs ls' _ hnx hP hS (hL.of1 hF (x := .int x) hl'))
        case istore n =>
          dsimp only at h hk
          rw [Bool.and_eq_true, decide_eq_true_eq] at hk
          obtain ⟨hk, hlt⟩ := hk
          obtain ⟨rfl, hnx⟩ := ftC_inv hk
          obtain ⟨x, rs, rfl, h⟩ := p1_inv h
          exact lv_istore hx hb hdec hl.has hlt rfl (fun ls' hl' => ih _ _ _ _ h hrows H locs ls' _ hnx hP hS (hL.of1 hF (x := .int x) hl'))
        case lstore_n n =>
          dsimp only at h hk
          rw [Bool.and_eq_true, decide_eq_true_eq] at hk
          obtain ⟨hk, hlt⟩ := hk
          obtain ⟨rfl, hnx⟩ := ftC_inv hk
          obtain ⟨x, rs, rfl, h⟩ := q1_inv h
          exact lv_lstore_n hx hb hdec rfl hl.has hlt rfl (fun ls' hl' => ih _ _ _ _ h hrows H locs ls' _ hnx hP hS (hL.of2 hF (x := .long x) hl'))
        case lstore n =>
          dsimp only at h hk
          rw [Bool.and_eq_true, decide_eq_true_eq] at hk
          obtain ⟨hk, hlt⟩ := hk
          obtain ⟨rfl, hnx⟩ := ftC_inv hk
          obtain ⟨x, rs, rfl, h⟩ := q1_inv h
          exact lv_lstore hx hb hdec hl.has hlt rfl (fun ls' hl' => ih _ _ _ _ h hrows H locs ls' _ hnx hP hS (hL.of2 hF (x := .long x) hl'))
        case iinc n z =>
          dsimp only at h hk
          rw [Bool.and_eq_true, Bool.and_eq_true, decide_eq_true_eq, decide_eq_true_eq] at hk
          obtain ⟨⟨hk, hlt⟩, hv⟩ := hk
          obtain ⟨rfl, hnx⟩ := ftC_inv hk
          obtain ⟨x, hn, h⟩ := ldI_inv h
          obtain ⟨k9, hk9⟩ := List.mem_iff_getElem?.mp ((asL_mem (G := G) (q := (n, .int x)) L 0).mpr ⟨n, .int x, hn, fun z => (by cases z), by simp [cv]⟩)
          exact lv_iinc hx hb hdec hl.has hk9 (by rw [hv]) hlt rfl (fun ls' hl' => ih _ _ _ _ h hrows H locs ls' _ hnx hP hS (hL.of1 hF (x := .int (x + v)) hl'))
        case iconst z =>
          dsimp only at h hk
          rw [Bool.and_eq_true, decide_eq_true_eq] at hk
          obtain ⟨hk, hv⟩ := hk
          obtain ⟨rfl, hnx⟩ := ftC_inv hk
          exact lv_iconst hx hb hdec hv (go1 h hnx)
        case bipush z =>
          dsimp only at h hk
          rw [Bool.and_eq_true, decide_eq_true_eq] at hk
          obtain ⟨hk, hv⟩ := hk
          obtain ⟨rfl, hnx⟩ := ftC_inv hk
          exact lv_bipush hx hb hdec hv (go1 h hnx)
        case sipush z =>
          dsimp only at h hk
          rw [Bool.and_eq_true, decide_eq_true_eq] at hk
          obtain ⟨hk, hv⟩ := hk
          obtain ⟨rfl, hnx⟩ := ftC_inv hk
          exact lv_sipush hx hb hdec hv (go1 h hnx)
        case lconst z =>
          dsimp only at h hk
          rw [Bool.and_eq_true, decide_eq_true_eq] at hk
          obtain ⟨hk, hv⟩ := hk
          obtain ⟨rfl, hnx⟩ := ftC_inv hk
          exact lv_lconst hx hb hdec hv (go1 h hnx)
        case ldc idx =>
          dsimp only at h hk
          rw [Bool.and_eq_true] at hk
          obtain ⟨hk, hv⟩ := hk
          obtain ⟨rfl, hnx⟩ := ftC_inv hk
          by_cases ha : a = 1
          · rw [if_pos ha] at h hv
            simp only [Bool.and_eq_true, decide_eq_true_eq] at hv
            obtain ⟨⟨h1, h2⟩, h3⟩ := hv
            cases hs : nth strK (b - 100) with
            | none => rw [hs] at h3; cases h3
            | some z =>
              rw [hs] at h3
              have h4 := of_decide_eq_true h3
              have hlt : b - 100 < 12 := nth_lt _ _ _ hs
              have h5 := hE.2.1 _ _ hs
              have e1 : cv G (.ref b) = .ref (G.2.2.2.1 (b - 100)) := by
                show cr G b = _
                unfold cr
                rw [if_neg (by omega), if_pos (by omega)]
              have g9 := go1 h hnx
              simp only [List.map_cons, e1] at g9
              rw [h4] at h5
              rw [h1] at hown
              exact va_ldcS hx hb hown h5 hdec g9
          · rw [if_neg ha] at h hv
            exact lv_ldc hx hb hown (hts _ (wC_inv hv rfl)) hdec (go1 h hnx)
        case ldc_w idx =>
          dsimp only at h hk
          rw [Bool.and_eq_true] at hk
          obtain ⟨hk, hv⟩ := hk
          obtain ⟨rfl, hnx⟩ := ftC_inv hk
          exact lv_ldcw hx hb hown (hts _ (wC_inv hv rfl)) hdec (go1 h hnx)
        case ldc2_w idx =>
          dsimp only at h hk
          rw [Bool.and_eq_true] at hk
          obtain ⟨hk, hv⟩ := hk
          obtain ⟨rfl, hnx⟩ := ftC_inv hk
          exact lv_ldc2 hx hb hown (hts _ (wC_inv hv rfl)) hdec (go1 h hnx)
        case getfield idx =>
          dsimp only at h hk
          rw [Bool.and_eq_true] at hk
          obtain ⟨hk, hv⟩ := hk
          obtain ⟨rfl, hnx⟩ := ftC_inv hk
          replace h := c1_inv h; obtain ⟨c9, rs, rfl, h⟩ := h
          by_cases ha : a = 50
          · rw [if_pos ha] at h hv
            by_cases hc9 : 100 ≤ c9 ∧ c9 < 112
            · rw [if_pos hc9] at h
              have e1 : cv G (.ref c9) = .ref (G.2.2.2.1 (c9 - 100)) := by
                show cr G c9 = _
                unfold cr
                rw [if_neg (by omega), if_pos (by omega)]
              have e2 : cv G (.ref (c9 + 100)) = .ref (G.2.2.2.2.1 (c9 - 100)) := by
                show cr G (c9 + 100) = _
                unfold cr
                rw [if_neg (by omega), if_neg (by omega), if_pos (by omega), show c9 + 100 - 200 = c9 - 100 by omega]
              have g9 := go1 h hnx
              simp only [List.map_cons, e2] at g9
              simp only [List.map_cons, e1]
              exact vk_getf hx hb (hE.1.1 (c9 - 100) (by omega)).2.2.1 hS hown (hts _ (wC_inv hv rfl)) (fun _ z => z) hdec g9
            · rw [if_neg hc9] at h; exact (no_inv h).elim
          · rw [if_neg ha] at h hv
            by_cases ha1 : a = 51
            · rw [if_pos ha1] at h hv
              by_cases hc9 : 100 ≤ c9 ∧ c9 < 112
              · rw [if_pos hc9] at h
                have e1 : cv G (.ref c9) = .ref (G.2.2.2.1 (c9 - 100)) := by
                  show cr G c9 = _
                  unfold cr
                  rw [if_neg (by omega), if_pos (by omega)]
                have g9 := go1 h hnx
                simp only [List.map_cons, e1]
                exact vk_getf hx hb (hE.1.1 (c9 - 100) (by omega)).2.1 hS hown (hts _ (wC_inv hv rfl)) (fun _ z => z) hdec g9
              · rw [if_neg hc9] at h; exact (no_inv h).elim
            · rw [if_neg ha1] at h hv
              obtain ⟨ks, o9, hs9, hn9, h⟩ := fldG_inv h
              obtain ⟨C, T, N, hq9, hbN, hT1, hlk, -⟩ := fldC_inv hv
              obtain ⟨hin9, h49⟩ := hSh _ _ hs9
              obtain ⟨p9, hp9⟩ := List.mem_iff_getElem?.mp hin9
              have e1 : cv G (.ref c9) = .ref (G.1 c9) := cr_lo (by omega)
              have g9 : W p l e R s m args below meth c H locs cells slots Q (F0 m (q' + 3) ls (fieldV G (σ c9 b) o9 :: rs.map (cv G))) := by
                cases o9 with
                | none => exact go1 h hnx
                | some x9 => exact go1 h hnx
              simp only [List.map_cons, e1]
              have hfv := wF_get (G := G) (r := σ c9) ks 0 b o9 hn9
              rw [Nat.zero_add] at hfv
              exact va_get (ref := C) hx hb hts (hcls a C T N hq9).1 hown hK hP p9 (by rw [wW_at hp9, wE_obj hs9]) (by rw [← nth_get]; exact hq9) b hbN (hts _ hlk) (by rw [hT1]; exact fun _ z => z) hfv hdec g9
        case putfield idx =>
          dsimp only at h hk
          rw [Bool.and_eq_true] at hk
          obtain ⟨hk, hv⟩ := hk
          obtain ⟨rfl, hnx⟩ := ftC_inv hk
          replace h := c4_inv h; obtain ⟨c9, x9, rs, rfl, h⟩ := h
          obtain ⟨ks, o9, hs9, hn9, h⟩ := fldG_inv h
          obtain ⟨C, T, N, hq9, hbN, hT1, hlk, hwr⟩ := fldC_inv hv
          obtain ⟨hfin, hdsc⟩ := hwr rfl
          obtain ⟨hin9, h49⟩ := hSh _ _ hs9
          obtain ⟨p9, hp9⟩ := List.mem_iff_getElem?.mp hin9
          obtain ⟨hw9, ty9, hty9, hnm9⟩ := hcls a C T N hq9
          have e1 : cv G (.ref c9) = .ref (G.1 c9) := cr_lo (by omega)
          cases o9 with
          | some z => exact (no_inv h).elim
          | none =>
            dsimp only at h
            have key : ∃ ty : FieldType, parseFieldDescriptor (T b).2.2.1 = some ty ∧ narrow ty (.int x9) = .int x9 ∧ fits ty (.int x9) = true ∧ run Sh n y k (i + 1) L rs (su σ c9 b x9) = some r := by
              by_cases hd : d = 0
              · rw [if_pos hd] at h hdsc
                exact ⟨.int, by rw [hdsc]; rfl, rfl, rfl, h⟩
              · rw [if_neg hd] at h hdsc
                rcases gif_inv h with ⟨hz, h⟩ | ⟨-, h⟩
                · rcases zb_cases hz with rfl | rfl
                  · exact ⟨.boolean, by rw [hdsc]; rfl, rfl, rfl, h⟩
                  · exact ⟨.boolean, by rw [hdsc]; rfl, rfl, rfl, h⟩
                · exact (no_inv h).elim
            obtain ⟨ty, hpd, hna, hfi, h⟩ := key
            have e3 : cv G (.int x9) = .int x9 := rfl
            simp only [List.map_cons, e1, e3]
            refine va_put (ref := C) hx hb hts hw9 ty9 hty9 hnm9 hown hK hP (hD σ) hS p9 (by rw [wW_at hp9, wE_obj hs9]) (by rw [← nth_get]; exact hq9) b hbN (hts _ hlk) (by rw [hT1]; exact fun _ z => z) hfin hpd hna hfi (by rw [wF_len]; exact nth_lt _ _ _ hn9) hdec (fun H1 locs1 hP1 hD1 hS1 => ?_)
            rw [wW_set hnd hp9 (σ' := su σ c9 b x9) (by rw [wE_obj hs9, wF_set ks 0 b hn9, su_row, Nat.zero_add]) (fun c' hc' => su_ne hc')] at hP1
            exact ih _ _ _ _ h (sto ⟨_, hs9⟩ (fun c2 h2 => su_ne h2)) H1 locs1 ls _ hnx hP1 hS1 hl
        case getstatic idx =>
          dsimp only at h hk
          rw [Bool.and_eq_true] at hk
          obtain ⟨hk, hv⟩ := hk
          obtain ⟨rfl, hnx⟩ := ftC_inv hk
          by_cases ha : a = 1
          · rw [if_pos ha] at h hv
            rw [Bool.and_eq_true, decide_eq_true_eq] at hv
            obtain ⟨rfl, hv⟩ := hv
            exact va_gets hx hb hE.2.2.1 hS hown (hts _ (wC_inv hv rfl)) (fun _ z => z) hdec (go1 h hnx)
          · rw [if_neg ha] at h hv
            by_cases ha2 : a = 2
            · rw [if_pos ha2] at h hv
              have g9 := go1 h hnx
              exact va_gets hx hb hE.2.2.2.1 hS hown (hts _ (wC_inv hv rfl)) (fun _ z => z) hdec g9
            · rw [if_neg ha2] at h; exact (no_inv h).elim
        case iaload =>
          dsimp only at h hk
          rw [Bool.and_eq_true] at hk
          obtain ⟨hk, hv⟩ := hk
          obtain ⟨rfl, hnx⟩ := ftC_inv hk
          replace h := c2_inv h; obtain ⟨c9, x9, rs, rfl, h⟩ := h
          by_cases ha : a = 1
          · rw [if_pos ha] at h hv
            have hy := of_decide_eq_true hv
            by_cases hc9 : c9 = 99
            · rw [if_pos hc9] at h
              subst hc9
              obtain ⟨hX, hbl, hbA, hLL⟩ := hscr hy
              obtain ⟨r1, r2⟩ := hrows hy
              rcases gif_inv h with ⟨hz, h⟩ | ⟨-, h⟩
              · rw [r2, nI_clamp hLL] at hz
                have h : run Sh n y k (i + 1) L (.int (σ 99 x9.toNatClampNeg) :: rs) σ = some r := h
                rw [r1] at h
                have e1 : cv G (.ref 99) = .ref (G.1 99) := cr_lo (by omega)
                simp only [List.map_cons, e1]
                exact va_sld hx hb hX hbl hbA hS (inb_in hz) hdec (go1 h hnx)
              · exact (no_inv h).elim
            · rw [if_neg hc9] at h; exact (no_inv h).elim
          · rw [if_neg ha] at h
            obtain ⟨n9, hs9, h⟩ := rowG_inv h
            obtain ⟨hin9, h49⟩ := hSh _ _ hs9
            obtain ⟨p9, hp9⟩ := List.mem_iff_getElem?.mp hin9
            have e1 : cv G (.ref c9) = .ref (G.1 c9) := cr_lo (by omega)
            rcases gif_inv h with ⟨hz, h⟩ | ⟨-, h⟩
            · simp only [List.map_cons, e1]
              exact va_iald hx hb hK hP p9 p9 (by rw [wW_at hp9, wE_arr hs9]) (by rw [tysW_at hp9, tyc_arr hs9]; rfl) (inb_in hz) hdec (go1 h hnx)
            · exact (no_inv h).elim
        case baload =>
          dsimp only at h hk
          obtain ⟨rfl, hnx⟩ := ftC_inv hk
          replace h := c2_inv h; obtain ⟨c9, x9, rs, rfl, h⟩ := h
          by_cases ha : a = 2
          · rw [if_pos ha] at h
            by_cases hc9 : 200 ≤ c9 ∧ c9 < 212
            · rw [if_pos hc9] at h
              rcases gif_inv h with ⟨hz, h⟩ | ⟨-, h⟩
              · have e1 : cv G (.ref c9) = .ref (G.2.2.2.2.1 (c9 - 200)) := by
                  show cr G c9 = _
                  unfold cr
                  rw [if_neg (by omega), if_neg (by omega), if_pos (by omega)]
                have hT := (hE.1.1 (c9 - 200) (by omega)).2.2.2
                rw [lenL_getD _ (by omega), byteL_getD] at hT
                simp only [List.map_cons, e1]
                exact va_tb hx hb hT hS (inb_in hz) rfl hdec (go1 h hnx)
              · exact (no_inv h).elim
            · rw [if_neg hc9] at h; exact (no_inv h).elim
          · rw [if_neg ha] at h
            obtain ⟨n9, hs9, h⟩ := rowG_inv h
            obtain ⟨hin9, h49⟩ := hSh _ _ hs9
            obtain ⟨p9, hp9⟩ := List.mem_iff_getElem?.mp hin9
            have e1 : cv G (.ref c9) = .ref (G.1 c9) := cr_lo (by omega)
            rcases gif_inv h with ⟨hz, h⟩ | ⟨-, h⟩
            · simp only [List.map_cons, e1]
              exact va_zald hx hb hK hP p9 p9 (by rw [wW_at hp9, wE_arr hs9]) (by rw [tysW_at hp9, tyc_arr hs9]; rfl) (inb_in hz) hdec (go1 h hnx)
            · exact (no_inv h).elim
        case iastore =>
          dsimp only at h hk
          obtain ⟨rfl, hnx⟩ := ftC_inv hk
          replace h := c3_inv h; obtain ⟨c9, x9, z9, rs, rfl, h⟩ := h
          obtain ⟨n9, hs9, h⟩ := rowG_inv h
          obtain ⟨hin9, h49⟩ := hSh _ _ hs9
          obtain ⟨p9, hp9⟩ := List.mem_iff_getElem?.mp hin9
          have e1 : cv G (.ref c9) = .ref (G.1 c9) := cr_lo (by omega)
          rcases gif_inv h with ⟨hz, h⟩ | ⟨-, h⟩
          · simp only [List.map_cons, e1]
            refine va_iast hx hb hK hP (hD σ) hS p9 p9 (by rw [wW_at hp9, wE_arr hs9]) (by rw [tysW_at hp9, tyc_arr hs9]; rfl) (inb_in hz) hdec (fun H1 locs1 hP1 hD1 hS1 => ?_)
            rw [wW_set hnd hp9 (σ' := su σ c9 x9.toNatClampNeg z9) (by rw [wE_arr hs9, su_row]) (fun c' hc' => su_ne hc')] at hP1
            exact ih _ _ _ _ h (sto ⟨_, hs9⟩ (fun c2 h2 => su_ne h2)) H1 locs1 ls _ hnx hP1 hS1 hl
          · exact (no_inv h).elim
        case bastore =>
          dsimp only at h hk
          obtain ⟨rfl, hnx⟩ := ftC_inv hk
          replace h := c3_inv h; obtain ⟨c9, x9, z9, rs, rfl, h⟩ := h
          obtain ⟨n9, hs9, h⟩ := rowG_inv h
          obtain ⟨hin9, h49⟩ := hSh _ _ hs9
          obtain ⟨p9, hp9⟩ := List.mem_iff_getElem?.mp hin9
          have e1 : cv G (.ref c9) = .ref (G.1 c9) := cr_lo (by omega)
          rcases gif_inv h with ⟨⟨hz, hzb⟩, h⟩ | ⟨-, h⟩
          · simp only [List.map_cons, e1]
            refine va_zast hx hb hK hP (hD σ) hS p9 p9 (by rw [wW_at hp9, wE_arr hs9]) (by rw [tysW_at hp9, tyc_arr hs9]; rfl) (inb_in hz) hdec (fun H1 locs1 hP1 hD1 hS1 => ?_)
            have e2 : vp_nar .boolean z9 = z9 := by
              rcases zb_cases hzb with rfl | rfl <;> rfl
            rw [e2] at hP1
            rw [wW_set hnd hp9 (σ' := su σ c9 x9.toNatClampNeg z9) (by rw [wE_arr hs9, su_row]) (fun c' hc' => su_ne hc')] at hP1
            exact ih _ _ _ _ h (sto ⟨_, hs9⟩ (fun c2 h2 => su_ne h2)) H1 locs1 ls _ hnx hP1 hS1 hl
          · exact (no_inv h).elim
        case arraylength =>
          dsimp only at h hk
          rw [Bool.and_eq_true] at hk
          obtain ⟨hk, hv⟩ := hk
          obtain ⟨rfl, hnx⟩ := ftC_inv hk
          replace h := c1_inv h; obtain ⟨c9, rs, rfl, h⟩ := h
          by_cases ha : a = 1
          · rw [if_pos ha] at h hv
            have hy := of_decide_eq_true hv
            by_cases hc9 : c9 = 99
            · rw [if_pos hc9] at h
              subst hc9
              obtain ⟨hX, hbl, hbA, hLL⟩ := hscr hy
              obtain ⟨r1, r2⟩ := hrows hy
              rw [r2] at h
              have e1 : cv G (.ref 99) = .ref (G.1 99) := cr_lo (by omega)
              simp only [List.map_cons, e1]
              exact va_slen hx hb hX hbl hbA hS hdec (go1 h hnx)
            · rw [if_neg hc9] at h; exact (no_inv h).elim
          · rw [if_neg ha] at h
            by_cases ha2 : a = 2
            · rw [if_pos ha2] at h
              by_cases hc9 : 200 ≤ c9 ∧ c9 < 212
              · rw [if_pos hc9] at h
                have e1 : cv G (.ref c9) = .ref (G.2.2.2.2.1 (c9 - 200)) := by
                  show cr G c9 = _
                  unfold cr
                  rw [if_neg (by omega), if_neg (by omega), if_pos (by omega)]
                have hT := (hE.1.1 (c9 - 200) (by omega)).2.2.2
                rw [lenL_getD _ (by omega), byteL_getD] at hT
                simp only [List.map_cons, e1]
                exact va_tlen hx hb hT hS rfl hdec (go1 h hnx)
              · rw [if_neg hc9] at h; exact (no_inv h).elim
            · rw [if_neg ha2] at h
              obtain ⟨z9, n9, hs9, h⟩ := rowL_inv h
              obtain ⟨hin9, h49⟩ := hSh _ _ hs9
              obtain ⟨p9, hp9⟩ := List.mem_iff_getElem?.mp hin9
              have e1 : cv G (.ref c9) = .ref (G.1 c9) := cr_lo (by omega)
              simp only [List.map_cons, e1]
              exact va_alen (x := (n9, .inl (σ c9))) hx hb hK hP p9 p9 (by rw [wW_at hp9, wE_arr hs9]) (by rw [tysW_at hp9]) rfl hdec (go1 h hnx)
        case invokevirtual idx =>
          dsimp only at h hk
          by_cases hd : d = 0
          · rw [if_pos hd] at h hk
            rw [Bool.and_eq_true] at hk
            obtain ⟨hk, hcall⟩ := hk
            obtain ⟨rfl, hnx⟩ := ftC_inv hk
            have hrows' : ∀ r1 : Rs, (∀ c', Sh c' = none → r1.2.2 c' = σ c') → (y = kLaw → Rows r1.2.2 xx LL) := fun r1 hr1 hy => by
              have n1 : ∀ c', 49 ≤ c' → Sh c' = none := fun c' h9 => by
                cases hs : Sh c' with
                | none => rfl
                | some z => have := (hSh c' z hs).2; omega
              obtain ⟨h1, h2⟩ := hrows hy
              exact ⟨by rw [hr1 99 (n1 99 (by omega))]; exact h1, by rw [hr1 98 (n1 98 (by omega))]; exact h2⟩
            replace h := popG_inv h; obtain ⟨xs, rs, hlen, rfl, hsum, hwide, h⟩ := h
            obtain ⟨c9, s9, hx9, hrc, h⟩ := recvG_inv h
            have key : ∃ (k' : Nat) (r1 : Rs), (((d = 0 → ts ≠ [] → k' = k + 1 ∧ k < 6) ∧ ((d ≠ 0 ∨ ts = []) → k' = k))) ∧ run Sh n a k' 0 (ent a xs.reverse) [] σ = some r1 ∧ run Sh n y k (i + 1) L (pushR e' r1 rs) r1.2.2 = some r := by
              cases ts with
              | nil =>
                have h : ((run Sh n a k 0 (ent a xs.reverse) [] σ).bind fun r1 => run Sh n y k (i + 1) L (pushR e' r1 rs) r1.2.2) = some r := h
                obtain ⟨r1, h1, h2⟩ := Option.bind_eq_some_iff.mp h
                exact ⟨k, r1, ⟨fun _ z => absurd rfl z, fun _ => rfl⟩, h1, h2⟩
              | cons z ts =>
                rcases gif_inv h with ⟨hk6, h⟩ | ⟨-, h⟩
                · have h : ((run Sh n a (k + 1) 0 (ent a xs.reverse) [] σ).bind fun r1 => run Sh n y k (i + 1) L (pushR e' r1 rs) r1.2.2) = some r := h
                  obtain ⟨r1, h1, h2⟩ := Option.bind_eq_some_iff.mp h
                  exact ⟨k + 1, r1, ⟨fun _ _ => ⟨rfl, hk6⟩, fun z => by rcases z with z | z; exact absurd hd z; cases z⟩, h1, h2⟩
                · exact (no_inv h).elim
            obtain ⟨k', r1, hkk, hr1, h⟩ := key
            exact dc_invoke (y := y) C0' hRf hcall (fun _ _ => hkk) (fun t' ht' hlt hal => hIH n a k' t' ht' hlt hal _ _ _ hr1 hwide) hlen hsum (Or.inl ⟨hd, hdec⟩) (fun _ => ⟨c9, s9, hx9, hrc⟩) hP hS hl.1
              (fun H1 locs1 hP1 hS1 => ih _ _ _ _ h (hrows' r1 (run_rows n _ _ _ _ _ _ _ hr1)) H1 locs1 ls _ hnx hP1 hS1 hl)
          · rw [if_neg hd] at h; exact (no_inv h).elim
        case invokestatic idx =>
          dsimp only at h hk
          by_cases hd3 : d = 3
          · rw [if_pos hd3] at h hk
            rw [Bool.and_eq_true] at hk
            obtain ⟨hk, hv⟩ := hk
            obtain ⟨rfl, hnx⟩ := ftC_inv hk
            unfold carryG at h
            split at h
            · rename_i n9 dp d9 sp c9 rs
              obtain ⟨nc, hsc, h⟩ := rowG_inv h
              obtain ⟨nd, hsd, h⟩ := rowG_inv h
              by_cases hsum : (rs.map fun v => v.category).sum ≤ 8
              · rw [if_pos hsum] at h
                rcases gif_inv h with ⟨⟨g1, g2, g3, g4, g5⟩, h⟩ | ⟨-, h⟩
                · obtain ⟨hin9, h49⟩ := hSh _ _ hsc
                  obtain ⟨p9, hp9⟩ := List.mem_iff_getElem?.mp hin9
                  obtain ⟨hin8, h48⟩ := hSh _ _ hsd
                  obtain ⟨p8, hp8⟩ := List.mem_iff_getElem?.mp hin8
                  have e1 : cv G (.ref c9) = .ref (G.1 c9) := cr_lo (by omega)
                  have e2 : cv G (.ref d9) = .ref (G.1 d9) := cr_lo (by omega)
                  have nn : ∀ z : Int32, 0 ≤ z.toInt → ¬ z < 0 ∧ (z.toNatClampNeg : Int) = z.toInt := fun z hz => by
                    refine ⟨fun hz2 => ?_, ?_⟩
                    · have h3 := Int32.lt_iff_toInt_lt.mp hz2
                      have h0 : (0 : Int32).toInt = 0 := by decide
                      omega
                    · show ((z.toInt.toNat : Nat) : Int) = _
                      omega
                  have a1 := nn sp g1
                  have a2 := nn dp g2
                  have a3 := nn n9 g3
                  simp only [List.map_cons, e1, e2]
                  have hwd := hv
                  refine va_copyi hx hb (by rw [hml]; exact hl.1.symm) hown (hts _ (wC_inv hv rfl)) (hts _ hcarry.1) (hts _ hcarry.2.1) (hts _ hcarry.2.2.1) hK hP (hD σ) hS p9 p8 p9 p8 (by rw [wW_at hp9, wE_arr hsc]) (by rw [wW_at hp8, wE_arr hsd]) (by rw [tysW_at hp9, tyc_arr hsc]) (by rw [tysW_at hp8, tyc_arr hsd]) rfl a1.1 a2.1 a3.1 (by omega) (by omega) (fun _ _ => rfl) (by omega) ?_ hdec (fun H1 locs1 hP1 hD1 hS1 => ?_)
                  · rw [cv_sum hF]
                    have e9 : nativeFrameWords "java/lang/System" "arraycopy" 5 = 7 := by decide +kernel
                    omega
                  · rw [wW_set hnd hp8 (σ' := cpy σ c9 d9 sp dp n9) (by rw [wE_arr hsd]; unfold cpy; rw [if_pos rfl]) (fun c' hc' => if_neg hc')] at hP1
                    exact ih _ _ _ _ h (sto ⟨_, hsd⟩ (fun c2 h2 => if_neg h2)) H1 locs1 ls _ hnx hP1 hS1 hl
                · exact (no_inv h).elim
              · rw [if_neg hsum] at h; exact (no_inv h).elim
            · exact (no_inv h).elim
          · rw [if_neg hd3] at h hk
            have hml2 : c.maxLocals = ls.size := by rw [hml]; exact hl.1.symm
            by_cases hd4 : d = 4
            · rw [if_pos hd4] at h hk
              rw [Bool.and_eq_true] at hk
              obtain ⟨hk, hv⟩ := hk
              obtain ⟨rfl, hnx⟩ := ftC_inv hk
              replace h := p1_inv h; obtain ⟨x9, rs, rfl, h⟩ := h
              by_cases hsum : (rs.map fun v => v.category).sum ≤ 8
              · rw [if_pos hsum] at h
                exact va_mabs hx hb hml2 hown (hts _ (wC_inv hv rfl)) (hts _ hcarry.2.2.2.2.1.1) (hts _ hcarry.2.2.2.1) (hts _ hcarry.2.2.2.2.1.2) (by omega) (by rw [cv_sum hF]; omega) hcc hss hdec (go1 h hnx)
              · rw [if_neg hsum] at h; exact (no_inv h).elim
            rw [if_neg hd4] at h hk
            by_cases hd5 : d = 5
            · rw [if_pos hd5] at h hk
              rw [Bool.and_eq_true] at hk
              obtain ⟨hk, hv⟩ := hk
              obtain ⟨rfl, hnx⟩ := ftC_inv hk
              replace h := p2_inv h; obtain ⟨x9, y9, rs, rfl, h⟩ := h
              by_cases hsum : (rs.map fun v => v.category).sum ≤ 8
              · rw [if_pos hsum] at h
                exact va_mmax hx hb hml2 hown (hts _ (wC_inv hv rfl)) (hts _ hcarry.2.2.2.2.2.1.1) (hts _ hcarry.2.2.2.1) (hts _ hcarry.2.2.2.2.2.1.2) (by omega) (by rw [cv_sum hF]; omega) hcc hss hdec (go1 h hnx)
              · rw [if_neg hsum] at h; exact (no_inv h).elim
            rw [if_neg hd5] at h hk
            by_cases hd6 : d = 6
            · rw [if_pos hd6] at h hk
              rw [Bool.and_eq_true] at hk
              obtain ⟨hk, hv⟩ := hk
              obtain ⟨rfl, hnx⟩ := ftC_inv hk
              replace h := p2_inv h; obtain ⟨x9, y9, rs, rfl, h⟩ := h
              by_cases hsum : (rs.map fun v => v.category).sum ≤ 8
              · rw [if_pos hsum] at h
                exact va_mmin hx hb hml2 hown (hts _ (wC_inv hv rfl)) (hts _ hcarry.2.2.2.2.2.2.1) (hts _ hcarry.2.2.2.1) (hts _ hcarry.2.2.2.2.2.2.2) (by omega) (by rw [cv_sum hF]; omega) hcc hss hdec (go1 h hnx)
              · rw [if_neg hsum] at h; exact (no_inv h).elim
            rw [if_neg hd6] at h hk
            by_cases hd : d = 1 ∨ d = 2
            · rw [if_pos hd] at h hk
              rw [Bool.and_eq_true] at hk
              obtain ⟨hk, hcall⟩ := hk
              obtain ⟨rfl, hnx⟩ := ftC_inv hk
              have hrows' : ∀ r1 : Rs, (∀ c', Sh c' = none → r1.2.2 c' = σ c') → (y = kLaw → Rows r1.2.2 xx LL) := fun r1 hr1 hy => by
                have n1 : ∀ c', 49 ≤ c' → Sh c' = none := fun c' h9 => by
                  cases hs : Sh c' with
                  | none => rfl
                  | some z => have := (hSh c' z hs).2; omega
                obtain ⟨h1, h2⟩ := hrows hy
                exact ⟨by rw [hr1 99 (n1 99 (by omega))]; exact h1, by rw [hr1 98 (n1 98 (by omega))]; exact h2⟩
              replace h := popG_inv h; obtain ⟨xs, rs, hlen, rfl, hsum, hwide, h⟩ := h
              have h : ((run Sh n a k 0 (ent a xs.reverse) [] σ).bind fun r1 => run Sh n y k (i + 1) L (pushR e' r1 rs) r1.2.2) = some r := h
              obtain ⟨r1, hr1, h⟩ := Option.bind_eq_some_iff.mp h
              exact dc_invoke (y := y) (k' := k) C0' hRf hcall (fun _ _ => ⟨fun z => by omega, fun _ => rfl⟩) (fun t' ht' hlt hal => hIH n a k t' ht' hlt hal _ _ _ hr1 hwide) hlen hsum (Or.inr ⟨hd, hdec⟩) (fun z => by omega) hP hS hl.1
                (fun H1 locs1 hP1 hS1 => ih _ _ _ _ h (hrows' r1 (run_rows n _ _ _ _ _ _ _ hr1)) H1 locs1 ls _ hnx hP1 hS1 hl)
            · rw [if_neg hd] at h; exact (no_inv h).elim
        case iadd =>
          dsimp only at h hk
          obtain ⟨rfl, hnx⟩ := ftC_inv hk
          replace h := p2_inv h; obtain ⟨x9, y9, rs, rfl, h⟩ := h
          exact lv_iadd hx hb hdec (go1 h hnx)
        case isub =>
          dsimp only at h hk
          obtain ⟨rfl, hnx⟩ := ftC_inv hk
          replace h := p2_inv h; obtain ⟨x9, y9, rs, rfl, h⟩ := h
          exact lv_isub hx hb hdec (go1 h hnx)
        case imul =>
          dsimp only at h hk
          obtain ⟨rfl, hnx⟩ := ftC_inv hk
          replace h := p2_inv h; obtain ⟨x9, y9, rs, rfl, h⟩ := h
          exact lv_imul hx hb hdec (go1 h hnx)
        case iand =>
          dsimp only at h hk
          obtain ⟨rfl, hnx⟩ := ftC_inv hk
          replace h := p2_inv h; obtain ⟨x9, y9, rs, rfl, h⟩ := h
          exact lv_iand hx hb hdec (go1 h hnx)
        case ior =>
          dsimp only at h hk
          obtain ⟨rfl, hnx⟩ := ftC_inv hk
          replace h := p2_inv h; obtain ⟨x9, y9, rs, rfl, h⟩ := h
          exact lv_ior hx hb hdec (go1 h hnx)
        case ixor =>
          dsimp only at h hk
          obtain ⟨rfl, hnx⟩ := ftC_inv hk
          replace h := p2_inv h; obtain ⟨x9, y9, rs, rfl, h⟩ := h
          exact lv_ixor hx hb hdec (go1 h hnx)
        case ishl =>
          dsimp only at h hk
          obtain ⟨rfl, hnx⟩ := ftC_inv hk
          replace h := p2_inv h; obtain ⟨x9, y9, rs, rfl, h⟩ := h
          exact lv_ishl hx hb hdec (go1 h hnx)
        case ishr =>
          dsimp only at h hk
          obtain ⟨rfl, hnx⟩ := ftC_inv hk
          replace h := p2_inv h; obtain ⟨x9, y9, rs, rfl, h⟩ := h
          exact lv_ishr hx hb hdec (go1 h hnx)
        case iushr =>
          dsimp only at h hk
          obtain ⟨rfl, hnx⟩ := ftC_inv hk
          replace h := p2_inv h; obtain ⟨x9, y9, rs, rfl, h⟩ := h
          exact lv_iushr hx hb hdec rfl (go1 h hnx)
        case idiv =>
          dsimp only at h hk
          obtain ⟨rfl, hnx⟩ := ftC_inv hk
          replace h := p2_inv h; obtain ⟨x9, y9, rs, rfl, h⟩ := h
          rcases gif_inv h with ⟨-, h⟩ | ⟨hz, h⟩
          · cases h
          · exact lv_idiv hx hb hdec hz (go1 h hnx)
        case irem =>
          dsimp only at h hk
          obtain ⟨rfl, hnx⟩ := ftC_inv hk
          replace h := p2_inv h; obtain ⟨x9, y9, rs, rfl, h⟩ := h
          rcases gif_inv h with ⟨-, h⟩ | ⟨hz, h⟩
          · cases h
          · exact lv_irem hx hb hdec hz (go1 h hnx)
        case ineg =>
          dsimp only at h hk
          obtain ⟨rfl, hnx⟩ := ftC_inv hk
          replace h := p1_inv h; obtain ⟨x9, rs, rfl, h⟩ := h
          exact lv_ineg hx hb hdec (go1 h hnx)
        case ladd =>
          dsimp only at h hk
          obtain ⟨rfl, hnx⟩ := ftC_inv hk
          replace h := q2_inv h; obtain ⟨x9, y9, rs, rfl, h⟩ := h
          exact lv_ladd hx hb hdec (go1 h hnx)
        case lsub =>
          dsimp only at h hk
          obtain ⟨rfl, hnx⟩ := ftC_inv hk
          replace h := q2_inv h; obtain ⟨x9, y9, rs, rfl, h⟩ := h
          exact lv_lsub hx hb hdec (go1 h hnx)
        case lmul =>
          dsimp only at h hk
          obtain ⟨rfl, hnx⟩ := ftC_inv hk
          replace h := q2_inv h; obtain ⟨x9, y9, rs, rfl, h⟩ := h
          exact lv_lmul hx hb hdec (go1 h hnx)
        case lor =>
          dsimp only at h hk
          obtain ⟨rfl, hnx⟩ := ftC_inv hk
          replace h := q2_inv h; obtain ⟨x9, y9, rs, rfl, h⟩ := h
          exact lv_lor hx hb hdec (go1 h hnx)
        case lcmp =>
          dsimp only at h hk
          obtain ⟨rfl, hnx⟩ := ftC_inv hk
          replace h := q2_inv h; obtain ⟨x9, y9, rs, rfl, h⟩ := h
          exact W.lcmp hx hb hdec (go1 h hnx)
        case ldiv =>
          dsimp only at h hk
          obtain ⟨rfl, hnx⟩ := ftC_inv hk
          replace h := q2_inv h; obtain ⟨x9, y9, rs, rfl, h⟩ := h
          rcases gif_inv h with ⟨-, h⟩ | ⟨hz, h⟩
          · cases h
          · exact lv_ldiv hx hb hdec hz (go1 h hnx)
        case lrem =>
          dsimp only at h hk
          obtain ⟨rfl, hnx⟩ := ftC_inv hk
          replace h := q2_inv h; obtain ⟨x9, y9, rs, rfl, h⟩ := h
          rcases gif_inv h with ⟨-, h⟩ | ⟨hz, h⟩
          · cases h
          · exact lv_lrem hx hb hdec hz (go1 h hnx)
        case lshl =>
          dsimp only at h hk
          obtain ⟨rfl, hnx⟩ := ftC_inv hk
          replace h := q3_inv h; obtain ⟨x9, y9, rs, rfl, h⟩ := h
          exact lv_lshl hx hb hdec rfl (go1 h hnx)
        case i2l =>
          dsimp only at h hk
          obtain ⟨rfl, hnx⟩ := ftC_inv hk
          replace h := p1_inv h; obtain ⟨x9, rs, rfl, h⟩ := h
          exact lv_i2l hx hb hdec rfl (go1 h hnx)
        case i2b =>
          dsimp only at h hk
          obtain ⟨rfl, hnx⟩ := ftC_inv hk
          replace h := p1_inv h; obtain ⟨x9, rs, rfl, h⟩ := h
          exact lv_i2b hx hb hdec rfl (go1 h hnx)
        case i2s =>
          dsimp only at h hk
          obtain ⟨rfl, hnx⟩ := ftC_inv hk
          replace h := p1_inv h; obtain ⟨x9, rs, rfl, h⟩ := h
          exact lv_i2s hx hb hdec rfl (go1 h hnx)
        case i2c =>
          dsimp only at h hk
          obtain ⟨rfl, hnx⟩ := ftC_inv hk
          replace h := p1_inv h; obtain ⟨x9, rs, rfl, h⟩ := h
          exact lv_i2c hx hb hdec rfl (go1 h hnx)
        case l2i =>
          dsimp only at h hk
          obtain ⟨rfl, hnx⟩ := ftC_inv hk
          replace h := q1_inv h; obtain ⟨x9, rs, rfl, h⟩ := h
          exact lv_l2i hx hb hdec rfl (go1 h hnx)
        case dup =>
          dsimp only at h hk
          obtain ⟨rfl, hnx⟩ := ftC_inv hk
          replace h := d1_inv h; obtain ⟨x9, rs, rfl, hc, h⟩ := h
          exact lv_dup hx hb hdec (by rw [cv_cat hF]; exact hc) (go1 h hnx)
        case dup2 =>
          dsimp only at h hk
          obtain ⟨rfl, hnx⟩ := ftC_inv hk
          replace h := d1_inv h; obtain ⟨x9, rs, rfl, hc, h⟩ := h
          replace h := d1_inv h; obtain ⟨x8, rs, rfl, hc2, h⟩ := h
          exact lv_dup2_11 hx hb hdec (by rw [cv_cat hF]; exact hc) (by rw [cv_cat hF]; exact hc2) (go1 h hnx)
        case pop =>
          dsimp only at h hk
          obtain ⟨rfl, hnx⟩ := ftC_inv hk
          replace h := d1_inv h; obtain ⟨x9, rs, rfl, hc, h⟩ := h
          exact lv_pop hx hb hdec (by rw [cv_cat hF]; exact hc) (go1 h hnx)
        case goto off =>
          dsimp only at h hk
          rw [Bool.and_eq_true, decide_eq_true_eq] at hk
          obtain ⟨rfl, hk⟩ := hk
          exact lv_goto hx hb hdec (mAt_qo hk).symm (go1 h rfl)
        case ifCond o off =>
          dsimp only at h hk
          rw [Bool.and_eq_true] at hk
          obtain ⟨hk, htg⟩ := hk
          obtain ⟨rfl, hnx⟩ := ftC_inv hk
          have htg := (mAt_qo htg).symm
          replace h := p1_inv h; obtain ⟨x9, rs, rfl, h⟩ := h
          cases o
          · dsimp only at h
            rcases gif_inv h with ⟨hz, h⟩ | ⟨hz, h⟩
            · exact lv_if_eq hx hb hdec htg (fun _ => go1 h rfl) (fun z => absurd hz z)
            · exact lv_if_eq hx hb hdec htg (fun z => absurd z hz) (fun _ => go1 h hnx)
          · dsimp only at h
            rcases gif_inv h with ⟨hz, h⟩ | ⟨hz, h⟩
            · exact lv_if_ne hx hb hdec htg (fun z => absurd hz z) (fun _ => go1 h hnx)
            · exact lv_if_ne hx hb hdec htg (fun _ => go1 h rfl) (fun z => absurd z hz)
          · dsimp only at h
            rcases gif_inv h with ⟨hz, h⟩ | ⟨hz, h⟩
            · exact lv_if_lt hx hb hdec htg (fun _ => go1 h rfl) (fun z => absurd hz z)
            · exact lv_if_lt hx hb hdec htg (fun z => absurd z hz) (fun _ => go1 h hnx)
          · dsimp only at h
            rcases gif_inv h with ⟨hz, h⟩ | ⟨hz, h⟩
            · exact lv_if_ge hx hb hdec htg (fun z => absurd z (lt_not_ge hz)) (fun _ => go1 h hnx)
            · exact lv_if_ge hx hb hdec htg (fun _ => go1 h rfl) (fun z => absurd (not_lt_ge hz) z)
          · dsimp only at h
            rcases gif_inv h with ⟨hz, h⟩ | ⟨hz, h⟩
            · exact lv_if_gt hx hb hdec htg (fun _ => go1 h rfl) (fun z => absurd hz z)
            · exact lv_if_gt hx hb hdec htg (fun z => absurd z hz) (fun _ => go1 h hnx)
          · dsimp only at h
            rcases gif_inv h with ⟨hz, h⟩ | ⟨hz, h⟩
            · exact lv_if_le hx hb hdec htg (fun z => absurd z (lt_not_ge hz)) (fun _ => go1 h hnx)
            · exact lv_if_le hx hb hdec htg (fun _ => go1 h rfl) (fun z => absurd (not_lt_ge hz) z)
        case if_icmp o off =>
          dsimp only at h hk
          rw [Bool.and_eq_true] at hk
          obtain ⟨hk, htg⟩ := hk
          obtain ⟨rfl, hnx⟩ := ftC_inv hk
          have htg := (mAt_qo htg).symm
          replace h := p2_inv h; obtain ⟨x9, y9, rs, rfl, h⟩ := h
          cases o
          · dsimp only at h
            rcases gif_inv h with ⟨hz, h⟩ | ⟨hz, h⟩
            · exact lv_icmp_eq hx hb hdec htg (fun _ => go1 h rfl) (fun z => absurd hz z)
            · exact lv_icmp_eq hx hb hdec htg (fun z => absurd z hz) (fun _ => go1 h hnx)
          · dsimp only at h
            rcases gif_inv h with ⟨hz, h⟩ | ⟨hz, h⟩
            · exact lv_icmp_ne hx hb hdec htg (fun z => absurd hz z) (fun _ => go1 h hnx)
            · exact lv_icmp_ne hx hb hdec htg (fun _ => go1 h rfl) (fun z => absurd z hz)
          · dsimp only at h
            rcases gif_inv h with ⟨hz, h⟩ | ⟨hz, h⟩
            · exact lv_icmp_lt hx hb hdec htg (fun _ => go1 h rfl) (fun z => absurd hz z)
            · exact lv_icmp_lt hx hb hdec htg (fun z => absurd z hz) (fun _ => go1 h hnx)
          · dsimp only at h
            rcases gif_inv h with ⟨hz, h⟩ | ⟨hz, h⟩
            · exact lv_icmp_ge hx hb hdec htg (fun z => absurd z (lt_not_ge hz)) (fun _ => go1 h hnx)
            · exact lv_icmp_ge hx hb hdec htg (fun _ => go1 h rfl) (fun z => absurd (not_lt_ge hz) z)
          · dsimp only at h
            rcases gif_inv h with ⟨hz, h⟩ | ⟨hz, h⟩
            · exact lv_icmp_gt hx hb hdec htg (fun _ => go1 h rfl) (fun z => absurd hz z)
            · exact lv_icmp_gt hx hb hdec htg (fun z => absurd z hz) (fun _ => go1 h hnx)
          · dsimp only at h
            rcases gif_inv h with ⟨hz, h⟩ | ⟨hz, h⟩
            · exact lv_icmp_le hx hb hdec htg (fun z => absurd z (lt_not_ge hz)) (fun _ => go1 h hnx)
            · exact lv_icmp_le hx hb hdec htg (fun _ => go1 h rfl) (fun z => absurd (not_lt_ge hz) z)
        case tableswitch dflt lo hi offs =>
          dsimp only at h hk
          rw [Bool.and_eq_true, Bool.and_eq_true, decide_eq_true_eq] at hk
          obtain ⟨⟨htd, htc⟩, hhi⟩ := hk
          replace h := p1_inv h; obtain ⟨x9, rs, rfl, h⟩ := h
          rcases tsC_swc ts offs.toList 0 htc h with ⟨n9, off9, t9, g1, g2, g3, g4⟩ | ⟨g1, g2⟩
          · have hn9 : n9 < offs.size := by
              have := (List.getElem?_eq_some_iff.mp g1).1
              simpa using this
            rw [Nat.zero_add] at g2
            refine lv_tableIn (off := off9) (tgt := qo y t9) hx hb hdec (by omega) (by omega) ?_ g3.symm (go1 g4 rfl)
            rw [show (x9.toInt - lo).toNat = n9 by omega, ← Array.getElem?_toList]
            exact g1
          · refine lv_tableOut (tgt := qo y a) hx hb hdec ?_ (mAt_qo htd).symm (go1 g2 rfl)
            by_cases h9 : x9.toInt < lo
            · exact Or.inl h9
            · refine Or.inr ?_
              by_cases h8 : hi < x9.toInt
              · exact h8
              · exfalso
                have h7 := g1 (x9.toInt - lo).toNat (by simp; omega)
                rw [Nat.zero_add] at h7
                exact h7 (by omega)
        case lookupswitch dflt ps =>
          dsimp only at h hk
          rw [Bool.and_eq_true, Bool.and_eq_true] at hk
          obtain ⟨⟨htd, htc⟩, hinc⟩ := hk
          replace h := p1_inv h; obtain ⟨x9, rs, rfl, h⟩ := h
          obtain ⟨t9, g1, g2⟩ := lsC_swc (mAt_qo htd) ts ps.toList htc h
          exact lv_lookup (tgt := qo y t9) hx hb hdec hinc rfl g1.symm (go1 g2 rfl)
        case ireturn =>
          dsimp only at h hk
          rw [Bool.and_eq_true, decide_eq_true_eq] at hk
          obtain ⟨rfl, hk⟩ := hk
          split at h
          · rename_i x9
            have key : nok a x9 = true ∧ (x9, 0, σ) = r := by
              by_cases ha : a = 0
              · rw [if_pos ha] at h
                have h : some ((x9, 0, σ) : Rs) = some r := h
                exact ⟨by rw [ha]; rfl, Option.some.inj h⟩
              · rw [if_neg ha] at h
                rcases gif_inv h with ⟨hz, h⟩ | ⟨-, h⟩
                · have h : some ((x9, 0, σ) : Rs) = some r := h
                  exact ⟨hz, Option.some.inj h⟩
                · exact (no_inv h).elim
            obtain ⟨hn9, rfl⟩ := key
            exact hret H locs ls q' _ hP hS (Or.inl ⟨a, hdec, hk, hn9, rfl⟩)
          · exact (no_inv h).elim
        case lreturn =>
          dsimp only at h hk
          rw [Bool.and_eq_true, decide_eq_true_eq, decide_eq_true_eq] at hk
          obtain ⟨rfl, hk⟩ := hk
          split at h
          · have h : some ((0, _, σ) : Rs) = some r := h
            obtain rfl := Option.some.inj h
            exact hret H locs ls q' _ hP hS (Or.inr (Or.inl ⟨hdec, hk, rfl⟩))
          · exact (no_inv h).elim
        case return_ =>
          dsimp only at h hk
          rw [Bool.and_eq_true, decide_eq_true_eq, decide_eq_true_eq] at hk
          obtain ⟨rfl, hk⟩ := hk
          split at h
          · have h : some ((0, 0, σ) : Rs) = some r := h
            obtain rfl := Option.some.inj h
            exact hret H locs ls q' _ hP hS (Or.inr (Or.inr ⟨hdec, hk, rfl⟩))
          · exact (no_inv h).elim
        all_goals exact (no_inv h).elim
end WALK
end
section
/-! CONTRACTS of all methods but the law: what the pure machine answers -/
theorem nar_ok {ty : Option FieldType} {a : Nat} {v : Int32} (h1 : narK ty a = true) (h2 : nok a v = true) : ∃ ty', ty = some ty' ∧ narrow ty' (.int v) = .int v ∧ eOf ty = 1 := by
  unfold narK at h1
  split at h1
  · exact ⟨.int, rfl, rfl, rfl⟩
  · refine ⟨.boolean, rfl, ?_, rfl⟩
    rcases zb_cases h2 with rfl | rfl <;> rfl
  · refine ⟨.byte, rfl, ?_, rfl⟩
    have h3 : v.toInt8.toInt32 = v := eq_of_beq h2
    show Value.int v.toInt8.toInt32 = _
    rw [h3]
  · refine ⟨.char, rfl, ?_, rfl⟩
    have h3 : v.toUInt32.toUInt16.toUInt32.toInt32 = v := eq_of_beq h2
    show Value.int v.toUInt32.toUInt16.toUInt32.toInt32 = _
    rw [h3]
  · cases h1
/-- what is checked by evaluation, all in one -/
def Checked : Prop := clsP ∧ (∀ y t, mi? y = some t → y ≠ kLaw → mokP t) ∧ (∀ y i, chk y i = true) ∧ (∀ y, qo y 0 = 0) ∧ (∀ y t, mi? y = some t → 1 ≤ t.2.2.2.2.2.2.1) ∧ natP
set_option maxHeartbeats 4000000 in
theorem metAll {l : Launch} {G : Geo} {Sh : Nat → Option Cs} {cs : List Nat} (hnd : cs.Nodup) (hSh : ∀ c' s', Sh c' = some s' → c' ∈ cs ∧ c' < 49) (CH : Checked) :
    ∀ (h n y k : Nat) (t : MI), mi? y = some t → hgt t k < h → ∀ (as : List Value) (σ : Sto) (r : Rs), run Sh n y k 0 (ent y as) [] σ = some r → (wide as).length ≤ mx y → y ≠ kLaw → MetP l G Sh cs y k as σ r := by
  obtain ⟨hcls, hmok, hck, hq0, hrk, hcarry⟩ := CH
  intro h
  induction h with
  | zero => intro n y k t _ h; omega
  | succ h ih =>
    intro n y k t ht hh as σ r hr hw hy t' ht' sz
    cases ht.symm.trans ht'
    obtain ⟨hcode, hstat, hinst, hini, hn1, hn2, hpar, hpl, hmx⟩ := hmok y t ht hy
    refine Met.ofW (cc := t.2.1) (maxL := t.2.2.1) (ret := t.2.2.2.1) hpl (wsM_head t) ?_
    intro p e s m args below meth c s₁ B hml hv
    obtain ⟨rfl, hsz, hP, hK, hD0, hE⟩ := hv
    have hts := atoms_spec (ws := wsM t) B.pre
    have hown : s.vm.findClass t.1.cls = some m.cls := findClass_of_methodNamed B.named
    subst hsz
    have hD := hD0.self (sz := s.heap.size)
    have hF := hE.cat
    have hmxy : mx y = t.2.2.1 := by unfold mx; rw [ht]; rfl
    have C0 : Ctx p s m (as.map (cv G)).toArray c (headSpec (wsM t) (rmM (hgt t k))).room t G Sh cs (va_A (wW G Sh cs σ) s.heap.size) 0 0 :=
      ⟨B.exec, B.bytes, hml, hown, fun w hw => hts w (List.mem_cons_of_mem _ hw), hK, fun σ' => va_D_any hD, fun q hq => Or.inr hq, hE, hnd, hSh, Nat.le_refl _, Nat.le_refl _, hcls, hmok, hck⟩
    have hret : RetH p l e (headSpec (wsM t) (rmM (hgt t k))).room s m (as.map (cv G)).toArray below meth c 0 0 (MQ below (QW G Sh cs σ s.heap.size (eOf t.2.2.2.1) r) (as.map (cv G)).toArray s 0 0 (va_A (wW G Sh cs σ) s.heap.size)) t G Sh cs (va_A (wW G Sh cs σ) s.heap.size) r := by
      intro H locs ls q st hP1 hS1 hcase
      rcases hcase with ⟨a, hd, hn, hk, rfl⟩ | ⟨hd, hn, rfl⟩ | ⟨hd, hn, rfl⟩
      · obtain ⟨ty, e1, e2, e3⟩ := nar_ok hn hk
        refine W.zret (ty := ty) B.exec B.bytes (by rw [B.returns, e1]) e2 (fun t1 ht1 hW1 => ⟨by rw [e3]; rfl, by rw [ht1]; exact hP1, hS1.F ht1⟩) hS1.2.2 hd B.notSynchronized
      · refine W.lret B.exec B.bytes (by rw [B.returns, hn]) (fun t1 ht1 hW1 => ⟨by rw [hn]; rfl, by rw [ht1]; exact hP1, hS1.F ht1⟩) hS1.2.2 hd B.notSynchronized
      · refine W.vret B.exec B.bytes (by rw [B.returns, hn]) (fun t1 ht1 hW1 => ⟨by rw [hn]; rfl, by rw [ht1]; exact hP1, hS1.F ht1⟩) hS1.2.2 hd B.notSynchronized
    have h1 : 1 ≤ hgt t k := Nat.le_trans (hrk y t ht) (Nat.le_add_right _ _)
    have hl := hL.entry (y := y) hF hmxy (by rw [← hmxy]; exact hw)
    rw [lg_entry_eq]
    exact sim (xx := fun _ => 0) (LL := 0) ht C0 ⟨Nat.le_refl _, Nat.le_refl _⟩ h1 (fun n' y' k' t2 ht2 hlt hy2 as' σ' r' hr' hw' => ih n' y' k' t2 ht2 (by omega) as' σ' r' hr' hw' hy2) hcarry (fun z => absurd z hy) hret n 0 (ent y as) [] σ hr (fun z => absurd z hy) s.heap [] _ 0 (hq0 y) hP va_S.rf hl
end
section
/-! R: the run, without its steps' number -/
theorem fold_mono {K K2 : KT} {K' K2' : Nat → List Value → List Value → Sto → Option Rs} (hK : ∀ y k i L st σ r, K y k i L st σ = some r → K2 y k i L st σ = some r) (hK' : ∀ i L st σ r, K' i L st σ = some r → K2' i L st σ = some r)
    {i : Nat} {L : List Value} {z : Option Lf} {r : Rs} : ∀ gs : List (Gd × Option Lf), fold K K' i L z gs = some r → fold K2 K2' i L z gs = some r := by
  have key : ∀ o : Option Lf, lfK K K' i L o = some r → lfK K2 K2' i L o = some r := by
    intro o h
    match o, h with
    | none, h => cases h
    | some (.inl (i', L', st', σ')), h => exact hK' _ _ _ _ _ h
    | some (.inr (.inl (y', k', as, σ', kk))), h =>
      have h1 : ((K y' k' 0 (ent y' as) [] σ').bind fun r => K' (i + 1) L (kk r) r.2.2) = some r := h
      obtain ⟨r1, h2, h3⟩ := Option.bind_eq_some_iff.mp h1
      exact Option.bind_eq_some_iff.mpr ⟨r1, hK _ _ _ _ _ _ _ h2, hK' _ _ _ _ _ h3⟩
    | some (.inr (.inr r')), h => exact h
  intro gs
  induction gs with
  | nil => intro h; exact key z h
  | cons g gs ih =>
    intro h
    by_cases hp : g.1.1
    · have h1 : ∀ A B, fold A B i L z (g :: gs) = lfK A B i L g.2 := fun A B => @if_pos _ g.1.2 hp _ _ _
      rw [h1] at h ⊢
      exact key g.2 h
    · have h1 : ∀ A B, fold A B i L z (g :: gs) = fold A B i L z gs := fun A B => @if_neg _ g.1.2 hp _ _ _
      rw [h1] at h ⊢
      exact ih h
theorem run_succ {Sh : Nat → Option Cs} : ∀ (n y k i : Nat) (L st : List Value) (σ : Sto) (r : Rs), run Sh n y k i L st σ = some r → run Sh (n + 1) y k i L st σ = some r := by
  intro n
  induction n with
  | zero => intro y k i L st σ r h; cases h
  | succ n ih => intro y k i L st σ r h; exact fold_mono ih (ih y k) _ h
theorem run_le {Sh : Nat → Option Cs} {n n' : Nat} (hn : n ≤ n') {y k i : Nat} {L st : List Value} {σ : Sto} {r : Rs} (h : run Sh n y k i L st σ = some r) : run Sh n' y k i L st σ = some r := by
  induction hn with
  | refl => exact h
  | step _ ih => exact run_succ _ _ _ _ _ _ _ _ ih
/-- what a run comes to, if it comes to an end -/
noncomputable def R (y k i : Nat) (L st : List Value) (σ : Sto) : Option Rs :=
  @dite _ (∃ (n : Nat) (r : Rs), run ShF n y k i L st σ = some r) (Classical.propDecidable _) (fun h => some h.choose_spec.choose) (fun _ => none)
theorem R_of {n y k i : Nat} {L st : List Value} {σ : Sto} {r : Rs} (h : run ShF n y k i L st σ = some r) : R y k i L st σ = some r := by
  have hex : ∃ (n : Nat) (r : Rs), run ShF n y k i L st σ = some r := ⟨n, r, h⟩
  unfold R
  rw [dif_pos hex]
  have h1 := hex.choose_spec.choose_spec
  have h2 := run_le (Nat.le_max_left n hex.choose) h
  have h3 := run_le (Nat.le_max_right n hex.choose) h1
  rw [h2] at h3
  exact h3.symm
theorem R_ex {y k i : Nat} {L st : List Value} {σ : Sto} {r : Rs} (h : R y k i L st σ = some r) : ∃ n, run ShF n y k i L st σ = some r := by
  by_cases hex : ∃ (n : Nat) (r : Rs), run ShF n y k i L st σ = some r
  · obtain ⟨n, r', h'⟩ := hex
    have h1 := R_of h'
    rw [h] at h1
    exact ⟨n, by rw [h']; exact h1.symm⟩
  · unfold R at h
    rw [dif_neg hex] at h
    cases h
theorem fold_ex {i y k : Nat} {L : List Value} {z : Option Lf} {r : Rs} : ∀ gs : List (Gd × Option Lf), fold R (R y k) i L z gs = some r → ∃ n, fold (run ShF n) (run ShF n y k) i L z gs = some r := by
  have key : ∀ o : Option Lf, lfK R (R y k) i L o = some r → ∃ n, lfK (run ShF n) (run ShF n y k) i L o = some r := by
    intro o h
    match o, h with
    | none, h => cases h
    | some (.inl (i', L', st', σ')), h => exact R_ex h
    | some (.inr (.inl (y', k', as, σ', kk))), h =>
      have h1 : ((R y' k' 0 (ent y' as) [] σ').bind fun r => R y k (i + 1) L (kk r) r.2.2) = some r := h
      obtain ⟨r1, h2, h3⟩ := Option.bind_eq_some_iff.mp h1
      obtain ⟨n1, h2⟩ := R_ex h2
      obtain ⟨n2, h3⟩ := R_ex h3
      exact ⟨max n1 n2, Option.bind_eq_some_iff.mpr ⟨r1, run_le (Nat.le_max_left _ _) h2, run_le (Nat.le_max_right _ _) h3⟩⟩
    | some (.inr (.inr r')), h => exact ⟨0, h⟩
  intro gs
  induction gs with
  | nil => intro h; exact key z h
  | cons g gs ih =>
    intro h
    by_cases hp : g.1.1
    · have h1 : ∀ A B, fold A B i L z (g :: gs) = lfK A B i L g.2 := fun A B => @if_pos _ g.1.2 hp _ _ _
      rw [h1] at h
      obtain ⟨n, hn⟩ := key g.2 h
      exact ⟨n, by rw [h1]; exact hn⟩
    · have h1 : ∀ A B, fold A B i L z (g :: gs) = fold A B i L z gs := fun A B => @if_neg _ g.1.2 hp _ _ _
      rw [h1] at h
      obtain ⟨n, hn⟩ := ih h
      exact ⟨n, by rw [h1]; exact hn⟩
/-- a run is its first step, and the rest -/
theorem R_step (y k i : Nat) (L st : List Value) (σ : Sto) : fold1 R (R y k) i L (act ShF y k i L st σ) = R y k i L st σ := by
  cases h : fold1 R (R y k) i L (act ShF y k i L st σ) with
  | some r =>
    obtain ⟨n, hn⟩ := fold_ex _ h
    exact (R_of (n := n + 1) hn).symm
  | none =>
    cases h2 : R y k i L st σ with
    | none => rfl
    | some r =>
      obtain ⟨n, hn⟩ := R_ex h2
      cases n with
      | zero => cases hn
      | succ n =>
        have h3 := fold_mono (K := run ShF n) (K2 := R) (K' := run ShF n y k) (K2' := R y k) (fun _ _ _ _ _ _ _ z => R_of z) (fun _ _ _ _ _ z => R_of z) _ hn
        have h4 : fold1 R (R y k) i L (act ShF y k i L st σ) = some r := h3
        rw [h] at h4
        cases h4
theorem unr_R (stops : List Nat) (y k : Nat) : ∀ (n i : Nat) (L st : List Value) (σ : Sto), R y k i L st σ = unr ShF R stops y k n i L st σ := by
  intro n
  induction n with
  | zero => intro i L st σ; rfl
  | succ n ih =>
    intro i L st σ
    have h1 : ∀ i L st σ, stp (R y k) (unr ShF R stops y k n) stops i L st σ = R y k i L st σ := by
      intro i L st σ
      unfold stp
      split
      · rfl
      · exact (ih _ _ _ _).symm
    have h2 : stp (R y k) (unr ShF R stops y k n) stops = R y k := by
      funext i L st σ
      exact h1 i L st σ
    show _ = fold1 R (stp (R y k) (unr ShF R stops y k n) stops) i L (act ShF y k i L st σ)
    rw [h2, R_step]
/-- a call -/
noncomputable def C (y k : Nat) (as : List Value) (σ : Sto) : Option Rs := R y k 0 (ent y as) [] σ
end
section
/-! EQUATIONS of the methods 0 .. 53 -/
-- J6_bitCount_0f7a4
theorem eJ6_bitCount (k : Nat) (p1 : Int32) (σ : Sto) : C nJ6_bitCount k [.int p1] σ =
  some (((((((((p1 - (((Int32.toUInt32 p1 >>> (Int32.toUInt32 1 &&& Int32.toUInt32 31)).toInt32) &&& 1431655765)) &&& 858993459) + (((Int32.toUInt32 (p1 - (((Int32.toUInt32 p1 >>> (Int32.toUInt32 1 &&& Int32.toUInt32 31)).toInt32) &&& 1431655765)) >>> (Int32.toUInt32 2 &&& Int32.toUInt32 31)).toInt32) &&& 858993459)) + ((Int32.toUInt32 (((p1 - (((Int32.toUInt32 p1 >>> (Int32.toUInt32 1 &&& Int32.toUInt32 31)).toInt32) &&& 1431655765)) &&& 858993459) + (((Int32.toUInt32 (p1 - (((Int32.toUInt32 p1 >>> (Int32.toUInt32 1 &&& Int32.toUInt32 31)).toInt32) &&& 1431655765)) >>> (Int32.toUInt32 2 &&& Int32.toUInt32 31)).toInt32) &&& 858993459)) >>> (Int32.toUInt32 4 &&& Int32.toUInt32 31)).toInt32)) &&& 252645135) + ((Int32.toUInt32 (((((p1 - (((Int32.toUInt32 p1 >>> (Int32.toUInt32 1 &&& Int32.toUInt32 31)).toInt32) &&& 1431655765)) &&& 858993459) + (((Int32.toUInt32 (p1 - (((Int32.toUInt32 p1 >>> (Int32.toUInt32 1 &&& Int32.toUInt32 31)).toInt32) &&& 1431655765)) >>> (Int32.toUInt32 2 &&& Int32.toUInt32 31)).toInt32) &&& 858993459)) + ((Int32.toUInt32 (((p1 - (((Int32.toUInt32 p1 >>> (Int32.toUInt32 1 &&& Int32.toUInt32 31)).toInt32) &&& 1431655765)) &&& 858993459) + (((Int32.toUInt32 (p1 - (((Int32.toUInt32 p1 >>> (Int32.toUInt32 1 &&& Int32.toUInt32 31)).toInt32) &&& 1431655765)) >>> (Int32.toUInt32 2 &&& Int32.toUInt32 31)).toInt32) &&& 858993459)) >>> (Int32.toUInt32 4 &&& Int32.toUInt32 31)).toInt32)) &&& 252645135) >>> (Int32.toUInt32 8 &&& Int32.toUInt32 31)).toInt32)) + ((Int32.toUInt32 ((((((p1 - (((Int32.toUInt32 p1 >>> (Int32.toUInt32 1 &&& Int32.toUInt32 31)).toInt32) &&& 1431655765)) &&& 858993459) + (((Int32.toUInt32 (p1 - (((Int32.toUInt32 p1 >>> (Int32.toUInt32 1 &&& Int32.toUInt32 31)).toInt32) &&& 1431655765)) >>> (Int32.toUInt32 2 &&& Int32.toUInt32 31)).toInt32) &&& 858993459)) + ((Int32.toUInt32 (((p1 - (((Int32.toUInt32 p1 >>> (Int32.toUInt32 1 &&& Int32.toUInt32 31)).toInt32) &&& 1431655765)) &&& 858993459) + (((Int32.toUInt32 (p1 - (((Int32.toUInt32 p1 >>> (Int32.toUInt32 1 &&& Int32.toUInt32 31)).toInt32) &&& 1431655765)) >>> (Int32.toUInt32 2 &&& Int32.toUInt32 31)).toInt32) &&& 858993459)) >>> (Int32.toUInt32 4 &&& Int32.toUInt32 31)).toInt32)) &&& 252645135) + ((Int32.toUInt32 (((((p1 - (((Int32.toUInt32 p1 >>> (Int32.toUInt32 1 &&& Int32.toUInt32 31)).toInt32) &&& 1431655765)) &&& 858993459) + (((Int32.toUInt32 (p1 - (((Int32.toUInt32 p1 >>> (Int32.toUInt32 1 &&& Int32.toUInt32 31)).toInt32) &&& 1431655765)) >>> (Int32.toUInt32 2 &&& Int32.toUInt32 31)).toInt32) &&& 858993459)) + ((Int32.toUInt32 (((p1 - (((Int32.toUInt32 p1 >>> (Int32.toUInt32 1 &&& Int32.toUInt32 31)).toInt32) &&& 1431655765)) &&& 858993459) + (((Int32.toUInt32 (p1 - (((Int32.toUInt32 p1 >>> (Int32.toUInt32 1 &&& Int32.toUInt32 31)).toInt32) &&& 1431655765)) >>> (Int32.toUInt32 2 &&& Int32.toUInt32 31)).toInt32) &&& 858993459)) >>> (Int32.toUInt32 4 &&& Int32.toUInt32 31)).toInt32)) &&& 252645135) >>> (Int32.toUInt32 8 &&& Int32.toUInt32 31)).toInt32)) >>> (Int32.toUInt32 16 &&& Int32.toUInt32 31)).toInt32)) &&& 63), 0, σ) := (unr_R [] nJ6_bitCount k 400 0 _ _ _).trans rfl
-- J0_length_8abf5
theorem eJ0_length (k : Nat)  (w : Nat) (hw : w = 100 ∨ w = 101 ∨ w = 102 ∨ w = 103 ∨ w = 104 ∨ w = 105 ∨ w = 106 ∨ w = 107 ∨ w = 108 ∨ w = 109 ∨ w = 110 ∨ w = 111) (σ : Sto) : C nJ0_length k [.ref w] σ =
  (C nJ0_coder k [.ref w] σ).bind fun r1 =>
    some (((Int32.ofNat (byteOf ((w + 100) - 200)).length) >>> (r1.1 &&& 31)), 0, r1.2.2) := by rcases hw with rfl | rfl | rfl | rfl | rfl | rfl | rfl | rfl | rfl | rfl | rfl | rfl <;> exact (unr_R [] nJ0_length k 400 0 _ _ _).trans rfl
-- J0_coder_7d493
theorem eJ0_coder (k : Nat)  (w : Nat) (hw : w = 100 ∨ w = 101 ∨ w = 102 ∨ w = 103 ∨ w = 104 ∨ w = 105 ∨ w = 106 ∨ w = 107 ∨ w = 108 ∨ w = 109 ∨ w = 110 ∨ w = 111) (σ : Sto) : C nJ0_coder k [.ref w] σ =
  if nok 2 0 = true then
    some (0, 0, σ)
  else
    none := by rcases hw with rfl | rfl | rfl | rfl | rfl | rfl | rfl | rfl | rfl | rfl | rfl | rfl <;> exact (unr_R [] nJ0_coder k 400 0 _ _ _).trans rfl
-- J0_isLatin1_aae02
theorem eJ0_isLatin1 (k : Nat)  (w : Nat) (hw : w = 100 ∨ w = 101 ∨ w = 102 ∨ w = 103 ∨ w = 104 ∨ w = 105 ∨ w = 106 ∨ w = 107 ∨ w = 108 ∨ w = 109 ∨ w = 110 ∨ w = 111) (σ : Sto) : C nJ0_isLatin1 k [.ref w] σ =
  some (1, 0, σ) := by rcases hw with rfl | rfl | rfl | rfl | rfl | rfl | rfl | rfl | rfl | rfl | rfl | rfl <;> exact (unr_R [] nJ0_isLatin1 k 400 0 _ _ _).trans rfl
-- J0_charAt_5068e
theorem eJ0_charAt (k : Nat)  (w : Nat) (hw : w = 100 ∨ w = 101 ∨ w = 102 ∨ w = 103 ∨ w = 104 ∨ w = 105 ∨ w = 106 ∨ w = 107 ∨ w = 108 ∨ w = 109 ∨ w = 110 ∨ w = 111) (p1 : Int32) (σ : Sto) : C nJ0_charAt k [.ref w, .int p1] σ =
  (C nJ0_isLatin1 k [.ref w] σ).bind fun r1 =>
    if r1.1 = 0 then
      none
    else
      (C nJ1_charAt k [.ref (w + 100), .int p1] r1.2.2).bind fun r2 =>
        if nok 3 r2.1 = true then
          some (r2.1, 0, r2.2.2)
        else
          none := by rcases hw with rfl | rfl | rfl | rfl | rfl | rfl | rfl | rfl | rfl | rfl | rfl | rfl <;> exact (unr_R [] nJ0_charAt k 400 0 _ _ _).trans rfl
-- J0_checkIndex_df160
theorem eJ0_checkIndex (k : Nat) (p1 : Int32) (p2 : Int32) (σ : Sto) : C nJ0_checkIndex k [.int p1, .int p2] σ =
  (C nJ3_checkIndex k [.int p1, .int p2, .ref 300] σ).bind fun r1 =>
    some (0, 0, r1.2.2) := (unr_R [] nJ0_checkIndex k 400 0 _ _ _).trans rfl
-- J1_charAt_3b067
theorem eJ1_charAt (k : Nat)  (v : Nat) (hv : v = 200 ∨ v = 201 ∨ v = 202 ∨ v = 203 ∨ v = 204 ∨ v = 205 ∨ v = 206 ∨ v = 207 ∨ v = 208 ∨ v = 209 ∨ v = 210 ∨ v = 211) (p2 : Int32) (σ : Sto) : C nJ1_charAt k [.ref v, .int p2] σ =
  (C nJ0_checkIndex k [.int p2, .int (Int32.ofNat (byteOf (v - 200)).length)] σ).bind fun r1 =>
    if inb p2 (byteOf (v - 200)).length = true then
      if nok 3 ((Int32.toUInt32 (((byteOf (v - 200)).getD p2.toNatClampNeg 0) &&& 255) % 65536).toInt32) = true then
        some (((Int32.toUInt32 (((byteOf (v - 200)).getD p2.toNatClampNeg 0) &&& 255) % 65536).toInt32), 0, r1.2.2)
      else
        none
    else
      none := by rcases hv with rfl | rfl | rfl | rfl | rfl | rfl | rfl | rfl | rfl | rfl | rfl | rfl <;> exact (unr_R [] nJ1_charAt k 400 0 _ _ _).trans rfl
-- J3_checkIndex_8e157
theorem eJ3_checkIndex (k : Nat) (p1 : Int32) (p2 : Int32) (σ : Sto) : C nJ3_checkIndex k [.int p1, .int p2, .ref 300] σ =
  if p1 < 0 then
    none
  else
    if p1 < p2 then
      some (p1, 0, σ)
    else
      none := (unr_R [] nJ3_checkIndex k 400 0 _ _ _).trans rfl
-- X0_faultOf
theorem eD_faultOf (k : Nat) (p1 : Int32) (σ : Sto) : C nD_faultOf k [.ref 7, .int p1] σ =
  (C nD_take k [.ref 7] (su (su (su (su σ 7 2 (minI p1 160)) 7 3 0) 7 7 (-1)) 7 8 (((su (su (su σ 7 2 (minI p1 160)) 7 3 0) 7 7 (-1)) 2 4) * 160))).bind fun r1 =>
    R nD_faultOf k 22 [.ref 7, .int p1, .int 0, .null] [] r1.2.2 := (unr_R [22] nD_faultOf k 400 0 _ _ _).trans rfl
theorem eD_faultOf_22 (k : Nat) (v1 : Int32) (v2 : Int32) (u3 : Value) (σ : Sto) : R nD_faultOf k 22 [.ref 7, .int v1, .int v2, u3] [] σ =
  if v2 < 3 then
    (C nD_expect k [.ref 7, .int (10 + v2)] σ).bind fun r1 =>
      if inb (((σ 2 4) * 3) + v2) 18 = true then
        (C nD_either k [.ref 7, .int 0] (su r1.2.2 4 (((σ 2 4) * 3) + v2).toNatClampNeg (r1.2.2 7 8))).bind fun r2 =>
          if inb (((σ 2 4) * 3) + v2) 18 = true then
            (C nD_expect k [.ref 7, .int 4] (su r2.2.2 5 (((σ 2 4) * 3) + v2).toNatClampNeg (r2.2.2 7 8))).bind fun r3 =>
              R nD_faultOf k 22 [.ref 7, .int v1, .int (v2 + 1), .int (((σ 2 4) * 3) + v2)] [] r3.2.2
          else
            none
      else
        none
  else
    (C nD_expect k [.ref 7, .int 5] σ).bind fun r1 =>
      some ((r1.2.2 7 7), 0, r1.2.2) := (unr_R [22] nD_faultOf k 400 22 _ _ _).trans rfl
-- X0_fail
theorem eD_fail (k : Nat) (σ : Sto) : C nD_fail k [.ref 7] σ =
  if (σ 7 7) = (-1) then
    some (0, 0, (su (su σ 7 7 (σ 7 4)) 7 5 6))
  else
    some (0, 0, (su σ 7 5 6)) := (unr_R [] nD_fail k 400 0 _ _ _).trans rfl
-- X0_expect
theorem eD_expect (k : Nat) (p1 : Int32) (σ : Sto) : C nD_expect k [.ref 7, .int p1] σ =
  if (σ 7 5) = p1 then
    (C nD_take k [.ref 7] σ).bind fun r1 =>
      some (0, 0, r1.2.2)
  else
    (C nD_fail k [.ref 7] σ).bind fun r1 =>
      some (0, 0, r1.2.2) := (unr_R [] nD_expect k 400 0 _ _ _).trans rfl
-- X0_write
theorem eD_write (k : Nat) (p1 : Int32) (σ : Sto) : C nD_write k [.ref 7, .int p1] σ =
  if (σ 7 8) < 960 then
    if inb (σ 7 8) 960 = true then
      some (0, 0, (su (su σ 3 (σ 7 8).toNatClampNeg p1) 7 8 (((su σ 3 (σ 7 8).toNatClampNeg p1) 7 8) + 1)))
    else
      none
  else
    some (0, 0, σ) := (unr_R [] nD_write k 400 0 _ _ _).trans rfl
-- X0_either
theorem eD_either (k : Nat) (p1 : Int32) (σ : Sto) : C nD_either k [.ref 7, .int p1] σ =
  (C nD_both k [.ref 7, .int p1] σ).bind fun r1 =>
    R nD_either k 5 [.ref 7, .int p1, .int 0] [] r1.2.2 := (unr_R [5] nD_either k 400 0 _ _ _).trans rfl
theorem eD_either_5 (k : Nat) (v1 : Int32) (v2 : Int32) (σ : Sto) : R nD_either k 5 [.ref 7, .int v1, .int v2] [] σ =
  if v2 < 160 then
    if (σ 7 5) = (-9) then
      (C nD_take k [.ref 7] σ).bind fun r1 =>
        (C nD_both k [.ref 7, .int v1] r1.2.2).bind fun r2 =>
          (C nD_write k [.ref 7, .int (-9)] r2.2.2).bind fun r3 =>
            R nD_either k 5 [.ref 7, .int v1, .int (v2 + 1)] [] r3.2.2
    else
      some (0, 0, σ)
  else
    some (0, 0, σ) := (unr_R [5] nD_either k 400 5 _ _ _).trans rfl
-- X0_both
theorem eD_both (k : Nat) (p1 : Int32) (σ : Sto) : C nD_both k [.ref 7, .int p1] σ =
  (C nD_negation k [.ref 7, .int p1] σ).bind fun r1 =>
    R nD_both k 5 [.ref 7, .int p1, .int 0] [] r1.2.2 := (unr_R [5] nD_both k 400 0 _ _ _).trans rfl
theorem eD_both_5 (k : Nat) (v1 : Int32) (v2 : Int32) (σ : Sto) : R nD_both k 5 [.ref 7, .int v1, .int v2] [] σ =
  if v2 < 160 then
    if (σ 7 5) = (-10) then
      (C nD_take k [.ref 7] σ).bind fun r1 =>
        (C nD_negation k [.ref 7, .int v1] r1.2.2).bind fun r2 =>
          (C nD_write k [.ref 7, .int (-10)] r2.2.2).bind fun r3 =>
            R nD_both k 5 [.ref 7, .int v1, .int (v2 + 1)] [] r3.2.2
    else
      some (0, 0, σ)
  else
    some (0, 0, σ) := (unr_R [5] nD_both k 400 5 _ _ _).trans rfl
-- X0_negation
theorem eD_negation (k : Nat) (p1 : Int32) (σ : Sto) : C nD_negation k [.ref 7, .int p1] σ =
  if (σ 7 5) = (-8) then
    if p1 < 5 then
      (C nD_take k [.ref 7] σ).bind fun r1 =>
        if k < 6 then
          (C nD_negation (k + 1) [.ref 7, .int (p1 + 1)] r1.2.2).bind fun r2 =>
            (C nD_write k [.ref 7, .int (-8)] r2.2.2).bind fun r3 =>
              some (0, 0, r3.2.2)
        else
          none
    else
      (C nD_fail k [.ref 7] σ).bind fun r1 =>
        some (0, 0, r1.2.2)
  else
    (C nD_comparison k [.ref 7, .int p1] σ).bind fun r1 =>
      some (0, 0, r1.2.2) := (unr_R [] nD_negation k 400 0 _ _ _).trans rfl
-- X0_comparison
theorem eD_comparison (k : Nat) (p1 : Int32) (σ : Sto) : C nD_comparison k [.ref 7, .int p1] σ =
  (C nD_sum k [.ref 7, .int p1] σ).bind fun r1 =>
    if (r1.2.2 7 5) = (-11) then
      (C nD_take k [.ref 7] r1.2.2).bind fun r2 =>
        (C nD_sum k [.ref 7, .int p1] r2.2.2).bind fun r3 =>
          (C nD_write k [.ref 7, .int (r1.2.2 7 5)] r3.2.2).bind fun r4 =>
            some (0, 0, r4.2.2)
    else
      if (r1.2.2 7 5) = (-12) then
        (C nD_take k [.ref 7] r1.2.2).bind fun r2 =>
          (C nD_sum k [.ref 7, .int p1] r2.2.2).bind fun r3 =>
            (C nD_write k [.ref 7, .int (r1.2.2 7 5)] r3.2.2).bind fun r4 =>
              some (0, 0, r4.2.2)
      else
        some (0, 0, r1.2.2) := (unr_R [] nD_comparison k 400 0 _ _ _).trans rfl
-- X0_sum
theorem eD_sum (k : Nat) (p1 : Int32) (σ : Sto) : C nD_sum k [.ref 7, .int p1] σ =
  (C nD_term k [.ref 7, .int p1] σ).bind fun r1 =>
    R nD_sum k 5 [.ref 7, .int p1, .int 0, .null] [] r1.2.2 := (unr_R [5] nD_sum k 400 0 _ _ _).trans rfl
theorem eD_sum_5 (k : Nat) (v1 : Int32) (v2 : Int32) (u3 : Value) (σ : Sto) : R nD_sum k 5 [.ref 7, .int v1, .int v2, u3] [] σ =
  if v2 < 160 then
    if (σ 7 5) = (-13) then
      (C nD_take k [.ref 7] σ).bind fun r1 =>
        (C nD_term k [.ref 7, .int v1] r1.2.2).bind fun r2 =>
          (C nD_write k [.ref 7, .int (σ 7 5)] r2.2.2).bind fun r3 =>
            R nD_sum k 5 [.ref 7, .int v1, .int (v2 + 1), .int (σ 7 5)] [] r3.2.2
    else
      if (σ 7 5) = (-14) then
        (C nD_take k [.ref 7] σ).bind fun r1 =>
          (C nD_term k [.ref 7, .int v1] r1.2.2).bind fun r2 =>
            (C nD_write k [.ref 7, .int (σ 7 5)] r2.2.2).bind fun r3 =>
              R nD_sum k 5 [.ref 7, .int v1, .int (v2 + 1), .int (σ 7 5)] [] r3.2.2
      else
        some (0, 0, σ)
  else
    some (0, 0, σ) := (unr_R [5] nD_sum k 400 5 _ _ _).trans rfl
-- X0_term
theorem eD_term (k : Nat) (p1 : Int32) (σ : Sto) : C nD_term k [.ref 7, .int p1] σ =
  (C nD_one k [.ref 7, .int p1] σ).bind fun r1 =>
    R nD_term k 5 [.ref 7, .int p1, .int 0] [] r1.2.2 := (unr_R [5] nD_term k 400 0 _ _ _).trans rfl
theorem eD_term_5 (k : Nat) (v1 : Int32) (v2 : Int32) (σ : Sto) : R nD_term k 5 [.ref 7, .int v1, .int v2] [] σ =
  if v2 < 160 then
    if (σ 7 5) = (-15) then
      (C nD_take k [.ref 7] σ).bind fun r1 =>
        (C nD_one k [.ref 7, .int v1] r1.2.2).bind fun r2 =>
          (C nD_write k [.ref 7, .int (-15)] r2.2.2).bind fun r3 =>
            R nD_term k 5 [.ref 7, .int v1, .int (v2 + 1)] [] r3.2.2
    else
      some (0, 0, σ)
  else
    some (0, 0, σ) := (unr_R [5] nD_term k 400 5 _ _ _).trans rfl
-- X0_one
theorem eD_one (k : Nat) (p1 : Int32) (σ : Sto) : C nD_one k [.ref 7, .int p1] σ =
  if (σ 7 5) = (-14) then
    R nD_one k 8 [.ref 7, .int p1, .null] [] σ
  else
    if (σ 7 5) = 2 then
      R nD_one k 8 [.ref 7, .int p1, .null] [] σ
    else
      if (σ 7 5) = 1 then
        (C nD_write k [.ref 7, .int (σ 7 6)] σ).bind fun r1 =>
          (C nD_take k [.ref 7] r1.2.2).bind fun r2 =>
            some (0, 0, r2.2.2)
      else
        if (-1) < (σ 7 5) then
          (C nD_fail k [.ref 7] σ).bind fun r1 =>
            some (0, 0, r1.2.2)
        else
          if (σ 7 5) < (-6) then
            (C nD_fail k [.ref 7] σ).bind fun r1 =>
              some (0, 0, r1.2.2)
          else
            (C nD_write k [.ref 7, .int (σ 7 5)] σ).bind fun r1 =>
              (C nD_take k [.ref 7] r1.2.2).bind fun r2 =>
                some (0, 0, r2.2.2) := (unr_R [8] nD_one k 400 0 _ _ _).trans rfl
set_option maxRecDepth 1000000 in
theorem eD_one_8 (k : Nat) (v1 : Int32) (σ : Sto) : R nD_one k 8 [.ref 7, .int v1, .null] [] σ =
  if (σ 7 5) = 1 then
    (C nD_write k [.ref 7, .int (σ 7 6)] σ).bind fun r1 =>
      (C nD_take k [.ref 7] r1.2.2).bind fun r2 =>
        some (0, 0, r2.2.2)
  else
    if (-1) < (σ 7 5) then
      if v1 < 5 then
        if (σ 7 5) = (-14) then
          (C nD_take k [.ref 7] σ).bind fun r1 =>
            if k < 6 then
              (C nD_one (k + 1) [.ref 7, .int (v1 + 1)] r1.2.2).bind fun r2 =>
                (C nD_write k [.ref 7, .int (-7)] r2.2.2).bind fun r3 =>
                  some (0, 0, r3.2.2)
            else
              none
        else
          (C nD_take k [.ref 7] σ).bind fun r1 =>
            if k < 6 then
              (C nD_either (k + 1) [.ref 7, .int (v1 + 1)] r1.2.2).bind fun r2 =>
                (C nD_expect k [.ref 7, .int 3] r2.2.2).bind fun r3 =>
                  some (0, 0, r3.2.2)
            else
              none
      else
        (C nD_fail k [.ref 7] σ).bind fun r1 =>
          some (0, 0, r1.2.2)
    else
      if (σ 7 5) < (-6) then
        if v1 < 5 then
          if (σ 7 5) = (-14) then
            (C nD_take k [.ref 7] σ).bind fun r1 =>
              if k < 6 then
                (C nD_one (k + 1) [.ref 7, .int (v1 + 1)] r1.2.2).bind fun r2 =>
                  (C nD_write k [.ref 7, .int (-7)] r2.2.2).bind fun r3 =>
                    some (0, 0, r3.2.2)
              else
                none
          else
            (C nD_take k [.ref 7] σ).bind fun r1 =>
              if k < 6 then
                (C nD_either (k + 1) [.ref 7, .int (v1 + 1)] r1.2.2).bind fun r2 =>
                  (C nD_expect k [.ref 7, .int 3] r2.2.2).bind fun r3 =>
                    some (0, 0, r3.2.2)
              else
                none
        else
          (C nD_fail k [.ref 7] σ).bind fun r1 =>
            some (0, 0, r1.2.2)
      else
        (C nD_write k [.ref 7, .int (σ 7 5)] σ).bind fun r1 =>
          (C nD_take k [.ref 7] r1.2.2).bind fun r2 =>
            some (0, 0, r2.2.2) := (unr_R [8] nD_one k 400 8 _ _ _).trans rfl
-- X0_take
theorem eD_take (k : Nat) (σ : Sto) : C nD_take k [.ref 7] σ =
  if (σ 7 7) = (-1) then
    R nD_take k 8 [.ref 7, .int (σ 7 3)] [] σ
  else
    some (0, 0, σ) := (unr_R [8, 31] nD_take k 400 0 _ _ _).trans rfl
theorem eD_take_8 (k : Nat) (v1 : Int32) (σ : Sto) : R nD_take k 8 [.ref 7, .int v1] [] σ =
  if v1 < (σ 7 2) then
    if inb v1 160 = true then
      if (σ 1 v1.toNatClampNeg) = 32 then
        R nD_take k 8 [.ref 7, .int (v1 + 1)] [] (su σ 7 3 (v1 + 1))
      else
        if inb v1 160 = true then
          if (σ 1 v1.toNatClampNeg) = 10 then
            R nD_take k 8 [.ref 7, .int (v1 + 1)] [] (su σ 7 3 (v1 + 1))
          else
            R nD_take k 31 [.ref 7, .int v1] [] σ
        else
          none
    else
      none
  else
    R nD_take k 31 [.ref 7, .int v1] [] σ := (unr_R [8, 31] nD_take k 400 8 _ _ _).trans rfl
theorem eD_take_31 (k : Nat) (v1 : Int32) (σ : Sto) : R nD_take k 31 [.ref 7, .int v1] [] σ =
  if ((su σ 7 4 (σ 7 3)) 7 3) < ((su σ 7 4 (σ 7 3)) 7 2) then
    if inb ((su σ 7 4 (σ 7 3)) 7 3) 160 = true then
      (C nD_isLetter k [.int ((su σ 7 4 (σ 7 3)) 1 ((su σ 7 4 (σ 7 3)) 7 3).toNatClampNeg)] (su σ 7 4 (σ 7 3))).bind fun r1 =>
        if r1.1 = 0 then
          if inb (r1.2.2 7 3) 160 = true then
            (C nD_isDigit k [.int (r1.2.2 1 (r1.2.2 7 3).toNatClampNeg)] r1.2.2).bind fun r2 =>
              if r2.1 = 0 then
                if inb (r2.2.2 7 3) 160 = true then
                  (C nD_signOf k [.int (r2.2.2 1 (r2.2.2 7 3).toNatClampNeg)] r2.2.2).bind fun r3 =>
                    some (0, 0, (su (su r3.2.2 7 5 r3.1) 7 3 (((su r3.2.2 7 5 r3.1) 7 3) + 1)))
                else
                  none
              else
                (C nD_takeNumber k [.ref 7] r2.2.2).bind fun r3 =>
                  some (0, 0, r3.2.2)
          else
            none
        else
          (C nD_takeWord k [.ref 7] r1.2.2).bind fun r2 =>
            some (0, 0, r2.2.2)
    else
      none
  else
    some (0, 0, (su (su σ 7 4 (σ 7 3)) 7 5 5)) := (unr_R [8, 31] nD_take k 400 31 _ _ _).trans rfl
-- X0_takeWord
theorem eD_takeWord (k : Nat) (σ : Sto) : C nD_takeWord k [.ref 7] σ =
  R nD_takeWord k 3 [.ref 7, .int (σ 7 4)] [] σ := (unr_R [3, 20] nD_takeWord k 400 0 _ _ _).trans rfl
theorem eD_takeWord_3 (k : Nat) (v1 : Int32) (σ : Sto) : R nD_takeWord k 3 [.ref 7, .int v1] [] σ =
  if v1 < (σ 7 2) then
    if inb v1 160 = true then
      (C nD_isLetter k [.int (σ 1 v1.toNatClampNeg)] σ).bind fun r1 =>
        if r1.1 = 0 then
          R nD_takeWord k 20 [.ref 7, .int v1] [] r1.2.2
        else
          R nD_takeWord k 3 [.ref 7, .int (v1 + 1)] [] (su r1.2.2 7 3 (v1 + 1))
    else
      none
  else
    R nD_takeWord k 20 [.ref 7, .int v1] [] σ := (unr_R [3, 20] nD_takeWord k 400 3 _ _ _).trans rfl
set_option maxRecDepth 1000000 in
theorem eD_takeWord_20 (k : Nat) (v1 : Int32) (σ : Sto) : R nD_takeWord k 20 [.ref 7, .int v1] [] σ =
  (C nD_isWord k [.ref 7, .ref 100] σ).bind fun r1 =>
    if r1.1 = 0 then
      (C nD_isWord k [.ref 7, .ref 101] r1.2.2).bind fun r2 =>
        if r2.1 = 0 then
          (C nD_isWord k [.ref 7, .ref 102] r2.2.2).bind fun r3 =>
            if r3.1 = 0 then
              (C nD_isWord k [.ref 7, .ref 103] r3.2.2).bind fun r4 =>
                if r4.1 = 0 then
                  (C nD_isWord k [.ref 7, .ref 104] r4.2.2).bind fun r5 =>
                    if r5.1 = 0 then
                      (C nD_isWord k [.ref 7, .ref 105] r5.2.2).bind fun r6 =>
                        if r6.1 = 0 then
                          (C nD_isWord k [.ref 7, .ref 106] r6.2.2).bind fun r7 =>
                            if r7.1 = 0 then
                              (C nD_isWord k [.ref 7, .ref 107] r7.2.2).bind fun r8 =>
                                if r8.1 = 0 then
                                  (C nD_isWord k [.ref 7, .ref 108] r8.2.2).bind fun r9 =>
                                    if r9.1 = 0 then
                                      (C nD_isWord k [.ref 7, .ref 109] r9.2.2).bind fun r10 =>
                                        if r10.1 = 0 then
                                          (C nD_isWord k [.ref 7, .ref 110] r10.2.2).bind fun r11 =>
                                            if r11.1 = 0 then
                                              (C nD_isWord k [.ref 7, .ref 111] r11.2.2).bind fun r12 =>
                                                if r12.1 = 0 then
                                                  some (0, 0, (su r12.2.2 7 5 6))
                                                else
                                                  some (0, 0, (su r12.2.2 7 5 (-6)))
                                            else
                                              some (0, 0, (su r11.2.2 7 5 (-5)))
                                        else
                                          some (0, 0, (su r10.2.2 7 5 (-4)))
                                    else
                                      some (0, 0, (su r9.2.2 7 5 (-3)))
                                else
                                  some (0, 0, (su r8.2.2 7 5 (-2)))
                            else
                              some (0, 0, (su r7.2.2 7 5 (-1)))
                        else
                          some (0, 0, (su r6.2.2 7 5 (-8)))
                    else
                      some (0, 0, (su r5.2.2 7 5 (-10)))
                else
                  some (0, 0, (su r4.2.2 7 5 (-9)))
            else
              some (0, 0, (su r3.2.2 7 5 12))
        else
          some (0, 0, (su r2.2.2 7 5 11))
    else
      some (0, 0, (su r1.2.2 7 5 10)) := (unr_R [3, 20] nD_takeWord k 400 20 _ _ _).trans rfl
-- X0_isWord
theorem eD_isWord (k : Nat)  (w : Nat) (hw : w = 100 ∨ w = 101 ∨ w = 102 ∨ w = 103 ∨ w = 104 ∨ w = 105 ∨ w = 106 ∨ w = 107 ∨ w = 108 ∨ w = 109 ∨ w = 110 ∨ w = 111) (σ : Sto) : C nD_isWord k [.ref 7, .ref w] σ =
  (C nJ0_length k [.ref w] σ).bind fun r1 =>
    if ((σ 7 3) - (σ 7 4)) = r1.1 then
      R nD_isWord k 12 [.ref 7, .ref w, .int 0] [] r1.2.2
    else
      some (0, 0, r1.2.2) := by rcases hw with rfl | rfl | rfl | rfl | rfl | rfl | rfl | rfl | rfl | rfl | rfl | rfl <;> exact (unr_R [12] nD_isWord k 400 0 _ _ _).trans rfl
theorem eD_isWord_12 (k : Nat)  (w : Nat) (hw : w = 100 ∨ w = 101 ∨ w = 102 ∨ w = 103 ∨ w = 104 ∨ w = 105 ∨ w = 106 ∨ w = 107 ∨ w = 108 ∨ w = 109 ∨ w = 110 ∨ w = 111) (v2 : Int32) (σ : Sto) : R nD_isWord k 12 [.ref 7, .ref w, .int v2] [] σ =
  (C nJ0_length k [.ref w] σ).bind fun r1 =>
    if v2 < r1.1 then
      if inb ((r1.2.2 7 4) + v2) 160 = true then
        (C nJ0_charAt k [.ref w, .int v2] r1.2.2).bind fun r2 =>
          if (r1.2.2 1 ((r1.2.2 7 4) + v2).toNatClampNeg) = r2.1 then
            R nD_isWord k 12 [.ref 7, .ref w, .int (v2 + 1)] [] r2.2.2
          else
            some (0, 0, r2.2.2)
      else
        none
    else
      some (1, 0, r1.2.2) := by rcases hw with rfl | rfl | rfl | rfl | rfl | rfl | rfl | rfl | rfl | rfl | rfl | rfl <;> exact (unr_R [12] nD_isWord k 400 12 _ _ _).trans rfl
-- X0_takeNumber
theorem eD_takeNumber (k : Nat) (σ : Sto) : C nD_takeNumber k [.ref 7] σ =
  R nD_takeNumber k 6 [.ref 7, .int ((su σ 7 6 0) 7 4)] [] (su σ 7 6 0) := (unr_R [6] nD_takeNumber k 400 0 _ _ _).trans rfl
theorem eD_takeNumber_6 (k : Nat) (v1 : Int32) (σ : Sto) : R nD_takeNumber k 6 [.ref 7, .int v1] [] σ =
  if v1 < (σ 7 2) then
    if inb v1 160 = true then
      (C nD_isDigit k [.int (σ 1 v1.toNatClampNeg)] σ).bind fun r1 =>
        if r1.1 = 0 then
          if 4 < ((r1.2.2 7 3) - (r1.2.2 7 4)) then
            some (0, 0, (su r1.2.2 7 5 6))
          else
            some (0, 0, (su r1.2.2 7 5 1))
        else
          if inb v1 160 = true then
            R nD_takeNumber k 6 [.ref 7, .int (v1 + 1)] [] (su (su r1.2.2 7 3 (v1 + 1)) 7 6 (((((su r1.2.2 7 3 (v1 + 1)) 7 6) * 10) + ((su r1.2.2 7 3 (v1 + 1)) 1 v1.toNatClampNeg)) - 48))
          else
            none
    else
      none
  else
    if 4 < ((σ 7 3) - (σ 7 4)) then
      some (0, 0, (su σ 7 5 6))
    else
      some (0, 0, (su σ 7 5 1)) := (unr_R [6] nD_takeNumber k 400 6 _ _ _).trans rfl
-- X0_isLetter
theorem eD_isLetter (k : Nat) (p1 : Int32) (σ : Sto) : C nD_isLetter k [.int p1] σ =
  if p1 < 97 then
    some (0, 0, σ)
  else
    if 122 < p1 then
      some (0, 0, σ)
    else
      some (1, 0, σ) := (unr_R [] nD_isLetter k 400 0 _ _ _).trans rfl
-- X0_isDigit
theorem eD_isDigit (k : Nat) (p1 : Int32) (σ : Sto) : C nD_isDigit k [.int p1] σ =
  if p1 < 48 then
    some (0, 0, σ)
  else
    if 57 < p1 then
      some (0, 0, σ)
    else
      some (1, 0, σ) := (unr_R [] nD_isDigit k 400 0 _ _ _).trans rfl
-- X0_signOf
set_option maxRecDepth 1000000 in
theorem eD_signOf (k : Nat) (p1 : Int32) (σ : Sto) : C nD_signOf k [.int p1] σ =
  if p1 = 40 then
    some (2, 0, σ)
  else
    if p1 = 41 then
      some (3, 0, σ)
    else
      if p1 = 42 then
        some ((-15), 0, σ)
      else
        if p1 = 43 then
          some ((-13), 0, σ)
        else
          if p1 = 44 then
            some (6, 0, σ)
          else
            if p1 = 45 then
              some ((-14), 0, σ)
            else
              if p1 = 46 then
                some (6, 0, σ)
              else
                if p1 = 47 then
                  some (6, 0, σ)
                else
                  if p1 = 48 then
                    some (6, 0, σ)
                  else
                    if p1 = 49 then
                      some (6, 0, σ)
                    else
                      if p1 = 50 then
                        some (6, 0, σ)
                      else
                        if p1 = 51 then
                          some (6, 0, σ)
                        else
                          if p1 = 52 then
                            some (6, 0, σ)
                          else
                            if p1 = 53 then
                              some (6, 0, σ)
                            else
                              if p1 = 54 then
                                some (6, 0, σ)
                              else
                                if p1 = 55 then
                                  some (6, 0, σ)
                                else
                                  if p1 = 56 then
                                    some (6, 0, σ)
                                  else
                                    if p1 = 57 then
                                      some (6, 0, σ)
                                    else
                                      if p1 = 58 then
                                        some (6, 0, σ)
                                      else
                                        if p1 = 59 then
                                          some (4, 0, σ)
                                        else
                                          if p1 = 60 then
                                            some ((-11), 0, σ)
                                          else
                                            if p1 = 61 then
                                              some ((-12), 0, σ)
                                            else
                                              some (6, 0, σ) := (unr_R [] nD_signOf k 400 0 _ _ _).trans rfl
-- X1_has
theorem eH_has (k : Nat) (p1 : Int32) (σ : Sto) : C nH_has k [.ref 8, .int p1] σ =
  if p1 < 0 then
    some (0, 0, σ)
  else
    if p1 < 4 then
      some (1, 0, σ)
    else
      some (0, 0, σ) := (unr_R [] nH_has k 400 0 _ _ _).trans rfl
-- X1_holds
theorem eH_holds (k : Nat) (p1 : Int32) (p2 : Int64) (p3 : Int32) (σ : Sto) : C nH_holds k [.ref 8, .int p1, .long p2, .int p3] σ =
  if (lg_cmp p2 0) < 0 then
    some (0, 0, σ)
  else
    if inb p1 4 = true then
      if 0 < (lg_cmp (p2 + (Int32.toInt64 p3)) (Int32.toInt64 (σ 11 p1.toNatClampNeg))) then
        some (0, 0, σ)
      else
        some (1, 0, σ)
    else
      none := (unr_R [] nH_holds k 400 0 _ _ _).trans rfl
-- X1_renew
theorem eH_renew (k : Nat) (p1 : Int32) (p2 : Int32) (p3 : Int32) (σ : Sto) : C nH_renew k [.ref 8, .int p1, .int p2, .int p3] σ =
  if inb p1 4 = true then
    if inb p1 4 = true then
      R nH_renew k 12 [.ref 8, .int p1, .int p2, .int p3, .int 0] [] (su (su σ 10 p1.toNatClampNeg p2) 11 p1.toNatClampNeg p3)
    else
      none
  else
    none := (unr_R [12] nH_renew k 400 0 _ _ _).trans rfl
theorem eH_renew_12 (k : Nat) (v1 : Int32) (v2 : Int32) (v3 : Int32) (v4 : Int32) (σ : Sto) : R nH_renew k 12 [.ref 8, .int v1, .int v2, .int v3, .int v4] [] σ =
  if v4 < v3 then
    if inb ((v1 * 40) + v4) 160 = true then
      R nH_renew k 12 [.ref 8, .int v1, .int v2, .int v3, .int (v4 + 1)] [] (su σ 9 ((v1 * 40) + v4).toNatClampNeg 0)
    else
      none
  else
    some (0, 0, σ) := (unr_R [12] nH_renew k 400 12 _ _ _).trans rfl
-- X1_read
theorem eH_read (k : Nat) (p1 : Int32) (p2 : Int32) (σ : Sto) : C nH_read k [.ref 8, .int p1, .int p2] σ =
  if inb ((p1 * 40) + p2) 160 = true then
    some ((σ 9 ((p1 * 40) + p2).toNatClampNeg), 0, σ)
  else
    none := (unr_R [] nH_read k 400 0 _ _ _).trans rfl
-- X1_write
theorem eH_write (k : Nat) (p1 : Int32) (p2 : Int32) (p3 : Int32) (σ : Sto) : C nH_write k [.ref 8, .int p1, .int p2, .int p3] σ =
  if inb p1 4 = true then
    if (σ 10 p1.toNatClampNeg) = 0 then
      if inb ((p1 * 40) + p2) 160 = true then
        some (0, 0, (su σ 9 ((p1 * 40) + p2).toNatClampNeg ((Int32.toInt8 p3).toInt32)))
      else
        none
    else
      if inb p1 4 = true then
        if (σ 10 p1.toNatClampNeg) = 1 then
          if inb ((p1 * 40) + p2) 160 = true then
            some (0, 0, (su σ 9 ((p1 * 40) + p2).toNatClampNeg ((Int32.toInt16 p3).toInt32)))
          else
            none
        else
          if inb ((p1 * 40) + p2) 160 = true then
            some (0, 0, (su σ 9 ((p1 * 40) + p2).toNatClampNeg p3))
          else
            none
      else
        none
  else
    none := (unr_R [] nH_write k 400 0 _ _ _).trans rfl
-- X1_carry
theorem eH_carry (k : Nat) (p1 : Int32) (p2 : Int32) (p3 : Int32) (p4 : Int32) (p5 : Int32) (σ : Sto) : C nH_carry k [.ref 8, .int p1, .int p2, .int p3, .int p4, .int p5] σ =
  if 0 ≤ (((p1 * 40) + p2)).toInt ∧ 0 ≤ (((p3 * 40) + p4)).toInt ∧ 0 ≤ (p5).toInt ∧ (((p1 * 40) + p2)).toInt + (p5).toInt ≤ ((160 : Nat) : Int) ∧ (((p3 * 40) + p4)).toInt + (p5).toInt ≤ ((160 : Nat) : Int) then
    some (0, 0, (cpy σ 9 9 ((p1 * 40) + p2) ((p3 * 40) + p4) p5))
  else
    none := (unr_R [] nH_carry k 400 0 _ _ _).trans rfl
-- X2_becomes
theorem eS_becomes (k : Nat) (c d : Nat) (hc : (c = 18 ∧ d = 12) ∨ (c = 24 ∧ d = 12) ∨ (c = 12 ∧ d = 24)) (σ : Sto) : C nS_becomes k [.ref c, .ref d] σ =
  R nS_becomes k 2 [.ref c, .ref d, .int 0] [] σ := by rcases hc with ⟨rfl, rfl⟩ | ⟨rfl, rfl⟩ | ⟨rfl, rfl⟩ <;> exact (unr_R [2] nS_becomes k 400 0 _ _ _).trans rfl
set_option maxRecDepth 1000000 in
theorem eS_becomes_2 (k : Nat) (c d : Nat) (hc : (c = 18 ∧ d = 12) ∨ (c = 24 ∧ d = 12) ∨ (c = 12 ∧ d = 24)) (v2 : Int32) (σ : Sto) : R nS_becomes k 2 [.ref c, .ref d, .int v2] [] σ =
  if v2 < (σ d 6) then
    if inb v2 6 = true then
      if inb v2 6 = true then
        if inb v2 6 = true then
          if inb v2 6 = true then
            if inb v2 6 = true then
              if inb v2 6 = true then
                if inb v2 6 = true then
                  if inb v2 6 = true ∧ zb ((su (su (su σ (c + 1) v2.toNatClampNeg (σ (d + 1) v2.toNatClampNeg)) (c + 2) v2.toNatClampNeg ((su σ (c + 1) v2.toNatClampNeg (σ (d + 1) v2.toNatClampNeg)) (d + 2) v2.toNatClampNeg)) (c + 3) v2.toNatClampNeg ((su (su σ (c + 1) v2.toNatClampNeg (σ (d + 1) v2.toNatClampNeg)) (c + 2) v2.toNatClampNeg ((su σ (c + 1) v2.toNatClampNeg (σ (d + 1) v2.toNatClampNeg)) (d + 2) v2.toNatClampNeg)) (d + 3) v2.toNatClampNeg)) (d + 4) v2.toNatClampNeg) = true then
                    if inb v2 6 = true then
                      if inb v2 6 = true then
                        R nS_becomes k 2 [.ref c, .ref d, .int (v2 + 1)] [] (su (su (su (su (su σ (c + 1) v2.toNatClampNeg (σ (d + 1) v2.toNatClampNeg)) (c + 2) v2.toNatClampNeg ((su σ (c + 1) v2.toNatClampNeg (σ (d + 1) v2.toNatClampNeg)) (d + 2) v2.toNatClampNeg)) (c + 3) v2.toNatClampNeg ((su (su σ (c + 1) v2.toNatClampNeg (σ (d + 1) v2.toNatClampNeg)) (c + 2) v2.toNatClampNeg ((su σ (c + 1) v2.toNatClampNeg (σ (d + 1) v2.toNatClampNeg)) (d + 2) v2.toNatClampNeg)) (d + 3) v2.toNatClampNeg)) (c + 4) v2.toNatClampNeg ((su (su (su σ (c + 1) v2.toNatClampNeg (σ (d + 1) v2.toNatClampNeg)) (c + 2) v2.toNatClampNeg ((su σ (c + 1) v2.toNatClampNeg (σ (d + 1) v2.toNatClampNeg)) (d + 2) v2.toNatClampNeg)) (c + 3) v2.toNatClampNeg ((su (su σ (c + 1) v2.toNatClampNeg (σ (d + 1) v2.toNatClampNeg)) (c + 2) v2.toNatClampNeg ((su σ (c + 1) v2.toNatClampNeg (σ (d + 1) v2.toNatClampNeg)) (d + 2) v2.toNatClampNeg)) (d + 3) v2.toNatClampNeg)) (d + 4) v2.toNatClampNeg)) (c + 5) v2.toNatClampNeg ((su (su (su (su σ (c + 1) v2.toNatClampNeg (σ (d + 1) v2.toNatClampNeg)) (c + 2) v2.toNatClampNeg ((su σ (c + 1) v2.toNatClampNeg (σ (d + 1) v2.toNatClampNeg)) (d + 2) v2.toNatClampNeg)) (c + 3) v2.toNatClampNeg ((su (su σ (c + 1) v2.toNatClampNeg (σ (d + 1) v2.toNatClampNeg)) (c + 2) v2.toNatClampNeg ((su σ (c + 1) v2.toNatClampNeg (σ (d + 1) v2.toNatClampNeg)) (d + 2) v2.toNatClampNeg)) (d + 3) v2.toNatClampNeg)) (c + 4) v2.toNatClampNeg ((su (su (su σ (c + 1) v2.toNatClampNeg (σ (d + 1) v2.toNatClampNeg)) (c + 2) v2.toNatClampNeg ((su σ (c + 1) v2.toNatClampNeg (σ (d + 1) v2.toNatClampNeg)) (d + 2) v2.toNatClampNeg)) (c + 3) v2.toNatClampNeg ((su (su σ (c + 1) v2.toNatClampNeg (σ (d + 1) v2.toNatClampNeg)) (c + 2) v2.toNatClampNeg ((su σ (c + 1) v2.toNatClampNeg (σ (d + 1) v2.toNatClampNeg)) (d + 2) v2.toNatClampNeg)) (d + 3) v2.toNatClampNeg)) (d + 4) v2.toNatClampNeg)) (d + 5) v2.toNatClampNeg))
                      else
                        none
                    else
                      none
                  else
                    none
                else
                  none
              else
                none
            else
              none
          else
            none
        else
          none
      else
        none
    else
      none
  else
    some (0, 0, (su (su (su (su (su (su σ c 6 (σ d 6)) c 7 ((su σ c 6 (σ d 6)) d 7)) c 8 ((su (su σ c 6 (σ d 6)) c 7 ((su σ c 6 (σ d 6)) d 7)) d 8)) c 9 ((su (su (su σ c 6 (σ d 6)) c 7 ((su σ c 6 (σ d 6)) d 7)) c 8 ((su (su σ c 6 (σ d 6)) c 7 ((su σ c 6 (σ d 6)) d 7)) d 8)) d 9)) c 10 ((su (su (su (su σ c 6 (σ d 6)) c 7 ((su σ c 6 (σ d 6)) d 7)) c 8 ((su (su σ c 6 (σ d 6)) c 7 ((su σ c 6 (σ d 6)) d 7)) d 8)) c 9 ((su (su (su σ c 6 (σ d 6)) c 7 ((su σ c 6 (σ d 6)) d 7)) c 8 ((su (su σ c 6 (σ d 6)) c 7 ((su σ c 6 (σ d 6)) d 7)) d 8)) d 9)) d 10)) c 11 ((su (su (su (su (su σ c 6 (σ d 6)) c 7 ((su σ c 6 (σ d 6)) d 7)) c 8 ((su (su σ c 6 (σ d 6)) c 7 ((su σ c 6 (σ d 6)) d 7)) d 8)) c 9 ((su (su (su σ c 6 (σ d 6)) c 7 ((su σ c 6 (σ d 6)) d 7)) c 8 ((su (su σ c 6 (σ d 6)) c 7 ((su σ c 6 (σ d 6)) d 7)) d 8)) d 9)) c 10 ((su (su (su (su σ c 6 (σ d 6)) c 7 ((su σ c 6 (σ d 6)) d 7)) c 8 ((su (su σ c 6 (σ d 6)) c 7 ((su σ c 6 (σ d 6)) d 7)) d 8)) c 9 ((su (su (su σ c 6 (σ d 6)) c 7 ((su σ c 6 (σ d 6)) d 7)) c 8 ((su (su σ c 6 (σ d 6)) c 7 ((su σ c 6 (σ d 6)) d 7)) d 8)) d 9)) d 10)) d 11))) := by rcases hc with ⟨rfl, rfl⟩ | ⟨rfl, rfl⟩ | ⟨rfl, rfl⟩ <;> exact (unr_R [2] nS_becomes k 400 2 _ _ _).trans rfl
-- X2_has
theorem eS_has (k : Nat)  (c : Nat) (hc : c = 12 ∨ c = 18 ∨ c = 24) (p1 : Int64) (σ : Sto) : C nS_has k [.ref c, .long p1] σ =
  if (lg_cmp p1 0) < 0 then
    some (0, 0, σ)
  else
    if (lg_cmp p1 (Int32.toInt64 (σ c 6))) < 0 then
      some (1, 0, σ)
    else
      some (0, 0, σ) := by rcases hc with rfl | rfl | rfl <;> exact (unr_R [] nS_has k 400 0 _ _ _).trans rfl
-- X2_welcome
theorem eS_welcome (k : Nat)  (c : Nat) (hc : c = 12 ∨ c = 18 ∨ c = 24) (p1 : Int32) (p2 : Int32) (σ : Sto) : C nS_welcome k [.ref c, .int p1, .int p2] σ =
  (C nF_within k [.int p1, .int 0, .int 59] σ).bind fun r1 =>
    if r1.1 = 0 then
      some ((-2), 0, r1.2.2)
    else
      (C nF_within k [.int p2, .int 0, .int 63] r1.2.2).bind fun r2 =>
        if r2.1 = 0 then
          some ((-2), 0, r2.2.2)
        else
          if (r2.2.2 c 6) < 6 then
            if inb (r2.2.2 c 6) 6 = true then
              if inb (r2.2.2 c 6) 6 = true then
                if inb (r2.2.2 c 6) 6 = true then
                  if inb (r2.2.2 c 6) 6 = true ∧ zb 0 = true then
                    if inb (r2.2.2 c 6) 6 = true then
                      some ((r2.2.2 c 6), 0, (su (su (su (su (su (su r2.2.2 (c + 1) (r2.2.2 c 6).toNatClampNeg (p1 / 10)) (c + 2) (r2.2.2 c 6).toNatClampNeg (p1 - p1 / 10 * 10)) (c + 3) (r2.2.2 c 6).toNatClampNeg p2) (c + 4) (r2.2.2 c 6).toNatClampNeg 0) (c + 5) (r2.2.2 c 6).toNatClampNeg 0) c 6 (((su (su (su (su (su r2.2.2 (c + 1) (r2.2.2 c 6).toNatClampNeg (p1 / 10)) (c + 2) (r2.2.2 c 6).toNatClampNeg (p1 - p1 / 10 * 10)) (c + 3) (r2.2.2 c 6).toNatClampNeg p2) (c + 4) (r2.2.2 c 6).toNatClampNeg 0) (c + 5) (r2.2.2 c 6).toNatClampNeg 0) c 6) + 1)))
                    else
                      none
                  else
                    none
                else
                  none
              else
                none
            else
              none
          else
            some ((-4), 0, r2.2.2) := by rcases hc with rfl | rfl | rfl <;> exact (unr_R [] nS_welcome k 400 0 _ _ _).trans rfl
-- X2_isSeen
theorem eS_isSeen (k : Nat)  (c : Nat) (hc : c = 12 ∨ c = 18 ∨ c = 24) (p1 : Int32) (σ : Sto) : C nS_isSeen k [.ref c, .int p1] σ =
  if inb p1 6 = true then
    if (σ (c + 3) p1.toNatClampNeg) = (-1) then
      some (0, 0, σ)
    else
      if inb p1 6 = true then
        if (σ (c + 4) p1.toNatClampNeg) = 0 then
          some (1, 0, σ)
        else
          some (0, 0, σ)
      else
        none
  else
    none := by rcases hc with rfl | rfl | rfl <;> exact (unr_R [] nS_isSeen k 400 0 _ _ _).trans rfl
-- X2_isOver
theorem eS_isOver (k : Nat)  (c : Nat) (hc : c = 12 ∨ c = 18 ∨ c = 24) (p1 : Int32) (σ : Sto) : C nS_isOver k [.ref c, .int p1] σ =
  if inb p1 6 = true then
    if (σ (c + 3) p1.toNatClampNeg) = (-1) then
      if (σ c 9) = p1 then
        some (0, 0, σ)
      else
        some (1, 0, σ)
    else
      some (0, 0, σ)
  else
    none := by rcases hc with rfl | rfl | rfl <;> exact (unr_R [] nS_isOver k 400 0 _ _ _).trans rfl
-- X2_isAlone
theorem eS_isAlone (k : Nat)  (c : Nat) (hc : c = 12 ∨ c = 18 ∨ c = 24) (p1 : Int32) (σ : Sto) : C nS_isAlone k [.ref c, .int p1] σ =
  (C nS_isSeen k [.ref c, .int p1] σ).bind fun r1 =>
    if r1.1 = 0 then
      some (0, 0, r1.2.2)
    else
      (C nS_gapAbout k [.ref c, .int p1] r1.2.2).bind fun r2 =>
        R nS_isAlone k 12 [.ref c, .int p1, .int r2.1, .int 0] [] r2.2.2 := by rcases hc with rfl | rfl | rfl <;> exact (unr_R [12] nS_isAlone k 400 0 _ _ _).trans rfl
theorem eS_isAlone_12 (k : Nat)  (c : Nat) (hc : c = 12 ∨ c = 18 ∨ c = 24) (v1 : Int32) (v2 : Int32) (v3 : Int32) (σ : Sto) : R nS_isAlone k 12 [.ref c, .int v1, .int v2, .int v3] [] σ =
  if v3 < (σ c 6) then
    if v3 = v1 then
      R nS_isAlone k 12 [.ref c, .int v1, .int v2, .int (v3 + 1)] [] σ
    else
      (C nS_isSeen k [.ref c, .int v3] σ).bind fun r1 =>
        if r1.1 = 0 then
          R nS_isAlone k 12 [.ref c, .int v1, .int v2, .int (v3 + 1)] [] r1.2.2
        else
          if inb v3 6 = true then
            if inb v1 6 = true then
              if (absI ((r1.2.2 (c + 3) v3.toNatClampNeg) - (r1.2.2 (c + 3) v1.toNatClampNeg))) < v2 then
                some (0, 0, r1.2.2)
              else
                R nS_isAlone k 12 [.ref c, .int v1, .int v2, .int (v3 + 1)] [] r1.2.2
            else
              none
          else
            none
  else
    some (1, 0, σ) := by rcases hc with rfl | rfl | rfl <;> exact (unr_R [12] nS_isAlone k 400 12 _ _ _).trans rfl
-- X2_farFrom
theorem eS_farFrom (k : Nat)  (c : Nat) (hc : c = 12 ∨ c = 18 ∨ c = 24) (p1 : Int32) (σ : Sto) : C nS_farFrom k [.ref c, .int p1] σ =
  R nS_farFrom k 4 [.ref c, .int p1, .int (-1), .int 0, .null] [] σ := by rcases hc with rfl | rfl | rfl <;> exact (unr_R [4] nS_farFrom k 400 0 _ _ _).trans rfl
theorem eS_farFrom_4 (k : Nat)  (c : Nat) (hc : c = 12 ∨ c = 18 ∨ c = 24) (v1 : Int32) (v2 : Int32) (v3 : Int32) (u4 : Value) (σ : Sto) : R nS_farFrom k 4 [.ref c, .int v1, .int v2, .int v3, u4] [] σ =
  if v3 < (σ c 6) then
    if v3 = v1 then
      R nS_farFrom k 4 [.ref c, .int v1, .int v2, .int (v3 + 1), u4] [] σ
    else
      (C nS_isSeen k [.ref c, .int v3] σ).bind fun r1 =>
        if r1.1 = 0 then
          R nS_farFrom k 4 [.ref c, .int v1, .int v2, .int (v3 + 1), u4] [] r1.2.2
        else
          if inb v1 6 = true then
            if (r1.2.2 (c + 3) v1.toNatClampNeg) = (-1) then
              R nS_farFrom k 4 [.ref c, .int v1, .int v2, .int (v3 + 1), u4] [] r1.2.2
            else
              if inb v3 6 = true then
                if inb v1 6 = true then
                  if v2 = (-1) then
                    R nS_farFrom k 4 [.ref c, .int v1, .int (absI ((r1.2.2 (c + 3) v3.toNatClampNeg) - (r1.2.2 (c + 3) v1.toNatClampNeg))), .int (v3 + 1), .int (absI ((r1.2.2 (c + 3) v3.toNatClampNeg) - (r1.2.2 (c + 3) v1.toNatClampNeg)))] [] r1.2.2
                  else
                    R nS_farFrom k 4 [.ref c, .int v1, .int (minI v2 (absI ((r1.2.2 (c + 3) v3.toNatClampNeg) - (r1.2.2 (c + 3) v1.toNatClampNeg)))), .int (v3 + 1), .int (absI ((r1.2.2 (c + 3) v3.toNatClampNeg) - (r1.2.2 (c + 3) v1.toNatClampNeg)))] [] r1.2.2
                else
                  none
              else
                none
          else
            none
  else
    some (v2, 0, σ) := by rcases hc with rfl | rfl | rfl <;> exact (unr_R [4] nS_farFrom k 400 4 _ _ _).trans rfl
-- X2_areNeighbours
set_option maxRecDepth 1000000 in
theorem eS_areNeighbours (k : Nat)  (c : Nat) (hc : c = 12 ∨ c = 18 ∨ c = 24) (p1 : Int32) (p2 : Int32) (σ : Sto) : C nS_areNeighbours k [.ref c, .int p1, .int p2] σ =
  if inb p1 6 = true then
    if inb p2 6 = true then
      if (σ (c + 3) p1.toNatClampNeg) < (σ (c + 3) p2.toNatClampNeg) then
        (C nS_isSeen k [.ref c, .int p1] σ).bind fun r1 =>
          if r1.1 = 0 then
            some (0, 0, r1.2.2)
          else
            (C nS_isSeen k [.ref c, .int p2] r1.2.2).bind fun r2 =>
              if r2.1 = 0 then
                some (0, 0, r2.2.2)
              else
                R nS_areNeighbours k 39 [.ref c, .int p1, .int p2, .int 1, .int 0] [] r2.2.2
      else
        if inb p1 6 = true then
          if inb p2 6 = true then
            if (σ (c + 3) p1.toNatClampNeg) = (σ (c + 3) p2.toNatClampNeg) then
              if p1 < p2 then
                (C nS_isSeen k [.ref c, .int p1] σ).bind fun r1 =>
                  if r1.1 = 0 then
                    some (0, 0, r1.2.2)
                  else
                    (C nS_isSeen k [.ref c, .int p2] r1.2.2).bind fun r2 =>
                      if r2.1 = 0 then
                        some (0, 0, r2.2.2)
                      else
                        R nS_areNeighbours k 39 [.ref c, .int p1, .int p2, .int 1, .int 0] [] r2.2.2
              else
                some (0, 0, σ)
            else
              some (0, 0, σ)
          else
            none
        else
          none
    else
      none
  else
    none := by rcases hc with rfl | rfl | rfl <;> exact (unr_R [39] nS_areNeighbours k 400 0 _ _ _).trans rfl
theorem eS_areNeighbours_39 (k : Nat)  (c : Nat) (hc : c = 12 ∨ c = 18 ∨ c = 24) (v1 : Int32) (v2 : Int32) (v3 : Int32) (v4 : Int32) (σ : Sto) : R nS_areNeighbours k 39 [.ref c, .int v1, .int v2, .int v3, .int v4] [] σ =
  if v4 < (σ c 6) then
    (C nS_isSeen k [.ref c, .int v4] σ).bind fun r1 =>
      if r1.1 = 0 then
        R nS_areNeighbours k 39 [.ref c, .int v1, .int v2, .int v3, .int (v4 + 1)] [] r1.2.2
      else
        if inb v4 6 = true then
          if inb v1 6 = true then
            if (r1.2.2 (c + 3) v1.toNatClampNeg) < (r1.2.2 (c + 3) v4.toNatClampNeg) then
              if inb v4 6 = true then
                if inb v2 6 = true then
                  if (r1.2.2 (c + 3) v4.toNatClampNeg) < (r1.2.2 (c + 3) v2.toNatClampNeg) then
                    some (0, 0, r1.2.2)
                  else
                    R nS_areNeighbours k 39 [.ref c, .int v1, .int v2, .int v3, .int (v4 + 1)] [] r1.2.2
                else
                  none
              else
                none
            else
              R nS_areNeighbours k 39 [.ref c, .int v1, .int v2, .int v3, .int (v4 + 1)] [] r1.2.2
          else
            none
        else
          none
  else
    some (1, 0, σ) := by rcases hc with rfl | rfl | rfl <;> exact (unr_R [39] nS_areNeighbours k 400 39 _ _ _).trans rfl
-- X2_gapAbout
theorem eS_gapAbout (k : Nat)  (c : Nat) (hc : c = 12 ∨ c = 18 ∨ c = 24) (p1 : Int32) (σ : Sto) : C nS_gapAbout k [.ref c, .int p1] σ =
  if inb p1 6 = true then
    if (σ (c + 1) p1.toNatClampNeg) = 1 then
      (C nT_says k [.ref 2, .int 0, .ref c, .int p1] σ).bind fun r1 =>
        some ((r1.1 / 2), 0, r1.2.2)
    else
      if (σ (c + 1) p1.toNatClampNeg) = 2 then
        (C nT_says k [.ref 2, .int 0, .ref c, .int p1] σ).bind fun r1 =>
          if inb p1 6 = true then
            some ((r1.1 + (r1.2.2 (c + 2) p1.toNatClampNeg)), 0, r1.2.2)
          else
            none
      else
        if (σ (c + 1) p1.toNatClampNeg) = 3 then
          (C nT_says k [.ref 2, .int 0, .ref c, .int p1] σ).bind fun r1 =>
            some ((r1.1 / 2), 0, r1.2.2)
        else
          if (σ (c + 1) p1.toNatClampNeg) = 4 then
            (C nT_says k [.ref 2, .int 0, .ref c, .int p1] σ).bind fun r1 =>
              if inb p1 6 = true then
                some ((r1.1 + (r1.2.2 (c + 2) p1.toNatClampNeg)), 0, r1.2.2)
              else
                none
          else
            if (σ (c + 1) p1.toNatClampNeg) = 5 then
              some (0, 0, σ)
            else
              (C nT_says k [.ref 2, .int 0, .ref c, .int p1] σ).bind fun r1 =>
                some (r1.1, 0, r1.2.2)
  else
    none := by rcases hc with rfl | rfl | rfl <;> exact (unr_R [] nS_gapAbout k 400 0 _ _ _).trans rfl
-- X2_likedHow
set_option maxRecDepth 1000000 in
theorem eS_likedHow (k : Nat)  (c : Nat) (hc : c = 12 ∨ c = 18 ∨ c = 24) (p1 : Int32) (σ : Sto) : C nS_likedHow k [.ref c, .int p1] σ =
  if inb p1 6 = true then
    if (σ (c + 1) p1.toNatClampNeg) = 1 then
      (C nT_says k [.ref 2, .int 1, .ref c, .int p1] σ).bind fun r1 =>
        if inb p1 6 = true then
          some ((r1.1 - (r1.2.2 (c + 2) p1.toNatClampNeg)), 0, r1.2.2)
        else
          none
    else
      if (σ (c + 1) p1.toNatClampNeg) = 2 then
        (C nT_says k [.ref 2, .int 1, .ref c, .int p1] σ).bind fun r1 =>
          some (r1.1, 0, r1.2.2)
      else
        if (σ (c + 1) p1.toNatClampNeg) = 3 then
          if ((σ c 7) - (σ c 7) / 4 * 4) = 0 then
            some (99, 0, σ)
          else
            (C nT_says k [.ref 2, .int 1, .ref c, .int p1] σ).bind fun r1 =>
              if inb p1 6 = true then
                some ((r1.1 - (r1.2.2 (c + 2) p1.toNatClampNeg)), 0, r1.2.2)
              else
                none
        else
          if (σ (c + 1) p1.toNatClampNeg) = 4 then
            (C nT_says k [.ref 2, .int 1, .ref c, .int p1] σ).bind fun r1 =>
              some ((-r1.1), 0, r1.2.2)
          else
            if (σ (c + 1) p1.toNatClampNeg) = 5 then
              if inb p1 6 = true then
                some ((10 * (σ (c + 2) p1.toNatClampNeg)), 0, σ)
              else
                none
            else
              (C nT_says k [.ref 2, .int 1, .ref c, .int p1] σ).bind fun r1 =>
                some (r1.1, 0, r1.2.2)
  else
    none := by rcases hc with rfl | rfl | rfl <;> exact (unr_R [] nS_likedHow k 400 0 _ _ _).trans rfl
-- X2_walksFar
set_option maxRecDepth 1000000 in
theorem eS_walksFar (k : Nat)  (c : Nat) (hc : c = 12 ∨ c = 18 ∨ c = 24) (p1 : Int32) (σ : Sto) : C nS_walksFar k [.ref c, .int p1] σ =
  if inb p1 6 = true then
    if (σ (c + 1) p1.toNatClampNeg) = 2 then
      (C nT_says k [.ref 2, .int 2, .ref c, .int p1] σ).bind fun r1 =>
        (C nS_isAlone k [.ref c, .int p1] r1.2.2).bind fun r2 =>
          if r2.1 = 0 then
            some ((r1.1 + 0), 0, r2.2.2)
          else
            some ((r1.1 + 1), 0, r2.2.2)
    else
      if (σ (c + 1) p1.toNatClampNeg) = 3 then
        (C nS_isAlone k [.ref c, .int p1] σ).bind fun r1 =>
          if r1.1 = 0 then
            (C nT_says k [.ref 2, .int 2, .ref c, .int p1] r1.2.2).bind fun r2 =>
              some (((-1) - r2.1), 0, r2.2.2)
          else
            some (0, 0, r1.2.2)
      else
        if (σ (c + 1) p1.toNatClampNeg) = 4 then
          if ((σ c 7) - (σ c 7) / 2 * 2) = 0 then
            if inb p1 6 = true then
              some ((σ (c + 2) p1.toNatClampNeg), 0, σ)
            else
              none
          else
            if inb p1 6 = true then
              some ((-(σ (c + 2) p1.toNatClampNeg)), 0, σ)
            else
              none
        else
          (C nT_says k [.ref 2, .int 2, .ref c, .int p1] σ).bind fun r1 =>
            some (r1.1, 0, r1.2.2)
  else
    none := by rcases hc with rfl | rfl | rfl <;> exact (unr_R [] nS_walksFar k 400 0 _ _ _).trans rfl
-- X2_choice
theorem eS_choice (k : Nat)  (c : Nat) (hc : c = 12 ∨ c = 18 ∨ c = 24) (σ : Sto) : C nS_choice k [.ref c] σ =
  R nS_choice k 6 [.ref c, .int (-1), .int 0, .int 0, .null] [] σ := by rcases hc with rfl | rfl | rfl <;> exact (unr_R [6] nS_choice k 400 0 _ _ _).trans rfl
theorem eS_choice_6 (k : Nat)  (c : Nat) (hc : c = 12 ∨ c = 18 ∨ c = 24) (v1 : Int32) (v2 : Int32) (v3 : Int32) (u4 : Value) (σ : Sto) : R nS_choice k 6 [.ref c, .int v1, .int v2, .int v3, u4] [] σ =
  if v3 < (σ c 6) then
    (C nS_isAlone k [.ref c, .int v3] σ).bind fun r1 =>
      if r1.1 = 0 then
        R nS_choice k 6 [.ref c, .int v1, .int v2, .int (v3 + 1), u4] [] r1.2.2
      else
        (C nS_likedHow k [.ref c, .int v3] r1.2.2).bind fun r2 =>
          if v1 = (-1) then
            R nS_choice k 6 [.ref c, .int v3, .int r2.1, .int (v3 + 1), .int r2.1] [] r2.2.2
          else
            if v2 < r2.1 then
              R nS_choice k 6 [.ref c, .int v3, .int r2.1, .int (v3 + 1), .int r2.1] [] r2.2.2
            else
              R nS_choice k 6 [.ref c, .int v1, .int v2, .int (v3 + 1), .int r2.1] [] r2.2.2
  else
    some (v1, 0, σ) := by rcases hc with rfl | rfl | rfl <;> exact (unr_R [6] nS_choice k 400 6 _ _ _).trans rfl
-- X2_goOn
theorem eS_goOn (k : Nat)  (c : Nat) (hc : c = 12 ∨ c = 18 ∨ c = 24) (p1 : Int32) (p2 : Int32) (σ : Sto) : C nS_goOn k [.ref c, .int p1, .int p2] σ =
  if inb p1 6 = true then
    if inb p1 6 = true then
      some (0, 0, (su σ (c + 3) p1.toNatClampNeg (maxI 0 (minI 63 ((σ (c + 3) p1.toNatClampNeg) + p2)))))
    else
      none
  else
    none := by rcases hc with rfl | rfl | rfl <;> exact (unr_R [] nS_goOn k 400 0 _ _ _).trans rfl
-- X2_passHour
theorem eS_passHour (k : Nat)  (c : Nat) (hc : c = 12 ∨ c = 18 ∨ c = 24) (σ : Sto) : C nS_passHour k [.ref c] σ =
  if 0 < (σ c 8) then
    if ((su σ c 8 ((σ c 8) - 1)) c 8) = 0 then
      R nS_passHour k 26 [.ref c, .int (-1), .int 0] [] (su (su σ c 8 ((σ c 8) - 1)) c 9 (-1))
    else
      R nS_passHour k 26 [.ref c, .int (-1), .int 0] [] (su σ c 8 ((σ c 8) - 1))
  else
    (C nS_choice k [.ref c] σ).bind fun r1 =>
      (C nS_fetch k [.ref c, .int r1.1] r1.2.2).bind fun r2 =>
        R nS_passHour k 26 [.ref c, .int r1.1, .int 0] [] r2.2.2 := by rcases hc with rfl | rfl | rfl <;> exact (unr_R [26] nS_passHour k 400 0 _ _ _).trans rfl
theorem eS_passHour_26 (k : Nat)  (c : Nat) (hc : c = 12 ∨ c = 18 ∨ c = 24) (v1 : Int32) (v2 : Int32) (σ : Sto) : R nS_passHour k 26 [.ref c, .int v1, .int v2] [] σ =
  if v2 < (σ c 6) then
    if inb v2 6 = true then
      if (σ (c + 3) v2.toNatClampNeg) = (-1) then
        R nS_passHour k 26 [.ref c, .int v1, .int (v2 + 1)] [] σ
      else
        (C nS_walksFar k [.ref c, .int v2] σ).bind fun r1 =>
          (C nS_goOn k [.ref c, .int v2, .int r1.1] r1.2.2).bind fun r2 =>
            if inb v2 6 = true then
              if inb v2 6 = true then
                R nS_passHour k 26 [.ref c, .int v1, .int (v2 + 1)] [] (su r2.2.2 (c + 5) v2.toNatClampNeg (minI 99 ((r2.2.2 (c + 5) v2.toNatClampNeg) + 1)))
              else
                none
            else
              none
    else
      none
  else
    some (v1, 0, (su σ c 7 ((σ c 7) + 1))) := by rcases hc with rfl | rfl | rfl <;> exact (unr_R [26] nS_passHour k 400 26 _ _ _).trans rfl
-- X2_fetch
theorem eS_fetch (k : Nat)  (c : Nat) (hc : c = 12 ∨ c = 18 ∨ c = 24) (p1 : Int32) (σ : Sto) : C nS_fetch k [.ref c, .int p1] σ =
  if p1 = (-1) then
    some (0, 0, σ)
  else
    if inb p1 6 = true then
      if inb p1 6 = true then
        some (0, 0, (su (su (su (su σ c 8 (1 + ((absI ((2 * (σ (c + 3) p1.toNatClampNeg)) - 63)) / 20))) (c + 3) p1.toNatClampNeg (-1)) c 9 p1) c 10 (minI 9999 (((su (su (su σ c 8 (1 + ((absI ((2 * (σ (c + 3) p1.toNatClampNeg)) - 63)) / 20))) (c + 3) p1.toNatClampNeg (-1)) c 9 p1) c 10) + 1))))
      else
        none
    else
      none := by rcases hc with rfl | rfl | rfl <;> exact (unr_R [] nS_fetch k 400 0 _ _ _).trans rfl
-- X2_aloneBits
theorem eS_aloneBits (k : Nat)  (c : Nat) (hc : c = 12 ∨ c = 18 ∨ c = 24) (σ : Sto) : C nS_aloneBits k [.ref c] σ =
  R nS_aloneBits k 4 [.ref c, .int 0, .int 0] [] σ := by rcases hc with rfl | rfl | rfl <;> exact (unr_R [4] nS_aloneBits k 400 0 _ _ _).trans rfl
theorem eS_aloneBits_4 (k : Nat)  (c : Nat) (hc : c = 12 ∨ c = 18 ∨ c = 24) (v1 : Int32) (v2 : Int32) (σ : Sto) : R nS_aloneBits k 4 [.ref c, .int v1, .int v2] [] σ =
  if v2 < (σ c 6) then
    (C nS_isAlone k [.ref c, .int v2] σ).bind fun r1 =>
      if r1.1 = 0 then
        R nS_aloneBits k 4 [.ref c, .int v1, .int (v2 + 1)] [] r1.2.2
      else
        R nS_aloneBits k 4 [.ref c, .int (v1 ||| (1 <<< (v2 &&& 31))), .int (v2 + 1)] [] r1.2.2
  else
    some (v1, 0, σ) := by rcases hc with rfl | rfl | rfl <;> exact (unr_R [4] nS_aloneBits k 400 4 _ _ _).trans rfl
-- X2_seenBits
theorem eS_seenBits (k : Nat)  (c : Nat) (hc : c = 12 ∨ c = 18 ∨ c = 24) (σ : Sto) : C nS_seenBits k [.ref c] σ =
  R nS_seenBits k 4 [.ref c, .int 0, .int 0] [] σ := by rcases hc with rfl | rfl | rfl <;> exact (unr_R [4] nS_seenBits k 400 0 _ _ _).trans rfl
theorem eS_seenBits_4 (k : Nat)  (c : Nat) (hc : c = 12 ∨ c = 18 ∨ c = 24) (v1 : Int32) (v2 : Int32) (σ : Sto) : R nS_seenBits k 4 [.ref c, .int v1, .int v2] [] σ =
  if v2 < (σ c 6) then
    (C nS_isSeen k [.ref c, .int v2] σ).bind fun r1 =>
      if r1.1 = 0 then
        R nS_seenBits k 4 [.ref c, .int v1, .int (v2 + 1)] [] r1.2.2
      else
        R nS_seenBits k 4 [.ref c, .int (v1 ||| (1 <<< (v2 &&& 31))), .int (v2 + 1)] [] r1.2.2
  else
    some (v1, 0, σ) := by rcases hc with rfl | rfl | rfl <;> exact (unr_R [4] nS_seenBits k 400 4 _ _ _).trans rfl
-- X2_overBits
theorem eS_overBits (k : Nat)  (c : Nat) (hc : c = 12 ∨ c = 18 ∨ c = 24) (σ : Sto) : C nS_overBits k [.ref c] σ =
  R nS_overBits k 4 [.ref c, .int 0, .int 0] [] σ := by rcases hc with rfl | rfl | rfl <;> exact (unr_R [4] nS_overBits k 400 0 _ _ _).trans rfl
theorem eS_overBits_4 (k : Nat)  (c : Nat) (hc : c = 12 ∨ c = 18 ∨ c = 24) (v1 : Int32) (v2 : Int32) (σ : Sto) : R nS_overBits k 4 [.ref c, .int v1, .int v2] [] σ =
  if v2 < (σ c 6) then
    (C nS_isOver k [.ref c, .int v2] σ).bind fun r1 =>
      if r1.1 = 0 then
        R nS_overBits k 4 [.ref c, .int v1, .int (v2 + 1)] [] r1.2.2
      else
        R nS_overBits k 4 [.ref c, .int (v1 ||| (1 <<< (v2 &&& 31))), .int (v2 + 1)] [] r1.2.2
  else
    some (v1, 0, σ) := by rcases hc with rfl | rfl | rfl <;> exact (unr_R [4] nS_overBits k 400 4 _ _ _).trans rfl
-- X2_valueOf
set_option maxRecDepth 1000000 in
theorem eS_valueOf (k : Nat)  (c : Nat) (hc : c = 12 ∨ c = 18 ∨ c = 24) (p1 : Int32) (p2 : Int32) (σ : Sto) : C nS_valueOf k [.ref c, .int p1, .int p2] σ =
  if p1 = (-6) then
    if inb p2 6 = true then
      some ((σ (c + 2) p2.toNatClampNeg), 0, σ)
    else
      none
  else
    if p1 = (-5) then
      some ((σ c 10), 0, σ)
    else
      if p1 = (-4) then
        R nS_valueOf k 35 [.ref c, .int p1, .int p2, .int 0, .int 0] [] σ
      else
        if p1 = (-3) then
          some ((σ c 7), 0, σ)
        else
          if p1 = (-2) then
            if inb p2 6 = true then
              some ((σ (c + 5) p2.toNatClampNeg), 0, σ)
            else
              none
          else
            if p1 = (-1) then
              if inb p2 6 = true then
                if (σ (c + 3) p2.toNatClampNeg) = (-1) then
                  some (0, 0, σ)
                else
                  if inb p2 6 = true then
                    some ((σ (c + 3) p2.toNatClampNeg), 0, σ)
                  else
                    none
              else
                none
            else
              R nS_valueOf k 35 [.ref c, .int p1, .int p2, .int 0, .int 0] [] σ := by rcases hc with rfl | rfl | rfl <;> exact (unr_R [35] nS_valueOf k 400 0 _ _ _).trans rfl
theorem eS_valueOf_35 (k : Nat)  (c : Nat) (hc : c = 12 ∨ c = 18 ∨ c = 24) (v1 : Int32) (v2 : Int32) (v3 : Int32) (v4 : Int32) (σ : Sto) : R nS_valueOf k 35 [.ref c, .int v1, .int v2, .int v3, .int v4] [] σ =
  if v4 < (σ c 6) then
    if inb v4 6 = true then
      if (σ (c + 3) v4.toNatClampNeg) = (-1) then
        R nS_valueOf k 35 [.ref c, .int v1, .int v2, .int v3, .int (v4 + 1)] [] σ
      else
        if inb v4 6 = true then
          if (σ (c + 4) v4.toNatClampNeg) = 0 then
            R nS_valueOf k 35 [.ref c, .int v1, .int v2, .int (v3 + 1), .int (v4 + 1)] [] σ
          else
            R nS_valueOf k 35 [.ref c, .int v1, .int v2, .int v3, .int (v4 + 1)] [] σ
        else
          none
    else
      none
  else
    some (v3, 0, σ) := by rcases hc with rfl | rfl | rfl <;> exact (unr_R [35] nS_valueOf k 400 35 _ _ _).trans rfl
-- X3_addFirstLaw
theorem eT_addFirstLaw (k : Nat) (σ : Sto) : C nT_addFirstLaw k [.ref 2] σ =
  R nT_addFirstLaw k 17 [.ref 2, .int 0] [] (su (su (su σ 3 (0 : Int32).toNatClampNeg 5) 3 (1 : Int32).toNatClampNeg (-2)) 3 (2 : Int32).toNatClampNeg 0) := (unr_R [17] nT_addFirstLaw k 400 0 _ _ _).trans rfl
theorem eT_addFirstLaw_17 (k : Nat) (v1 : Int32) (σ : Sto) : R nT_addFirstLaw k 17 [.ref 2, .int v1] [] σ =
  if v1 < 3 then
    if inb v1 18 = true then
      if inb v1 18 = true then
        R nT_addFirstLaw k 17 [.ref 2, .int (v1 + 1)] [] (su (su σ 4 v1.toNatClampNeg v1) 5 v1.toNatClampNeg (v1 + 1))
      else
        none
    else
      none
  else
    some (0, 0, (su σ 2 4 1)) := (unr_R [17] nT_addFirstLaw k 400 17 _ _ _).trans rfl
-- X3_says
theorem eT_says (k : Nat)  (c : Nat) (hc : c = 12 ∨ c = 18 ∨ c = 24) (p1 : Int32) (p3 : Int32) (σ : Sto) : C nT_says k [.ref 2, .int p1, .ref c, .int p3] σ =
  if inb (((σ c 11) * 3) + p1) 18 = true then
    R nT_says k 14 [.ref 2, .int p1, .ref c, .int p3, .int (((σ c 11) * 3) + p1), .int (-1), .int (σ 4 (((σ c 11) * 3) + p1).toNatClampNeg), .null] [] σ
  else
    none := by rcases hc with rfl | rfl | rfl <;> exact (unr_R [14, 20, 28, 47, 77, 99] nT_says k 400 0 _ _ _).trans rfl
theorem eT_says_14 (k : Nat)  (c : Nat) (hc : c = 12 ∨ c = 18 ∨ c = 24) (v1 : Int32) (v3 : Int32) (v4 : Int32) (v5 : Int32) (v6 : Int32) (u7 : Value) (σ : Sto) : R nT_says k 14 [.ref 2, .int v1, .ref c, .int v3, .int v4, .int v5, .int v6, u7] [] σ =
  if inb v4 18 = true then
    if v6 < (σ 5 v4.toNatClampNeg) then
      R nT_says k 20 [.ref 2, .int v1, .ref c, .int v3, .int v4, .int v5, .int v6, u7] [] σ
    else
      R nT_says k 99 [.ref 2, .int v1, .ref c, .int v3, .int v4, .int v5, .int v6, u7] [] σ
  else
    none := by rcases hc with rfl | rfl | rfl <;> exact (unr_R [14, 20, 28, 47, 77, 99] nT_says k 400 14 _ _ _).trans rfl
theorem eT_says_20 (k : Nat)  (c : Nat) (hc : c = 12 ∨ c = 18 ∨ c = 24) (v1 : Int32) (v3 : Int32) (v4 : Int32) (v5 : Int32) (v6 : Int32) (u7 : Value) (σ : Sto) : R nT_says k 20 [.ref 2, .int v1, .ref c, .int v3, .int v4, .int v5, .int v6, u7] [] σ =
  if inb v6 960 = true then
    if (σ 3 v6.toNatClampNeg) < (-6) then
      R nT_says k 47 [.ref 2, .int v1, .ref c, .int v3, .int v4, .int v5, .int v6, .int (σ 3 v6.toNatClampNeg)] [] σ
    else
      R nT_says k 28 [.ref 2, .int v1, .ref c, .int v3, .int v4, .int v5, .int v6, .int (σ 3 v6.toNatClampNeg)] [] σ
  else
    none := by rcases hc with rfl | rfl | rfl <;> exact (unr_R [14, 20, 28, 47, 77, 99] nT_says k 400 20 _ _ _).trans rfl
theorem eT_says_28 (k : Nat)  (c : Nat) (hc : c = 12 ∨ c = 18 ∨ c = 24) (v1 : Int32) (v3 : Int32) (v4 : Int32) (v5 : Int32) (v6 : Int32) (v7 : Int32) (σ : Sto) : R nT_says k 28 [.ref 2, .int v1, .ref c, .int v3, .int v4, .int v5, .int v6, .int v7] [] σ =
  if (v5 + 1) < 160 then
    if v7 < 0 then
      (C nS_valueOf k [.ref c, .int v7, .int v3] σ).bind fun r1 =>
        if inb (v5 + 1) 160 = true then
          R nT_says k 14 [.ref 2, .int v1, .ref c, .int v3, .int v4, .int (v5 + 1), .int (v6 + 1), .int v7] [] (su r1.2.2 6 (v5 + 1).toNatClampNeg r1.1)
        else
          none
    else
      if inb (v5 + 1) 160 = true then
        R nT_says k 14 [.ref 2, .int v1, .ref c, .int v3, .int v4, .int (v5 + 1), .int (v6 + 1), .int v7] [] (su σ 6 (v5 + 1).toNatClampNeg v7)
      else
        none
  else
    some (0, 0, σ) := by rcases hc with rfl | rfl | rfl <;> exact (unr_R [14, 20, 28, 47, 77, 99] nT_says k 400 28 _ _ _).trans rfl
theorem eT_says_47 (k : Nat)  (c : Nat) (hc : c = 12 ∨ c = 18 ∨ c = 24) (v1 : Int32) (v3 : Int32) (v4 : Int32) (v5 : Int32) (v6 : Int32) (v7 : Int32) (σ : Sto) : R nT_says k 47 [.ref 2, .int v1, .ref c, .int v3, .int v4, .int v5, .int v6, .int v7] [] σ =
  if v7 < (-8) then
    R nT_says k 77 [.ref 2, .int v1, .ref c, .int v3, .int v4, .int (v5 + (-1)), .int v6, .int v7] [] σ
  else
    if v5 < 0 then
      some (0, 0, σ)
    else
      if v7 = (-7) then
        if inb v5 160 = true then
          if inb v5 160 = true then
            R nT_says k 14 [.ref 2, .int v1, .ref c, .int v3, .int v4, .int v5, .int (v6 + 1), .int v7] [] (su σ 6 v5.toNatClampNeg (-(σ 6 v5.toNatClampNeg)))
          else
            none
        else
          none
      else
        if inb v5 160 = true then
          if (σ 6 v5.toNatClampNeg) = 0 then
            if inb v5 160 = true then
              R nT_says k 14 [.ref 2, .int v1, .ref c, .int v3, .int v4, .int v5, .int (v6 + 1), .int v7] [] (su σ 6 v5.toNatClampNeg 1)
            else
              none
          else
            if inb v5 160 = true then
              R nT_says k 14 [.ref 2, .int v1, .ref c, .int v3, .int v4, .int v5, .int (v6 + 1), .int v7] [] (su σ 6 v5.toNatClampNeg 0)
            else
              none
        else
          none := by rcases hc with rfl | rfl | rfl <;> exact (unr_R [14, 20, 28, 47, 77, 99] nT_says k 400 47 _ _ _).trans rfl
theorem eT_says_77 (k : Nat)  (c : Nat) (hc : c = 12 ∨ c = 18 ∨ c = 24) (v1 : Int32) (v3 : Int32) (v4 : Int32) (v5 : Int32) (v6 : Int32) (v7 : Int32) (σ : Sto) : R nT_says k 77 [.ref 2, .int v1, .ref c, .int v3, .int v4, .int v5, .int v6, .int v7] [] σ =
  if v5 < 0 then
    some (0, 0, σ)
  else
    if inb v5 160 = true then
      if inb (v5 + 1) 160 = true then
        (C nT_joined k [.int v7, .int (σ 6 v5.toNatClampNeg), .int (σ 6 (v5 + 1).toNatClampNeg)] σ).bind fun r1 =>
          if inb v5 160 = true then
            R nT_says k 14 [.ref 2, .int v1, .ref c, .int v3, .int v4, .int v5, .int (v6 + 1), .int v7] [] (su r1.2.2 6 v5.toNatClampNeg r1.1)
          else
            none
      else
        none
    else
      none := by rcases hc with rfl | rfl | rfl <;> exact (unr_R [14, 20, 28, 47, 77, 99] nT_says k 400 77 _ _ _).trans rfl
theorem eT_says_99 (k : Nat)  (c : Nat) (hc : c = 12 ∨ c = 18 ∨ c = 24) (v1 : Int32) (v3 : Int32) (v4 : Int32) (v5 : Int32) (v6 : Int32) (u7 : Value) (σ : Sto) : R nT_says k 99 [.ref 2, .int v1, .ref c, .int v3, .int v4, .int v5, .int v6, u7] [] σ =
  if v5 < 0 then
    if v1 = 0 then
      some ((maxI 0 (minI 99 0)), 0, σ)
    else
      some ((maxI (-99) (minI 99 0)), 0, σ)
  else
    if inb v5 160 = true then
      if v1 = 0 then
        some ((maxI 0 (minI 99 (σ 6 v5.toNatClampNeg))), 0, σ)
      else
        some ((maxI (-99) (minI 99 (σ 6 v5.toNatClampNeg))), 0, σ)
    else
      none := by rcases hc with rfl | rfl | rfl <;> exact (unr_R [14, 20, 28, 47, 77, 99] nT_says k 400 99 _ _ _).trans rfl
-- X3_joined
set_option maxRecDepth 1000000 in
theorem eT_joined (k : Nat) (p1 : Int32) (p2 : Int32) (p3 : Int32) (σ : Sto) : C nT_joined k [.int p1, .int p2, .int p3] σ =
  if p1 = (-15) then
    some ((p2 * p3), 0, σ)
  else
    if p1 = (-14) then
      some ((p2 - p3), 0, σ)
    else
      if p1 = (-13) then
        some ((p2 + p3), 0, σ)
      else
        if p1 = (-12) then
          if p2 = p3 then
            some (1, 0, σ)
          else
            some (0, 0, σ)
        else
          if p1 = (-11) then
            if p2 < p3 then
              some (1, 0, σ)
            else
              some (0, 0, σ)
          else
            if p1 = (-10) then
              if p2 = 0 then
                some (0, 0, σ)
              else
                if p3 = 0 then
                  some (0, 0, σ)
                else
                  some (1, 0, σ)
            else
              if p1 = (-9) then
                if p2 = 0 then
                  if p3 = 0 then
                    some (0, 0, σ)
                  else
                    some (1, 0, σ)
                else
                  some (1, 0, σ)
              else
                some (0, 0, σ) := (unr_R [] nT_joined k 400 0 _ _ _).trans rfl
end
section
/-! EQUATIONS of the methods 54 .. 103 -/
-- X4_count
theorem eF_count (k : Nat) (p1 : Int32) (σ : Sto) : C nF_count k [.ref 0, .int p1] σ =
  if p1 = 0 then
    some ((σ 12 6), 0, σ)
  else
    if p1 = 1 then
      some ((σ 12 7), 0, σ)
    else
      if p1 = 2 then
        some ((σ 12 10), 0, σ)
      else
        if p1 = 3 then
          some ((σ 2 4), 0, σ)
        else
          if p1 = 4 then
            some ((σ 12 11), 0, σ)
          else
            if p1 = 5 then
              some ((σ 0 7), 0, σ)
            else
              some ((-2), 0, σ) := (unr_R [] nF_count k 400 0 _ _ _).trans rfl
-- X4_bay
theorem eF_bay (k : Nat) (p1 : Int32) (p2 : Int32) (σ : Sto) : C nF_bay k [.ref 0, .int p1, .int p2] σ =
  if p1 = 0 then
    (C nF_within k [.int p2, .int 0, .int 9999] σ).bind fun r1 =>
      if r1.1 = 0 then
        if p1 = 1 then
          (C nF_within k [.int p2, .int 0, .int 99] r1.2.2).bind fun r2 =>
            if r2.1 = 0 then
              some ((-2), 0, r2.2.2)
            else
              some ((r2.2.2 12 8), 0, (su r2.2.2 12 8 p2))
        else
          some ((-2), 0, r1.2.2)
      else
        some ((r1.2.2 12 7), 0, (su r1.2.2 12 7 p2))
  else
    if p1 = 1 then
      (C nF_within k [.int p2, .int 0, .int 99] σ).bind fun r1 =>
        if r1.1 = 0 then
          some ((-2), 0, r1.2.2)
        else
          some ((r1.2.2 12 8), 0, (su r1.2.2 12 8 p2))
    else
      some ((-2), 0, σ) := (unr_R [] nF_bay k 400 0 _ _ _).trans rfl
-- X4_ferry
theorem eF_ferry (k : Nat) (p1 : Int32) (σ : Sto) : C nF_ferry k [.ref 0, .int p1] σ =
  if p1 = 0 then
    some ((σ 12 8), 0, σ)
  else
    if p1 = 1 then
      some ((σ 12 9), 0, σ)
    else
      if p1 = 2 then
        (C nS_choice k [.ref 12] σ).bind fun r1 =>
          some (r1.1, 0, r1.2.2)
      else
        if p1 = 3 then
          (C nS_aloneBits k [.ref 12] σ).bind fun r1 =>
            some (r1.1, 0, r1.2.2)
        else
          if p1 = 4 then
            (C nS_seenBits k [.ref 12] σ).bind fun r1 =>
              some (r1.1, 0, r1.2.2)
          else
            if p1 = 5 then
              (C nS_overBits k [.ref 12] σ).bind fun r1 =>
                some (r1.1, 0, r1.2.2)
            else
              some ((-7), 0, σ) := (unr_R [] nF_ferry k 400 0 _ _ _).trans rfl
-- X4_feed
set_option maxRecDepth 1000000 in
theorem eF_feed (k : Nat) (p1 : Int32) (p2 : Int32) (p3 : Int32) (p4 : Int32) (p5 : Int32) (p6 : Int32) (σ : Sto) : C nF_feed k [.ref 0, .int p1, .int p2, .int p3, .int p4, .int p5, .int p6] σ =
  (C nF_within k [.int p1, .int 1, .int 5] σ).bind fun r1 =>
    if r1.1 = 0 then
      some ((-2), 0, r1.2.2)
    else
      (C nF_isByte k [.int p2] r1.2.2).bind fun r2 =>
        if r2.1 = 0 then
          some ((-2), 0, r2.2.2)
        else
          (C nF_isByte k [.int p3] r2.2.2).bind fun r3 =>
            if r3.1 = 0 then
              some ((-2), 0, r3.2.2)
            else
              (C nF_isByte k [.int p4] r3.2.2).bind fun r4 =>
                if r4.1 = 0 then
                  some ((-2), 0, r4.2.2)
                else
                  (C nF_isByte k [.int p5] r4.2.2).bind fun r5 =>
                    if r5.1 = 0 then
                      some ((-2), 0, r5.2.2)
                    else
                      (C nF_isByte k [.int p6] r5.2.2).bind fun r6 =>
                        if r6.1 = 0 then
                          some ((-2), 0, r6.2.2)
                        else
                          if (160 - (r6.2.2 0 7)) < p1 then
                            some ((-4), 0, r6.2.2)
                          else
                            (C nF_tapeOne k [.ref 0, .int p2] r6.2.2).bind fun r7 =>
                              if 1 < p1 then
                                (C nF_tapeOne k [.ref 0, .int p3] r7.2.2).bind fun r8 =>
                                  R nF_feed k 39 [.ref 0, .int p1, .int p2, .int p3, .int p4, .int p5, .int p6] [] r8.2.2
                              else
                                R nF_feed k 39 [.ref 0, .int p1, .int p2, .int p3, .int p4, .int p5, .int p6] [] r7.2.2 := (unr_R [39] nF_feed k 400 0 _ _ _).trans rfl
theorem eF_feed_39 (k : Nat) (v1 : Int32) (v2 : Int32) (v3 : Int32) (v4 : Int32) (v5 : Int32) (v6 : Int32) (σ : Sto) : R nF_feed k 39 [.ref 0, .int v1, .int v2, .int v3, .int v4, .int v5, .int v6] [] σ =
  if 2 < v1 then
    (C nF_tapeOne k [.ref 0, .int v4] σ).bind fun r1 =>
      if 3 < v1 then
        (C nF_tapeOne k [.ref 0, .int v5] r1.2.2).bind fun r2 =>
          if 4 < v1 then
            (C nF_tapeOne k [.ref 0, .int v6] r2.2.2).bind fun r3 =>
              some ((r3.2.2 0 7), 0, r3.2.2)
          else
            some ((r2.2.2 0 7), 0, r2.2.2)
      else
        if 4 < v1 then
          (C nF_tapeOne k [.ref 0, .int v6] r1.2.2).bind fun r2 =>
            some ((r2.2.2 0 7), 0, r2.2.2)
        else
          some ((r1.2.2 0 7), 0, r1.2.2)
  else
    if 3 < v1 then
      (C nF_tapeOne k [.ref 0, .int v5] σ).bind fun r1 =>
        if 4 < v1 then
          (C nF_tapeOne k [.ref 0, .int v6] r1.2.2).bind fun r2 =>
            some ((r2.2.2 0 7), 0, r2.2.2)
        else
          some ((r1.2.2 0 7), 0, r1.2.2)
    else
      if 4 < v1 then
        (C nF_tapeOne k [.ref 0, .int v6] σ).bind fun r1 =>
          some ((r1.2.2 0 7), 0, r1.2.2)
      else
        some ((σ 0 7), 0, σ) := (unr_R [39] nF_feed k 400 39 _ _ _).trans rfl
-- X4_text
theorem eF_text (k : Nat) (σ : Sto) : C nF_text k [.ref 0] σ =
  if (σ 2 4) < 6 then
    (C nD_faultOf k [.ref 7, .int (σ 0 7)] σ).bind fun r1 =>
      if r1.1 = (-1) then
        some ((((su (su r1.2.2 0 7 0) 2 4 (((su r1.2.2 0 7 0) 2 4) + 1)) 2 4) - 1), 0, (su (su r1.2.2 0 7 0) 2 4 (((su r1.2.2 0 7 0) 2 4) + 1)))
      else
        some (((-100) - r1.1), 0, (su r1.2.2 0 7 0))
  else
    some ((-4), 0, σ) := (unr_R [] nF_text k 400 0 _ _ _).trans rfl
-- X4_force
theorem eF_force (k : Nat) (p1 : Int32) (σ : Sto) : C nF_force k [.ref 0, .int p1] σ =
  (C nF_within k [.int p1, .int 0, .int ((σ 2 4) - 1)] σ).bind fun r1 =>
    if r1.1 = 0 then
      some ((-2), 0, r1.2.2)
    else
      some ((r1.2.2 12 11), 0, (su r1.2.2 12 11 p1)) := (unr_R [] nF_force k 400 0 _ _ _).trans rfl
-- X4_asks
theorem eF_asks (k : Nat) (p1 : Int32) (p2 : Int32) (σ : Sto) : C nF_asks k [.ref 0, .int p1, .int p2] σ =
  (C nF_within k [.int p1, .int 0, .int 2] σ).bind fun r1 =>
    if r1.1 = 0 then
      some ((-1000), 0, r1.2.2)
    else
      (C nS_has k [.ref 12, .long (Int32.toInt64 p2)] r1.2.2).bind fun r2 =>
        if r2.1 = 0 then
          some ((-1000), 0, r2.2.2)
        else
          (C nT_says k [.ref 2, .int p1, .ref 12, .int p2] r2.2.2).bind fun r3 =>
            some (r3.1, 0, r3.2.2) := (unr_R [] nF_asks k 400 0 _ _ _).trans rfl
-- X4_traveller
theorem eF_traveller (k : Nat) (p1 : Int32) (p2 : Int32) (σ : Sto) : C nF_traveller k [.ref 0, .int p1, .int p2] σ =
  (C nS_welcome k [.ref 12, .int p1, .int p2] σ).bind fun r1 =>
    some (r1.1, 0, r1.2.2) := (unr_R [] nF_traveller k 400 0 _ _ _).trans rfl
-- X4_put
theorem eF_put (k : Nat) (p1 : Int32) (p2 : Int32) (p3 : Int32) (σ : Sto) : C nF_put k [.ref 0, .int p1, .int p2, .int p3] σ =
  (C nS_has k [.ref 12, .long (Int32.toInt64 p1)] σ).bind fun r1 =>
    if r1.1 = 0 then
      some ((-5), 0, r1.2.2)
    else
      if p2 = 0 then
        if (r1.2.2 12 9) = p1 then
          R nF_put k 35 [.ref 0, .int p1, .int p2, .int p3, .int (-7)] [] r1.2.2
        else
          (C nF_within k [.int p3, .int (-1), .int 63] r1.2.2).bind fun r2 =>
            if r2.1 = 0 then
              R nF_put k 35 [.ref 0, .int p1, .int p2, .int p3, .int (-7)] [] r2.2.2
            else
              if inb p1 6 = true then
                if inb p1 6 = true then
                  some ((r2.2.2 15 p1.toNatClampNeg), 0, (su r2.2.2 15 p1.toNatClampNeg p3))
                else
                  none
              else
                none
      else
        R nF_put k 35 [.ref 0, .int p1, .int p2, .int p3, .int (-7)] [] r1.2.2 := (unr_R [35, 62] nF_put k 400 0 _ _ _).trans rfl
theorem eF_put_35 (k : Nat) (v1 : Int32) (v2 : Int32) (v3 : Int32) (v4 : Int32) (σ : Sto) : R nF_put k 35 [.ref 0, .int v1, .int v2, .int v3, .int v4] [] σ =
  if v2 = 1 then
    (C nF_within k [.int v3, .int 0, .int 1] σ).bind fun r1 =>
      if r1.1 = 0 then
        R nF_put k 62 [.ref 0, .int v1, .int v2, .int v3, .int v4] [] r1.2.2
      else
        if inb v1 6 = true then
          (C nF_bit k [.int (r1.2.2 16 v1.toNatClampNeg)] r1.2.2).bind fun r2 =>
            if v3 = 1 then
              if inb v1 6 = true ∧ zb 1 = true then
                some (r2.1, 0, (su r2.2.2 16 v1.toNatClampNeg 1))
              else
                none
            else
              if inb v1 6 = true ∧ zb 0 = true then
                some (r2.1, 0, (su r2.2.2 16 v1.toNatClampNeg 0))
              else
                none
        else
          none
  else
    R nF_put k 62 [.ref 0, .int v1, .int v2, .int v3, .int v4] [] σ := (unr_R [35, 62] nF_put k 400 35 _ _ _).trans rfl
theorem eF_put_62 (k : Nat) (v1 : Int32) (v2 : Int32) (v3 : Int32) (v4 : Int32) (σ : Sto) : R nF_put k 62 [.ref 0, .int v1, .int v2, .int v3, .int v4] [] σ =
  if v2 = 2 then
    (C nF_within k [.int v3, .int 0, .int 99] σ).bind fun r1 =>
      if r1.1 = 0 then
        some (v4, 0, r1.2.2)
      else
        if inb v1 6 = true then
          if inb v1 6 = true then
            some ((r1.2.2 17 v1.toNatClampNeg), 0, (su r1.2.2 17 v1.toNatClampNeg v3))
          else
            none
        else
          none
  else
    some (v4, 0, σ) := (unr_R [35, 62] nF_put k 400 62 _ _ _).trans rfl
-- X4_told
set_option maxRecDepth 1000000 in
theorem eF_told (k : Nat) (p1 : Int32) (p2 : Int32) (σ : Sto) : C nF_told k [.ref 0, .int p1, .int p2] σ =
  (C nS_has k [.ref 12, .long (Int32.toInt64 p1)] σ).bind fun r1 =>
    if r1.1 = 0 then
      some ((-5), 0, r1.2.2)
    else
      if p2 = 0 then
        if inb p1 6 = true then
          some ((r1.2.2 15 p1.toNatClampNeg), 0, r1.2.2)
        else
          none
      else
        if p2 = 1 then
          if inb p1 6 = true then
            (C nF_bit k [.int (r1.2.2 16 p1.toNatClampNeg)] r1.2.2).bind fun r2 =>
              some (r2.1, 0, r2.2.2)
          else
            none
        else
          if p2 = 2 then
            if inb p1 6 = true then
              some ((r1.2.2 17 p1.toNatClampNeg), 0, r1.2.2)
            else
              none
          else
            if p2 = 3 then
              if inb p1 6 = true then
                some ((r1.2.2 13 p1.toNatClampNeg), 0, r1.2.2)
              else
                none
            else
              if p2 = 4 then
                if inb p1 6 = true then
                  some ((r1.2.2 14 p1.toNatClampNeg), 0, r1.2.2)
                else
                  none
              else
                if p2 = 5 then
                  (C nS_gapAbout k [.ref 12, .int p1] r1.2.2).bind fun r2 =>
                    some (r2.1, 0, r2.2.2)
                else
                  if p2 = 6 then
                    (C nS_likedHow k [.ref 12, .int p1] r1.2.2).bind fun r2 =>
                      some ((r2.1 + 1000), 0, r2.2.2)
                  else
                    if p2 = 7 then
                      (C nS_walksFar k [.ref 12, .int p1] r1.2.2).bind fun r2 =>
                        some ((r2.1 + 1000), 0, r2.2.2)
                    else
                      if p2 = 8 then
                        (C nS_isAlone k [.ref 12, .int p1] r1.2.2).bind fun r2 =>
                          (C nF_bit k [.int r2.1] r2.2.2).bind fun r3 =>
                            some (r3.1, 0, r3.2.2)
                      else
                        if p2 = 9 then
                          (C nS_farFrom k [.ref 12, .int p1] r1.2.2).bind fun r2 =>
                            some (r2.1, 0, r2.2.2)
                        else
                          some ((-7), 0, r1.2.2) := (unr_R [] nF_told k 400 0 _ _ _).trans rfl
-- X4_hour
theorem eF_hour (k : Nat) (σ : Sto) : C nF_hour k [.ref 0] σ =
  if (σ 12 7) < 9999 then
    (C nS_passHour k [.ref 12] σ).bind fun r1 =>
      some (r1.1, 0, r1.2.2)
  else
    some ((-3), 0, σ) := (unr_R [] nF_hour k 400 0 _ _ _).trans rfl
-- X4_walk
theorem eF_walk (k : Nat) (p1 : Int32) (p2 : Int32) (σ : Sto) : C nF_walk k [.ref 0, .int p1, .int p2] σ =
  (C nS_has k [.ref 12, .long (Int32.toInt64 p1)] σ).bind fun r1 =>
    if r1.1 = 0 then
      some ((-5), 0, r1.2.2)
    else
      (C nF_within k [.int p2, .int (-63), .int 63] r1.2.2).bind fun r2 =>
        if r2.1 = 0 then
          some ((-7), 0, r2.2.2)
        else
          if inb p1 6 = true then
            if (r2.2.2 15 p1.toNatClampNeg) = (-1) then
              some ((-3), 0, r2.2.2)
            else
              (C nS_goOn k [.ref 12, .int p1, .int p2] r2.2.2).bind fun r3 =>
                if inb p1 6 = true then
                  some ((r3.2.2 15 p1.toNatClampNeg), 0, r3.2.2)
                else
                  none
          else
            none := (unr_R [] nF_walk k 400 0 _ _ _).trans rfl
-- X4_run
theorem eF_run (k : Nat) (p1 : Int32) (p2 : Int32) (σ : Sto) : C nF_run k [.ref 0, .int p1, .int p2] σ =
  (C nF_within k [.int p2, .int 0, .int 2] σ).bind fun r1 =>
    (C nS_has k [.ref 12, .long ((Int32.toInt64 p2) - 10)] r1.2.2).bind fun r2 =>
      (C nS_has k [.ref 12, .long ((Int32.toInt64 p2) - 20)] r2.2.2).bind fun r3 =>
        (C nF_within k [.int p1, .int 0, .int 60] r3.2.2).bind fun r4 =>
          if r4.1 = 0 then
            some ((-2), 0, r4.2.2)
          else
            if r1.1 = 0 then
              if r2.1 = 0 then
                if r3.1 = 0 then
                  some ((-2), 0, r4.2.2)
                else
                  (C nS_becomes k [.ref 18, .ref 12] r4.2.2).bind fun r5 =>
                    R nF_run k 45 [.ref 0, .int p1, .int p2, .int r1.1, .int r2.1, .int r3.1, .int 0, .int 0, .int 0, .null] [] r5.2.2
              else
                (C nS_becomes k [.ref 18, .ref 12] r4.2.2).bind fun r5 =>
                  R nF_run k 45 [.ref 0, .int p1, .int p2, .int r1.1, .int r2.1, .int r3.1, .int 0, .int 0, .int 0, .null] [] r5.2.2
            else
              (C nS_becomes k [.ref 18, .ref 12] r4.2.2).bind fun r5 =>
                R nF_run k 45 [.ref 0, .int p1, .int p2, .int r1.1, .int r2.1, .int r3.1, .int 0, .int 0, .int 0, .null] [] r5.2.2 := (unr_R [45] nF_run k 400 0 _ _ _).trans rfl
theorem eF_run_45 (k : Nat) (v1 : Int32) (v2 : Int32) (v3 : Int32) (v4 : Int32) (v5 : Int32) (v6 : Int32) (v7 : Int32) (v8 : Int32) (u9 : Value) (σ : Sto) : R nF_run k 45 [.ref 0, .int v1, .int v2, .int v3, .int v4, .int v5, .int v6, .int v7, .int v8, u9] [] σ =
  if v8 < v1 then
    (C nS_passHour k [.ref 18] σ).bind fun r1 =>
      if r1.1 = (-1) then
        R nF_run k 45 [.ref 0, .int v1, .int v2, .int v3, .int v4, .int v5, .int v6, .int v7, .int (v8 + 1), .int r1.1] [] r1.2.2
      else
        R nF_run k 45 [.ref 0, .int v1, .int v2, .int v3, .int v4, .int v5, .int (v6 + 1), .int (((v7 * 10) + r1.1) + 1), .int (v8 + 1), .int r1.1] [] r1.2.2
  else
    if v4 = 0 then
      if v5 = 0 then
        if v2 = 0 then
          some (v6, 0, σ)
        else
          if v2 = 1 then
            some (v7, 0, σ)
          else
            (C nS_overBits k [.ref 18] σ).bind fun r1 =>
              some (r1.1, 0, r1.2.2)
      else
        if inb (v2 - 20) 6 = true then
          some ((σ 23 (v2 - 20).toNatClampNeg), 0, σ)
        else
          none
    else
      if inb (v2 - 10) 6 = true then
        some ((σ 21 (v2 - 10).toNatClampNeg), 0, σ)
      else
        none := (unr_R [45] nF_run k 400 45 _ _ _).trans rfl
-- X4_when
theorem eF_when (k : Nat) (p1 : Int32) (p2 : Int32) (σ : Sto) : C nF_when k [.ref 0, .int p1, .int p2] σ =
  (C nF_within k [.int p2, .int 0, .int 2] σ).bind fun r1 =>
    if r1.1 = 0 then
      some ((-7), 0, r1.2.2)
    else
      if p2 = 2 then
        (C nS_becomes k [.ref 18, .ref 12] r1.2.2).bind fun r2 =>
          R nF_when k 25 [.ref 0, .int p1, .int p2, .int 0, .null] [] r2.2.2
      else
        (C nS_has k [.ref 12, .long (Int32.toInt64 p1)] r1.2.2).bind fun r2 =>
          if r2.1 = 0 then
            some ((-5), 0, r2.2.2)
          else
            (C nS_becomes k [.ref 18, .ref 12] r2.2.2).bind fun r3 =>
              R nF_when k 25 [.ref 0, .int p1, .int p2, .int 0, .null] [] r3.2.2 := (unr_R [25] nF_when k 400 0 _ _ _).trans rfl
theorem eF_when_25 (k : Nat) (v1 : Int32) (v2 : Int32) (v3 : Int32) (u4 : Value) (σ : Sto) : R nF_when k 25 [.ref 0, .int v1, .int v2, .int v3, u4] [] σ =
  if 60 < v3 then
    some ((-1), 0, σ)
  else
    if v2 = 0 then
      (C nS_isOver k [.ref 18, .int v1] σ).bind fun r1 =>
        if r1.1 = 0 then
          (C nS_passHour k [.ref 18] r1.2.2).bind fun r2 =>
            R nF_when k 25 [.ref 0, .int v1, .int v2, .int (v3 + 1), .int r1.1] [] r2.2.2
        else
          some (v3, 0, r1.2.2)
    else
      if v2 = 1 then
        (C nS_isAlone k [.ref 18, .int v1] σ).bind fun r1 =>
          if r1.1 = 0 then
            (C nS_passHour k [.ref 18] r1.2.2).bind fun r2 =>
              R nF_when k 25 [.ref 0, .int v1, .int v2, .int (v3 + 1), .int r1.1] [] r2.2.2
          else
            some (v3, 0, r1.2.2)
      else
        if (σ 18 8) = 0 then
          (C nS_aloneBits k [.ref 18] σ).bind fun r1 =>
            if r1.1 = 0 then
              some (v3, 0, r1.2.2)
            else
              (C nS_passHour k [.ref 18] r1.2.2).bind fun r2 =>
                R nF_when k 25 [.ref 0, .int v1, .int v2, .int (v3 + 1), .int 0] [] r2.2.2
        else
          (C nS_passHour k [.ref 18] σ).bind fun r1 =>
            R nF_when k 25 [.ref 0, .int v1, .int v2, .int (v3 + 1), .int 0] [] r1.2.2 := (unr_R [25] nF_when k 400 25 _ _ _).trans rfl
-- X4_hide
theorem eF_hide (k : Nat) (p1 : Int32) (p2 : Int32) (σ : Sto) : C nF_hide k [.ref 0, .int p1, .int p2] σ =
  (C nF_within k [.int p1, .int 0, .int 60] σ).bind fun r1 =>
    if r1.1 = 0 then
      some ((-2), 0, r1.2.2)
    else
      (C nF_within k [.int p2, .int 0, .int 1] r1.2.2).bind fun r2 =>
        if r2.1 = 0 then
          some ((-2), 0, r2.2.2)
        else
          (C nS_becomes k [.ref 18, .ref 12] r2.2.2).bind fun r3 =>
            (C nF_fetchedInThought k [.ref 0, .int p1] r3.2.2).bind fun r4 =>
              R nF_hide k 25 [.ref 0, .int p1, .int p2, .int r4.1, .int (-1), .int 0, .null] [] r4.2.2 := (unr_R [25] nF_hide k 400 0 _ _ _).trans rfl
theorem eF_hide_25 (k : Nat) (v1 : Int32) (v2 : Int32) (v3 : Int32) (v4 : Int32) (v5 : Int32) (u6 : Value) (σ : Sto) : R nF_hide k 25 [.ref 0, .int v1, .int v2, .int v3, .int v4, .int v5, u6] [] σ =
  if v5 < (σ 12 6) then
    (C nS_isSeen k [.ref 12, .int v5] σ).bind fun r1 =>
      if r1.1 = 0 then
        R nF_hide k 25 [.ref 0, .int v1, .int v2, .int v3, .int v4, .int (v5 + 1), u6] [] r1.2.2
      else
        (C nS_becomes k [.ref 18, .ref 12] r1.2.2).bind fun r2 =>
          if inb v5 6 = true ∧ zb 1 = true then
            (C nF_fetchedInThought k [.ref 0, .int v1] (su r2.2.2 22 v5.toNatClampNeg 1)).bind fun r3 =>
              if v3 < r3.1 then
                R nF_hide k 25 [.ref 0, .int v1, .int v2, .int r3.1, .int v5, .int (v5 + 1), .int r3.1] [] r3.2.2
              else
                R nF_hide k 25 [.ref 0, .int v1, .int v2, .int v3, .int v4, .int (v5 + 1), .int r3.1] [] r3.2.2
          else
            none
  else
    if v2 = 0 then
      some (v4, 0, σ)
    else
      some (v3, 0, σ) := (unr_R [25] nF_hide k 400 25 _ _ _).trans rfl
-- X4_stand
theorem eF_stand (k : Nat) (p1 : Int32) (p2 : Int32) (σ : Sto) : C nF_stand k [.ref 0, .int p1, .int p2] σ =
  (C nS_has k [.ref 12, .long (Int32.toInt64 p1)] σ).bind fun r1 =>
    if r1.1 = 0 then
      some ((-5), 0, r1.2.2)
    else
      (C nF_within k [.int p2, .int 0, .int 1] r1.2.2).bind fun r2 =>
        if r2.1 = 0 then
          some ((-7), 0, r2.2.2)
        else
          if (r2.2.2 12 9) = p1 then
            some ((-3), 0, r2.2.2)
          else
            R nF_stand k 28 [.ref 0, .int p1, .int p2, .int (-1), .int 61, .int 0, .null] [] r2.2.2 := (unr_R [28] nF_stand k 400 0 _ _ _).trans rfl
theorem eF_stand_28 (k : Nat) (v1 : Int32) (v2 : Int32) (v3 : Int32) (v4 : Int32) (v5 : Int32) (u6 : Value) (σ : Sto) : R nF_stand k 28 [.ref 0, .int v1, .int v2, .int v3, .int v4, .int v5, u6] [] σ =
  if v5 < 64 then
    (C nS_becomes k [.ref 18, .ref 12] σ).bind fun r1 =>
      if inb v1 6 = true then
        if inb v1 6 = true ∧ zb 0 = true then
          (C nF_hoursTillOver k [.ref 0, .int v1, .int (v4 - 1)] (su (su r1.2.2 21 v1.toNatClampNeg v5) 22 v1.toNatClampNeg 0)).bind fun r2 =>
            if r2.1 = (-1) then
              R nF_stand k 28 [.ref 0, .int v1, .int v2, .int v3, .int v4, .int (v5 + 1), .int r2.1] [] r2.2.2
            else
              R nF_stand k 28 [.ref 0, .int v1, .int v2, .int v5, .int r2.1, .int (v5 + 1), .int r2.1] [] r2.2.2
        else
          none
      else
        none
  else
    if v2 = 0 then
      some (v3, 0, σ)
    else
      if v3 = (-1) then
        some (v3, 0, σ)
      else
        some (v4, 0, σ) := (unr_R [28] nF_stand k 400 28 _ _ _).trans rfl
-- X4_apart
theorem eF_apart (k : Nat) (p1 : Int32) (p2 : Int32) (σ : Sto) : C nF_apart k [.ref 0, .int p1, .int p2] σ =
  (C nS_has k [.ref 12, .long (Int32.toInt64 p1)] σ).bind fun r1 =>
    if r1.1 = 0 then
      some ((-5), 0, r1.2.2)
    else
      (C nF_within k [.int p2, .int 0, .int 1] r1.2.2).bind fun r2 =>
        if r2.1 = 0 then
          some ((-7), 0, r2.2.2)
        else
          (C nS_isSeen k [.ref 12, .int p1] r2.2.2).bind fun r3 =>
            if r3.1 = 0 then
              some ((-1), 0, r3.2.2)
            else
              if inb p1 6 = true then
                (C nS_becomes k [.ref 18, .ref 12] r3.2.2).bind fun r4 =>
                  R nF_apart k 35 [.ref 0, .int p1, .int p2, .int (r3.2.2 15 p1.toNatClampNeg), .int 0] [] r4.2.2
              else
                none := (unr_R [35] nF_apart k 400 0 _ _ _).trans rfl
theorem eF_apart_35 (k : Nat) (v1 : Int32) (v2 : Int32) (v3 : Int32) (v4 : Int32) (σ : Sto) : R nF_apart k 35 [.ref 0, .int v1, .int v2, .int v3, .int v4] [] σ =
  if v4 < 64 then
    (C nF_wouldBeAlone k [.ref 0, .int v1, .int (v3 - v4)] σ).bind fun r1 =>
      if r1.1 = 0 then
        (C nF_wouldBeAlone k [.ref 0, .int v1, .int (v3 + v4)] r1.2.2).bind fun r2 =>
          if r2.1 = 0 then
            R nF_apart k 35 [.ref 0, .int v1, .int v2, .int v3, .int (v4 + 1)] [] r2.2.2
          else
            if v2 = 0 then
              some (v4, 0, r2.2.2)
            else
              some ((v3 + v4), 0, r2.2.2)
      else
        if v2 = 0 then
          some (v4, 0, r1.2.2)
        else
          some ((v3 - v4), 0, r1.2.2)
  else
    some ((-1), 0, σ) := (unr_R [35] nF_apart k 400 35 _ _ _).trans rfl
-- X4_breakwater
theorem eF_breakwater (k : Nat) (p1 : Int32) (σ : Sto) : C nF_breakwater k [.ref 0, .int p1] σ =
  (C nF_within k [.int p1, .int 0, .int 1] σ).bind fun r1 =>
    if r1.1 = 0 then
      some ((-2), 0, r1.2.2)
    else
      (C nS_seenBits k [.ref 12] r1.2.2).bind fun r2 =>
        R nF_breakwater k 15 [.ref 0, .int p1, .int r2.1, .int r2.1, .int 0, .null] [] r2.2.2 := (unr_R [15] nF_breakwater k 400 0 _ _ _).trans rfl
theorem eF_breakwater_15 (k : Nat) (v1 : Int32) (v2 : Int32) (v3 : Int32) (v4 : Int32) (u5 : Value) (σ : Sto) : R nF_breakwater k 15 [.ref 0, .int v1, .int v2, .int v3, .int v4, u5] [] σ =
  if v4 < v2 then
    if (v4 &&& (v2 ^^^ (-1))) = 0 then
      (C nJ6_bitCount k [.int v4] σ).bind fun r1 =>
        (C nJ6_bitCount k [.int v3] r1.2.2).bind fun r2 =>
          if r1.1 < r2.1 then
            (C nF_othersAloneWithout k [.ref 0, .int v4] r2.2.2).bind fun r3 =>
              if r3.1 = 0 then
                R nF_breakwater k 15 [.ref 0, .int v1, .int v2, .int v3, .int (v4 + 1), .int 1] [] r3.2.2
              else
                R nF_breakwater k 15 [.ref 0, .int v1, .int v2, .int v4, .int (v4 + 1), .int 1] [] r3.2.2
          else
            R nF_breakwater k 15 [.ref 0, .int v1, .int v2, .int v3, .int (v4 + 1), .int 1] [] r2.2.2
    else
      R nF_breakwater k 15 [.ref 0, .int v1, .int v2, .int v3, .int (v4 + 1), .int 0] [] σ
  else
    if v1 = 0 then
      some (v3, 0, σ)
    else
      (C nJ6_bitCount k [.int v3] σ).bind fun r1 =>
        some (r1.1, 0, r1.2.2) := (unr_R [15] nF_breakwater k 400 15 _ _ _).trans rfl
-- X4_gap
theorem eF_gap (k : Nat) (p1 : Int32) (σ : Sto) : C nF_gap k [.ref 0, .int p1] σ =
  (C nF_within k [.int p1, .int 0, .int 1] σ).bind fun r1 =>
    if r1.1 = 0 then
      some ((-2), 0, r1.2.2)
    else
      R nF_gap k 13 [.ref 0, .int p1, .int (-1), .int (-1), .int 0, .null] [] r1.2.2 := (unr_R [13, 20] nF_gap k 400 0 _ _ _).trans rfl
theorem eF_gap_13 (k : Nat) (v1 : Int32) (v2 : Int32) (v3 : Int32) (v4 : Int32) (u5 : Value) (σ : Sto) : R nF_gap k 13 [.ref 0, .int v1, .int v2, .int v3, .int v4, u5] [] σ =
  if v4 < (σ 12 6) then
    R nF_gap k 20 [.ref 0, .int v1, .int v2, .int v3, .int v4, .int 0] [] σ
  else
    if v1 = 0 then
      some (v2, 0, σ)
    else
      some (v3, 0, σ) := (unr_R [13, 20] nF_gap k 400 13 _ _ _).trans rfl
theorem eF_gap_20 (k : Nat) (v1 : Int32) (v2 : Int32) (v3 : Int32) (v4 : Int32) (v5 : Int32) (σ : Sto) : R nF_gap k 20 [.ref 0, .int v1, .int v2, .int v3, .int v4, .int v5] [] σ =
  if v5 < (σ 12 6) then
    (C nS_areNeighbours k [.ref 12, .int v4, .int v5] σ).bind fun r1 =>
      if r1.1 = 0 then
        R nF_gap k 20 [.ref 0, .int v1, .int v2, .int v3, .int v4, .int (v5 + 1)] [] r1.2.2
      else
        if inb v5 6 = true then
          if inb v4 6 = true then
            if v3 < ((r1.2.2 15 v5.toNatClampNeg) - (r1.2.2 15 v4.toNatClampNeg)) then
              if inb v5 6 = true then
                if inb v4 6 = true then
                  R nF_gap k 20 [.ref 0, .int v1, .int ((10 * v4) + v5), .int ((r1.2.2 15 v5.toNatClampNeg) - (r1.2.2 15 v4.toNatClampNeg)), .int v4, .int (v5 + 1)] [] r1.2.2
                else
                  none
              else
                none
            else
              R nF_gap k 20 [.ref 0, .int v1, .int v2, .int v3, .int v4, .int (v5 + 1)] [] r1.2.2
          else
            none
        else
          none
  else
    R nF_gap k 13 [.ref 0, .int v1, .int v2, .int v3, .int (v4 + 1), .int v5] [] σ := (unr_R [13, 20] nF_gap k 400 20 _ _ _).trans rfl
-- X4_middle
theorem eF_middle (k : Nat) (p1 : Int32) (σ : Sto) : C nF_middle k [.ref 0, .int p1] σ =
  R nF_middle k 6 [.ref 0, .int p1, .long 0, .null, .long 0, .null, .int 0] [] σ := (unr_R [6] nF_middle k 400 0 _ _ _).trans rfl
theorem eF_middle_6 (k : Nat) (v1 : Int32) (v2 : Int64) (v4 : Int64) (v6 : Int32) (σ : Sto) : R nF_middle k 6 [.ref 0, .int v1, .long v2, .null, .long v4, .null, .int v6] [] σ =
  if v6 < (σ 12 6) then
    if inb v6 6 = true then
      if (σ 15 v6.toNatClampNeg) = (-1) then
        R nF_middle k 6 [.ref 0, .int v1, .long v2, .null, .long v4, .null, .int (v6 + 1)] [] σ
      else
        if inb v6 6 = true then
          R nF_middle k 6 [.ref 0, .int v1, .long (v2 + (Int32.toInt64 (σ 15 v6.toNatClampNeg))), .null, .long (v4 + 1), .null, .int (v6 + 1)] [] σ
        else
          none
    else
      none
  else
    (C nF_fraction k [.long v2, .long v4, .int v1] σ).bind fun r1 =>
      some (0, r1.2.1, r1.2.2) := (unr_R [6] nF_middle k 400 6 _ _ _).trans rfl
-- X4_judge
theorem eF_judge (k : Nat) (p1 : Int32) (σ : Sto) : C nF_judge k [.ref 0, .int p1] σ =
  (C nF_refusalToJudge k [.ref 0, .int p1] σ).bind fun r1 =>
    if r1.1 = 0 then
      (C nS_becomes k [.ref 18, .ref 12] r1.2.2).bind fun r2 =>
        (C nF_firstOtherwise k [.ref 0, .int p1] r2.2.2).bind fun r3 =>
          some (r3.1, 0, r3.2.2)
    else
      some (r1.1, 0, r1.2.2) := (unr_R [] nF_judge k 400 0 _ _ _).trans rfl
-- X4_kinds
theorem eF_kinds (k : Nat) (p1 : Int32) (p2 : Int32) (p3 : Int32) (σ : Sto) : C nF_kinds k [.ref 0, .int p1, .int p2, .int p3] σ =
  (C nF_refusalToJudge k [.ref 0, .int p1] σ).bind fun r1 =>
    if r1.1 = 0 then
      (C nS_has k [.ref 12, .long (Int32.toInt64 p2)] r1.2.2).bind fun r2 =>
        if r2.1 = 0 then
          some ((-5), 0, r2.2.2)
        else
          (C nF_within k [.int p3, .int 0, .int 1] r2.2.2).bind fun r3 =>
            if r3.1 = 0 then
              some ((-7), 0, r3.2.2)
            else
              if p3 = 0 then
                R nF_kinds k 33 [.ref 0, .int p1, .int p2, .int p3, .int r1.1, .int 6, .int 0, .int 0] [] r3.2.2
              else
                R nF_kinds k 33 [.ref 0, .int p1, .int p2, .int p3, .int r1.1, .int 10, .int 0, .int 0] [] r3.2.2
    else
      some (r1.1, 0, r1.2.2) := (unr_R [33] nF_kinds k 400 0 _ _ _).trans rfl
theorem eF_kinds_33 (k : Nat) (v1 : Int32) (v2 : Int32) (v3 : Int32) (v4 : Int32) (v5 : Int32) (v6 : Int32) (v7 : Int32) (σ : Sto) : R nF_kinds k 33 [.ref 0, .int v1, .int v2, .int v3, .int v4, .int v5, .int v6, .int v7] [] σ =
  if v7 < v5 then
    (C nS_becomes k [.ref 18, .ref 12] σ).bind fun r1 =>
      if v3 = 0 then
        if inb v2 6 = true then
          (C nF_firstOtherwise k [.ref 0, .int v1] (su r1.2.2 19 v2.toNatClampNeg v7)).bind fun r2 =>
            if r2.1 = (-1) then
              R nF_kinds k 33 [.ref 0, .int v1, .int v2, .int v3, .int v4, .int v5, .int (v6 ||| (1 <<< (v7 &&& 31))), .int (v7 + 1)] [] r2.2.2
            else
              R nF_kinds k 33 [.ref 0, .int v1, .int v2, .int v3, .int v4, .int v5, .int v6, .int (v7 + 1)] [] r2.2.2
        else
          none
      else
        if inb v2 6 = true then
          (C nF_firstOtherwise k [.ref 0, .int v1] (su r1.2.2 20 v2.toNatClampNeg v7)).bind fun r2 =>
            if r2.1 = (-1) then
              R nF_kinds k 33 [.ref 0, .int v1, .int v2, .int v3, .int v4, .int v5, .int (v6 ||| (1 <<< (v7 &&& 31))), .int (v7 + 1)] [] r2.2.2
            else
              R nF_kinds k 33 [.ref 0, .int v1, .int v2, .int v3, .int v4, .int v5, .int v6, .int (v7 + 1)] [] r2.2.2
        else
          none
  else
    some (v6, 0, σ) := (unr_R [33] nF_kinds k 400 33 _ _ _).trans rfl
-- X4_places
theorem eF_places (k : Nat) (p1 : Int32) (p2 : Int32) (σ : Sto) : C nF_places k [.ref 0, .int p1, .int p2] σ =
  (C nF_refusalToJudge k [.ref 0, .int p1] σ).bind fun r1 =>
    if r1.1 = 0 then
      (C nS_has k [.ref 12, .long (Int32.toInt64 p2)] r1.2.2).bind fun r2 =>
        if r2.1 = 0 then
          some (0, (-4611686018427387904), r2.2.2)
        else
          if inb p2 6 = true then
            if (r2.2.2 15 p2.toNatClampNeg) = (-1) then
              some (0, (-4611686018427387904), r2.2.2)
            else
              R nF_places k 23 [.ref 0, .int p1, .int p2, .long 0, .null, .int 0] [] r2.2.2
          else
            none
    else
      some (0, (-4611686018427387904), r1.2.2) := (unr_R [23] nF_places k 400 0 _ _ _).trans rfl
theorem eF_places_23 (k : Nat) (v1 : Int32) (v2 : Int32) (v3 : Int64) (v5 : Int32) (σ : Sto) : R nF_places k 23 [.ref 0, .int v1, .int v2, .long v3, .null, .int v5] [] σ =
  if v5 < 64 then
    (C nS_becomes k [.ref 18, .ref 12] σ).bind fun r1 =>
      if inb v2 6 = true then
        (C nF_firstOtherwise k [.ref 0, .int v1] (su r1.2.2 21 v2.toNatClampNeg v5)).bind fun r2 =>
          if r2.1 = (-1) then
            R nF_places k 23 [.ref 0, .int v1, .int v2, .long (v3 ||| (1 <<< (Int32.toInt64 v5 &&& 63))), .null, .int (v5 + 1)] [] r2.2.2
          else
            R nF_places k 23 [.ref 0, .int v1, .int v2, .long v3, .null, .int (v5 + 1)] [] r2.2.2
      else
        none
  else
    some (0, v3, σ) := (unr_R [23] nF_places k 400 23 _ _ _).trans rfl
-- X4_turned
theorem eF_turned (k : Nat) (p1 : Int32) (σ : Sto) : C nF_turned k [.ref 0, .int p1] σ =
  (C nF_refusalToJudge k [.ref 0, .int p1] σ).bind fun r1 =>
    if r1.1 = 0 then
      R nF_turned k 12 [.ref 0, .int p1, .int r1.1, .int 0, .int 0] [] r1.2.2
    else
      some (r1.1, 0, r1.2.2) := (unr_R [12] nF_turned k 400 0 _ _ _).trans rfl
theorem eF_turned_12 (k : Nat) (v1 : Int32) (v2 : Int32) (v3 : Int32) (v4 : Int32) (σ : Sto) : R nF_turned k 12 [.ref 0, .int v1, .int v2, .int v3, .int v4] [] σ =
  if v4 < (σ 12 6) then
    (C nS_becomes k [.ref 18, .ref 12] σ).bind fun r1 =>
      if inb v4 6 = true then
        if (r1.2.2 16 v4.toNatClampNeg) = 0 then
          if inb v4 6 = true ∧ zb 1 = true then
            (C nF_firstOtherwise k [.ref 0, .int v1] (su r1.2.2 22 v4.toNatClampNeg 1)).bind fun r2 =>
              if r2.1 = (-1) then
                R nF_turned k 12 [.ref 0, .int v1, .int v2, .int (v3 ||| (1 <<< (v4 &&& 31))), .int (v4 + 1)] [] r2.2.2
              else
                R nF_turned k 12 [.ref 0, .int v1, .int v2, .int v3, .int (v4 + 1)] [] r2.2.2
          else
            none
        else
          if inb v4 6 = true ∧ zb 0 = true then
            (C nF_firstOtherwise k [.ref 0, .int v1] (su r1.2.2 22 v4.toNatClampNeg 0)).bind fun r2 =>
              if r2.1 = (-1) then
                R nF_turned k 12 [.ref 0, .int v1, .int v2, .int (v3 ||| (1 <<< (v4 &&& 31))), .int (v4 + 1)] [] r2.2.2
              else
                R nF_turned k 12 [.ref 0, .int v1, .int v2, .int v3, .int (v4 + 1)] [] r2.2.2
          else
            none
      else
        none
  else
    some (v3, 0, σ) := (unr_R [12] nF_turned k 400 12 _ _ _).trans rfl
-- X4_waits
theorem eF_waits (k : Nat) (p1 : Int32) (p2 : Int32) (p3 : Int32) (σ : Sto) : C nF_waits k [.ref 0, .int p1, .int p2, .int p3] σ =
  (C nF_refusalToJudge k [.ref 0, .int p1] σ).bind fun r1 =>
    if r1.1 = 0 then
      (C nS_has k [.ref 12, .long (Int32.toInt64 p2)] r1.2.2).bind fun r2 =>
        if r2.1 = 0 then
          some ((-5), 0, r2.2.2)
        else
          (C nF_within k [.int p3, .int 0, .int 1] r2.2.2).bind fun r3 =>
            if r3.1 = 0 then
              some ((-7), 0, r3.2.2)
            else
              R nF_waits k 29 [.ref 0, .int p1, .int p2, .int p3, .int r1.1, .int 0, .int (-1), .int 99] [] r3.2.2
    else
      some (r1.1, 0, r1.2.2) := (unr_R [29] nF_waits k 400 0 _ _ _).trans rfl
theorem eF_waits_29 (k : Nat) (v1 : Int32) (v2 : Int32) (v3 : Int32) (v4 : Int32) (v5 : Int32) (v6 : Int32) (v7 : Int32) (σ : Sto) : R nF_waits k 29 [.ref 0, .int v1, .int v2, .int v3, .int v4, .int v5, .int v6, .int v7] [] σ =
  if v7 < 0 then
    if v3 = 0 then
      some (v5, 0, σ)
    else
      some (v6, 0, σ)
  else
    (C nS_becomes k [.ref 18, .ref 12] σ).bind fun r1 =>
      if inb v2 6 = true then
        (C nF_firstOtherwise k [.ref 0, .int v1] (su r1.2.2 23 v2.toNatClampNeg v7)).bind fun r2 =>
          if r2.1 = (-1) then
            R nF_waits k 29 [.ref 0, .int v1, .int v2, .int v3, .int v4, .int (v5 + 1), .int v7, .int (v7 + (-1))] [] r2.2.2
          else
            R nF_waits k 29 [.ref 0, .int v1, .int v2, .int v3, .int v4, .int v5, .int v6, .int (v7 + (-1))] [] r2.2.2
      else
        none := (unr_R [29] nF_waits k 400 29 _ _ _).trans rfl
-- X4_laws
theorem eF_laws (k : Nat) (p1 : Int32) (σ : Sto) : C nF_laws k [.ref 0, .int p1] σ =
  (C nF_refusalToJudge k [.ref 0, .int p1] σ).bind fun r1 =>
    if r1.1 = 0 then
      R nF_laws k 12 [.ref 0, .int p1, .int r1.1, .int 0, .int 0] [] r1.2.2
    else
      some (r1.1, 0, r1.2.2) := (unr_R [12] nF_laws k 400 0 _ _ _).trans rfl
theorem eF_laws_12 (k : Nat) (v1 : Int32) (v2 : Int32) (v3 : Int32) (v4 : Int32) (σ : Sto) : R nF_laws k 12 [.ref 0, .int v1, .int v2, .int v3, .int v4] [] σ =
  if v4 < (σ 2 4) then
    (C nS_becomes k [.ref 18, .ref 12] σ).bind fun r1 =>
      (C nF_firstOtherwise k [.ref 0, .int v1] (su r1.2.2 18 11 v4)).bind fun r2 =>
        if r2.1 = (-1) then
          R nF_laws k 12 [.ref 0, .int v1, .int v2, .int (v3 ||| (1 <<< (v4 &&& 31))), .int (v4 + 1)] [] r2.2.2
        else
          R nF_laws k 12 [.ref 0, .int v1, .int v2, .int v3, .int (v4 + 1)] [] r2.2.2
  else
    some (v3, 0, σ) := (unr_R [12] nF_laws k 400 12 _ _ _).trans rfl
-- X4_film
theorem eF_film (k : Nat) (p1 : Int32) (p2 : Int32) (σ : Sto) : C nF_film k [.ref 0, .int p1, .int p2] σ =
  (C nH_has k [.ref 8, .int p1] σ).bind fun r1 =>
    if r1.1 = 0 then
      some ((-2), 0, r1.2.2)
    else
      (C nF_within k [.int p2, .int 0, .int 24] r1.2.2).bind fun r2 =>
        if r2.1 = 0 then
          some ((-7), 0, r2.2.2)
        else
          (C nH_renew k [.ref 8, .int p1, .int 0, .int p2] r2.2.2).bind fun r3 =>
            (C nS_becomes k [.ref 18, .ref 12] r3.2.2).bind fun r4 =>
              R nF_film k 27 [.ref 0, .int p1, .int p2, .int 0] [] r4.2.2 := (unr_R [27] nF_film k 400 0 _ _ _).trans rfl
theorem eF_film_27 (k : Nat) (v1 : Int32) (v2 : Int32) (v3 : Int32) (σ : Sto) : R nF_film k 27 [.ref 0, .int v1, .int v2, .int v3] [] σ =
  if v3 < v2 then
    (C nS_passHour k [.ref 18] σ).bind fun r1 =>
      (C nH_write k [.ref 8, .int v1, .int v3, .int (r1.1 + 1)] r1.2.2).bind fun r2 =>
        R nF_film k 27 [.ref 0, .int v1, .int v2, .int (v3 + 1)] [] r2.2.2
  else
    some (v2, 0, σ) := (unr_R [27] nF_film k 400 27 _ _ _).trans rfl
-- X4_drawn
theorem eF_drawn (k : Nat) (p1 : Int32) (p2 : Int32) (σ : Sto) : C nF_drawn k [.ref 0, .int p1, .int p2] σ =
  (C nF_within k [.int p1, .int 0, .int 99999] σ).bind fun r1 =>
    if r1.1 = 0 then
      some ((-2), 0, r1.2.2)
    else
      (C nF_within k [.int p2, .int 0, .int 1] r1.2.2).bind fun r2 =>
        if r2.1 = 0 then
          some ((-2), 0, r2.2.2)
        else
          (C nF_fetchedAmongGulls k [.ref 0, .int p1] r2.2.2).bind fun r3 =>
            if p2 = 0 then
              some (r3.1, 0, r3.2.2)
            else
              (C nS_overBits k [.ref 18] r3.2.2).bind fun r4 =>
                some (r4.1, 0, r4.2.2) := (unr_R [] nF_drawn k 400 0 _ _ _).trans rfl
-- X4_odds
theorem eF_odds (k : Nat) (p1 : Int32) (p2 : Int32) (p3 : Int32) (p4 : Int32) (σ : Sto) : C nF_odds k [.ref 0, .int p1, .int p2, .int p3, .int p4] σ =
  (C nF_within k [.int p1, .int 0, .int 99999] σ).bind fun r1 =>
    if r1.1 = 0 then
      some (0, (-4611686018427387904), r1.2.2)
    else
      (C nF_within k [.int p2, .int 1, .int 40] r1.2.2).bind fun r2 =>
        if r2.1 = 0 then
          some (0, (-4611686018427387904), r2.2.2)
        else
          (C nF_within k [.int p3, .int 0, .int 12] r2.2.2).bind fun r3 =>
            if r3.1 = 0 then
              some (0, (-4611686018427387904), r3.2.2)
            else
              R nF_odds k 21 [.ref 0, .int p1, .int p2, .int p3, .int p4, .int 0, .int 0] [] r3.2.2 := (unr_R [21] nF_odds k 400 0 _ _ _).trans rfl
theorem eF_odds_21 (k : Nat) (v1 : Int32) (v2 : Int32) (v3 : Int32) (v4 : Int32) (v5 : Int32) (v6 : Int32) (σ : Sto) : R nF_odds k 21 [.ref 0, .int v1, .int v2, .int v3, .int v4, .int v5, .int v6] [] σ =
  if v6 < v2 then
    (C nF_fetchedAmongGulls k [.ref 0, .int (v1 + v6)] σ).bind fun r1 =>
      if r1.1 < v3 then
        R nF_odds k 21 [.ref 0, .int v1, .int v2, .int v3, .int v4, .int v5, .int (v6 + 1)] [] r1.2.2
      else
        R nF_odds k 21 [.ref 0, .int v1, .int v2, .int v3, .int v4, .int (v5 + 1), .int (v6 + 1)] [] r1.2.2
  else
    (C nF_fraction k [.long (Int32.toInt64 v5), .long (Int32.toInt64 v2), .int v4] σ).bind fun r1 =>
      some (0, r1.2.1, r1.2.2) := (unr_R [21] nF_odds k 400 21 _ _ _).trans rfl
-- X4_image
theorem eF_image (k : Nat) (σ : Sto) : C nF_image k [.ref 0] σ =
  (C nS_becomes k [.ref 24, .ref 12] σ).bind fun r1 =>
    some (((su r1.2.2 0 8 1) 12 6), 0, (su r1.2.2 0 8 1)) := (unr_R [] nF_image k 400 0 _ _ _).trans rfl
-- X4_back
theorem eF_back (k : Nat) (σ : Sto) : C nF_back k [.ref 0] σ =
  if (σ 0 8) = 0 then
    some ((-3), 0, σ)
  else
    (C nS_becomes k [.ref 12, .ref 24] σ).bind fun r1 =>
      some ((r1.2.2 12 6), 0, r1.2.2) := (unr_R [] nF_back k 400 0 _ _ _).trans rfl
-- X4_sheet
theorem eF_sheet (k : Nat) (p1 : Int32) (p2 : Int32) (p3 : Int32) (σ : Sto) : C nF_sheet k [.ref 0, .int p1, .int p2, .int p3] σ =
  (C nH_has k [.ref 8, .int p1] σ).bind fun r1 =>
    if r1.1 = 0 then
      some ((-2), 0, r1.2.2)
    else
      (C nF_within k [.int p2, .int (-1), .int 2] r1.2.2).bind fun r2 =>
        if r2.1 = 0 then
          some ((-2), 0, r2.2.2)
        else
          if p2 = (-1) then
            (C nH_renew k [.ref 8, .int p1, .int (-1), .int 0] r2.2.2).bind fun r3 =>
              some (1, 0, r3.2.2)
          else
            if 40 < p3 then
              some ((-2), 0, r2.2.2)
            else
              if p3 < 0 then
                some ((-14), 0, r2.2.2)
              else
                (C nH_renew k [.ref 8, .int p1, .int p2, .int p3] r2.2.2).bind fun r3 =>
                  some (1, 0, r3.2.2) := (unr_R [] nF_sheet k 400 0 _ _ _).trans rfl
-- X4_cell
theorem eF_cell (k : Nat) (p1 : Int32) (p2 : Int32) (p3 : Int32) (σ : Sto) : C nF_cell k [.ref 0, .int p1, .int p2, .int p3] σ =
  (C nH_has k [.ref 8, .int p1] σ).bind fun r1 =>
    if r1.1 = 0 then
      some ((-2), 0, r1.2.2)
    else
      if inb p1 4 = true then
        if (r1.2.2 10 p1.toNatClampNeg) = (-1) then
          some ((-11), 0, r1.2.2)
        else
          if inb p1 4 = true then
            (C nF_within k [.int p2, .int 0, .int ((r1.2.2 11 p1.toNatClampNeg) - 1)] r1.2.2).bind fun r2 =>
              if r2.1 = 0 then
                some ((-12), 0, r2.2.2)
              else
                (C nH_write k [.ref 8, .int p1, .int p2, .int p3] r2.2.2).bind fun r3 =>
                  some (1, 0, r3.2.2)
          else
            none
      else
        none := (unr_R [] nF_cell k 400 0 _ _ _).trans rfl
-- X4_copy
set_option maxRecDepth 1000000 in
theorem eF_copy (k : Nat) (p1 : Int32) (p2 : Int32) (p3 : Int32) (p4 : Int32) (p5 : Int32) (σ : Sto) : C nF_copy k [.ref 0, .int p1, .int p2, .int p3, .int p4, .int p5] σ =
  (C nH_has k [.ref 8, .int p1] σ).bind fun r1 =>
    if r1.1 = 0 then
      some ((-2), 0, r1.2.2)
    else
      (C nH_has k [.ref 8, .int p3] r1.2.2).bind fun r2 =>
        if r2.1 = 0 then
          some ((-2), 0, r2.2.2)
        else
          if inb p1 4 = true then
            if (r2.2.2 10 p1.toNatClampNeg) = (-1) then
              some ((-11), 0, r2.2.2)
            else
              if inb p3 4 = true then
                if (r2.2.2 10 p3.toNatClampNeg) = (-1) then
                  some ((-11), 0, r2.2.2)
                else
                  if inb p1 4 = true then
                    if inb p3 4 = true then
                      if (r2.2.2 10 p1.toNatClampNeg) = (r2.2.2 10 p3.toNatClampNeg) then
                        if p5 < 0 then
                          some ((-12), 0, r2.2.2)
                        else
                          (C nH_holds k [.ref 8, .int p1, .long (Int32.toInt64 p2), .int p5] r2.2.2).bind fun r3 =>
                            if r3.1 = 0 then
                              some ((-12), 0, r3.2.2)
                            else
                              (C nH_holds k [.ref 8, .int p3, .long (Int32.toInt64 p4), .int p5] r3.2.2).bind fun r4 =>
                                if r4.1 = 0 then
                                  some ((-12), 0, r4.2.2)
                                else
                                  (C nH_carry k [.ref 8, .int p1, .int p2, .int p3, .int p4, .int p5] r4.2.2).bind fun r5 =>
                                    some (p5, 0, r5.2.2)
                      else
                        some ((-13), 0, r2.2.2)
                    else
                      none
                  else
                    none
              else
                none
          else
            none := (unr_R [] nF_copy k 400 0 _ _ _).trans rfl
-- X4_peopleBy
theorem eF_peopleBy (k : Nat) (p1 : Int32) (p2 : Int32) (p3 : Int32) (p4 : Int32) (σ : Sto) : C nF_peopleBy k [.ref 0, .int p1, .int p2, .int p3, .int p4] σ =
  (C nH_has k [.ref 8, .int p1] σ).bind fun r1 =>
    if r1.1 = 0 then
      some ((-2), 0, r1.2.2)
    else
      (C nF_within k [.int p2, .int 0, .int 2] r1.2.2).bind fun r2 =>
        if r2.1 = 0 then
          some ((-2), 0, r2.2.2)
        else
          (C nF_within k [.int p4, .int 0, .int 6] r2.2.2).bind fun r3 =>
            if r3.1 = 0 then
              some ((-2), 0, r3.2.2)
            else
              if inb p1 4 = true then
                if (r3.2.2 10 p1.toNatClampNeg) = (-1) then
                  some ((-11), 0, r3.2.2)
                else
                  if inb p1 4 = true then
                    if (r3.2.2 10 p1.toNatClampNeg) = p2 then
                      R nF_peopleBy k 39 [.ref 0, .int p1, .int p2, .int p3, .int p4, .int 0, .int 0, .null, .null, .null] [] r3.2.2
                    else
                      some ((-13), 0, r3.2.2)
                  else
                    none
              else
                none := (unr_R [39] nF_peopleBy k 400 0 _ _ _).trans rfl
theorem eF_peopleBy_39 (k : Nat) (v1 : Int32) (v2 : Int32) (v3 : Int32) (v4 : Int32) (v5 : Int32) (v6 : Int32) (u7 : Value) (u9 : Value) (σ : Sto) : R nF_peopleBy k 39 [.ref 0, .int v1, .int v2, .int v3, .int v4, .int v5, .int v6, u7, .null, u9] [] σ =
  if v6 < v4 then
    (C nH_holds k [.ref 8, .int v1, .long ((Int32.toInt64 v3) + (2 * (Int32.toInt64 v6))), .int 2] σ).bind fun r1 =>
      if r1.1 = 0 then
        some ((-12), 0, r1.2.2)
      else
        (C nH_read k [.ref 8, .int v1, .int (Int64.toInt32 ((Int32.toInt64 v3) + (2 * (Int32.toInt64 v6))))] r1.2.2).bind fun r2 =>
          (C nH_read k [.ref 8, .int v1, .int ((Int64.toInt32 ((Int32.toInt64 v3) + (2 * (Int32.toInt64 v6)))) + 1)] r2.2.2).bind fun r3 =>
            (C nS_welcome k [.ref 12, .int r2.1, .int r3.1] r3.2.2).bind fun r4 =>
              if r4.1 < 0 then
                R nF_peopleBy k 39 [.ref 0, .int v1, .int v2, .int v3, .int v4, .int v5, .int (v6 + 1), .long ((Int32.toInt64 v3) + (2 * (Int32.toInt64 v6))), .null, .int (Int64.toInt32 ((Int32.toInt64 v3) + (2 * (Int32.toInt64 v6))))] [] r4.2.2
              else
                R nF_peopleBy k 39 [.ref 0, .int v1, .int v2, .int v3, .int v4, .int (v5 + 1), .int (v6 + 1), .long ((Int32.toInt64 v3) + (2 * (Int32.toInt64 v6))), .null, .int (Int64.toInt32 ((Int32.toInt64 v3) + (2 * (Int32.toInt64 v6))))] [] r4.2.2
  else
    some (v5, 0, σ) := (unr_R [39] nF_peopleBy k 400 39 _ _ _).trans rfl
-- X4_taken
set_option maxRecDepth 1000000 in
theorem eF_taken (k : Nat) (p1 : Int32) (p2 : Int32) (σ : Sto) : C nF_taken k [.ref 0, .int p1, .int p2] σ =
  (C nF_within k [.int p2, .int 0, .int 6] σ).bind fun r1 =>
    if r1.1 = 0 then
      some ((-2), 0, r1.2.2)
    else
      (C nF_within k [.int p1, .int 0, .int 11] r1.2.2).bind fun r2 =>
        if r2.1 = 0 then
          some ((-12), 0, r2.2.2)
        else
          if p1 < 6 then
            (C nS_has k [.ref 12, .long (Int32.toInt64 (p1 - p1 / 6 * 6))] r2.2.2).bind fun r3 =>
              if r3.1 = 0 then
                some ((-11), 0, r3.2.2)
              else
                if inb (p1 - p1 / 6 * 6) 6 = true then
                  (C nF_isOfKind k [.int (r3.2.2 13 (p1 - p1 / 6 * 6).toNatClampNeg), .int p2] r3.2.2).bind fun r4 =>
                    if r4.1 = 0 then
                      some ((-13), 0, r4.2.2)
                    else
                      some ((p1 - p1 / 6 * 6), 0, r4.2.2)
                else
                  none
          else
            (C nS_has k [.ref 12, .long (Int32.toInt64 (p1 - p1 / 6 * 6))] r2.2.2).bind fun r3 =>
              if r3.1 = 0 then
                some ((-11), 0, r3.2.2)
              else
                if p2 = 6 then
                  if inb (p1 - p1 / 6 * 6) 6 = true then
                    some ((r3.2.2 17 (p1 - p1 / 6 * 6).toNatClampNeg), 0, r3.2.2)
                  else
                    none
                else
                  some ((-13), 0, r3.2.2) := (unr_R [] nF_taken k 400 0 _ _ _).trans rfl
-- X4_within
theorem eF_within (k : Nat) (p1 : Int32) (p2 : Int32) (p3 : Int32) (σ : Sto) : C nF_within k [.int p1, .int p2, .int p3] σ =
  if p1 < p2 then
    some (0, 0, σ)
  else
    if p3 < p1 then
      some (0, 0, σ)
    else
      some (1, 0, σ) := (unr_R [] nF_within k 400 0 _ _ _).trans rfl
-- X4_isByte
theorem eF_isByte (k : Nat) (p1 : Int32) (σ : Sto) : C nF_isByte k [.int p1] σ =
  (C nF_within k [.int p1, .int 0, .int 255] σ).bind fun r1 =>
    if nok 1 r1.1 = true then
      some (r1.1, 0, r1.2.2)
    else
      none := (unr_R [] nF_isByte k 400 0 _ _ _).trans rfl
-- X4_bit
theorem eF_bit (k : Nat) (p1 : Int32) (σ : Sto) : C nF_bit k [.int p1] σ =
  if p1 = 0 then
    some (0, 0, σ)
  else
    some (1, 0, σ) := (unr_R [] nF_bit k 400 0 _ _ _).trans rfl
-- X4_tapeOne
theorem eF_tapeOne (k : Nat) (p1 : Int32) (σ : Sto) : C nF_tapeOne k [.ref 0, .int p1] σ =
  if (σ 0 7) < 160 then
    if inb (σ 0 7) 160 = true then
      some (0, 0, (su (su σ 1 (σ 0 7).toNatClampNeg p1) 0 7 (((su σ 1 (σ 0 7).toNatClampNeg p1) 0 7) + 1)))
    else
      none
  else
    some (0, 0, σ) := (unr_R [] nF_tapeOne k 400 0 _ _ _).trans rfl
-- X4_isOfKind
theorem eF_isOfKind (k : Nat) (p1 : Int32) (p2 : Int32) (σ : Sto) : C nF_isOfKind k [.int p1, .int p2] σ =
  if p2 = 0 then
    some (1, 0, σ)
  else
    if p1 = p2 then
      some (1, 0, σ)
    else
      if p2 = 1 then
        if p1 = 3 then
          some (1, 0, σ)
        else
          if p2 = 2 then
            if p1 = 4 then
              some (1, 0, σ)
            else
              some (0, 0, σ)
          else
            some (0, 0, σ)
      else
        if p2 = 2 then
          if p1 = 4 then
            some (1, 0, σ)
          else
            some (0, 0, σ)
        else
          some (0, 0, σ) := (unr_R [] nF_isOfKind k 400 0 _ _ _).trans rfl
-- X4_fetchedInThought
theorem eF_fetchedInThought (k : Nat) (p1 : Int32) (σ : Sto) : C nF_fetchedInThought k [.ref 0, .int p1] σ =
  R nF_fetchedInThought k 4 [.ref 0, .int p1, .int 0, .int 0] [] σ := (unr_R [4] nF_fetchedInThought k 400 0 _ _ _).trans rfl
theorem eF_fetchedInThought_4 (k : Nat) (v1 : Int32) (v2 : Int32) (v3 : Int32) (σ : Sto) : R nF_fetchedInThought k 4 [.ref 0, .int v1, .int v2, .int v3] [] σ =
  if v3 < v1 then
    (C nS_passHour k [.ref 18] σ).bind fun r1 =>
      if r1.1 = (-1) then
        R nF_fetchedInThought k 4 [.ref 0, .int v1, .int v2, .int (v3 + 1)] [] r1.2.2
      else
        R nF_fetchedInThought k 4 [.ref 0, .int v1, .int (v2 + 1), .int (v3 + 1)] [] r1.2.2
  else
    some (v2, 0, σ) := (unr_R [4] nF_fetchedInThought k 400 4 _ _ _).trans rfl
-- X4_hoursTillOver
theorem eF_hoursTillOver (k : Nat) (p1 : Int32) (p2 : Int32) (σ : Sto) : C nF_hoursTillOver k [.ref 0, .int p1, .int p2] σ =
  R nF_hoursTillOver k 2 [.ref 0, .int p1, .int p2, .int 0] [] σ := (unr_R [2] nF_hoursTillOver k 400 0 _ _ _).trans rfl
theorem eF_hoursTillOver_2 (k : Nat) (v1 : Int32) (v2 : Int32) (v3 : Int32) (σ : Sto) : R nF_hoursTillOver k 2 [.ref 0, .int v1, .int v2, .int v3] [] σ =
  if v2 < v3 then
    some ((-1), 0, σ)
  else
    (C nS_isOver k [.ref 18, .int v1] σ).bind fun r1 =>
      if r1.1 = 0 then
        if v3 < v2 then
          (C nS_passHour k [.ref 18] r1.2.2).bind fun r2 =>
            R nF_hoursTillOver k 2 [.ref 0, .int v1, .int v2, .int (v3 + 1)] [] r2.2.2
        else
          R nF_hoursTillOver k 2 [.ref 0, .int v1, .int v2, .int (v3 + 1)] [] r1.2.2
      else
        some (v3, 0, r1.2.2) := (unr_R [2] nF_hoursTillOver k 400 2 _ _ _).trans rfl
-- X4_wouldBeAlone
theorem eF_wouldBeAlone (k : Nat) (p1 : Int32) (p2 : Int32) (σ : Sto) : C nF_wouldBeAlone k [.ref 0, .int p1, .int p2] σ =
  (C nF_within k [.int p2, .int 0, .int 63] σ).bind fun r1 =>
    if r1.1 = 0 then
      some (0, 0, r1.2.2)
    else
      if inb p1 6 = true then
        (C nS_isAlone k [.ref 18, .int p1] (su r1.2.2 21 p1.toNatClampNeg p2)).bind fun r2 =>
          if nok 1 r2.1 = true then
            some (r2.1, 0, r2.2.2)
          else
            none
      else
        none := (unr_R [] nF_wouldBeAlone k 400 0 _ _ _).trans rfl
-- X4_othersAloneWithout
theorem eF_othersAloneWithout (k : Nat) (p1 : Int32) (σ : Sto) : C nF_othersAloneWithout k [.ref 0, .int p1] σ =
  (C nS_becomes k [.ref 18, .ref 12] σ).bind fun r1 =>
    R nF_othersAloneWithout k 7 [.ref 0, .int p1, .int 0] [] r1.2.2 := (unr_R [7] nF_othersAloneWithout k 400 0 _ _ _).trans rfl
theorem eF_othersAloneWithout_7 (k : Nat) (v1 : Int32) (v2 : Int32) (σ : Sto) : R nF_othersAloneWithout k 7 [.ref 0, .int v1, .int v2] [] σ =
  if v2 < (σ 12 6) then
    if ((v1 >>> (v2 &&& 31)) &&& 1) = 1 then
      if inb v2 6 = true ∧ zb 1 = true then
        R nF_othersAloneWithout k 7 [.ref 0, .int v1, .int (v2 + 1)] [] (su σ 22 v2.toNatClampNeg 1)
      else
        none
    else
      R nF_othersAloneWithout k 7 [.ref 0, .int v1, .int (v2 + 1)] [] σ
  else
    (C nS_aloneBits k [.ref 18] σ).bind fun r1 =>
      (C nS_seenBits k [.ref 18] r1.2.2).bind fun r2 =>
        if r1.1 = r2.1 then
          some (1, 0, r2.2.2)
        else
          some (0, 0, r2.2.2) := (unr_R [7] nF_othersAloneWithout k 400 7 _ _ _).trans rfl
-- X4_refusalToJudge
theorem eF_refusalToJudge (k : Nat) (p1 : Int32) (σ : Sto) : C nF_refusalToJudge k [.ref 0, .int p1] σ =
  (C nH_has k [.ref 8, .int p1] σ).bind fun r1 =>
    if r1.1 = 0 then
      some ((-2), 0, r1.2.2)
    else
      if inb p1 4 = true then
        if (r1.2.2 10 p1.toNatClampNeg) = (-1) then
          some ((-11), 0, r1.2.2)
        else
          if inb p1 4 = true then
            if 24 < (r1.2.2 11 p1.toNatClampNeg) then
              some ((-2), 0, r1.2.2)
            else
              some (0, 0, r1.2.2)
          else
            none
      else
        none := (unr_R [] nF_refusalToJudge k 400 0 _ _ _).trans rfl
-- X4_firstOtherwise
theorem eF_firstOtherwise (k : Nat) (p1 : Int32) (σ : Sto) : C nF_firstOtherwise k [.ref 0, .int p1] σ =
  R nF_firstOtherwise k 2 [.ref 0, .int p1, .int 0] [] σ := (unr_R [2] nF_firstOtherwise k 400 0 _ _ _).trans rfl
theorem eF_firstOtherwise_2 (k : Nat) (v1 : Int32) (v2 : Int32) (σ : Sto) : R nF_firstOtherwise k 2 [.ref 0, .int v1, .int v2] [] σ =
  if inb v1 4 = true then
    if v2 < (σ 11 v1.toNatClampNeg) then
      (C nS_passHour k [.ref 18] σ).bind fun r1 =>
        (C nH_read k [.ref 8, .int v1, .int v2] r1.2.2).bind fun r2 =>
          if (r1.1 + 1) = r2.1 then
            R nF_firstOtherwise k 2 [.ref 0, .int v1, .int (v2 + 1)] [] r2.2.2
          else
            some (v2, 0, r2.2.2)
    else
      some ((-1), 0, σ)
  else
    none := (unr_R [2] nF_firstOtherwise k 400 2 _ _ _).trans rfl
-- X4_fetchedAmongGulls
theorem eF_fetchedAmongGulls (k : Nat) (p1 : Int32) (σ : Sto) : C nF_fetchedAmongGulls k [.ref 0, .int p1] σ =
  (C nS_becomes k [.ref 18, .ref 12] σ).bind fun r1 =>
    R nF_fetchedAmongGulls k 14 [.ref 0, .int p1, .long ((Int32.toInt64 p1) + 1), .null, .int 0, .int 0, .null] [] r1.2.2 := (unr_R [14, 50] nF_fetchedAmongGulls k 400 0 _ _ _).trans rfl
theorem eF_fetchedAmongGulls_14 (k : Nat) (v1 : Int32) (v2 : Int64) (v4 : Int32) (v5 : Int32) (u6 : Value) (σ : Sto) : R nF_fetchedAmongGulls k 14 [.ref 0, .int v1, .long v2, .null, .int v4, .int v5, u6] [] σ =
  if v5 < 12 then
    (C nF_lotAfter k [.long v2] σ).bind fun r1 =>
      (C nF_lotAfter k [.long r1.2.1] r1.2.2).bind fun r2 =>
        (C nS_has k [.ref 18, .long (Int32.toInt64 (Int64.toInt32 (r1.2.1 - r1.2.1 / 6 * 6)))] r2.2.2).bind fun r3 =>
          if r3.1 = 0 then
            R nF_fetchedAmongGulls k 50 [.ref 0, .int v1, .long r2.2.1, .null, .int v4, .int v5, .int (Int64.toInt32 (r1.2.1 - r1.2.1 / 6 * 6))] [] r3.2.2
          else
            if inb (Int64.toInt32 (r1.2.1 - r1.2.1 / 6 * 6)) 6 = true then
              if (r3.2.2 21 (Int64.toInt32 (r1.2.1 - r1.2.1 / 6 * 6)).toNatClampNeg) = (-1) then
                R nF_fetchedAmongGulls k 50 [.ref 0, .int v1, .long r2.2.1, .null, .int v4, .int v5, .int (Int64.toInt32 (r1.2.1 - r1.2.1 / 6 * 6))] [] r3.2.2
              else
                if inb (Int64.toInt32 (r1.2.1 - r1.2.1 / 6 * 6)) 6 = true then
                  R nF_fetchedAmongGulls k 50 [.ref 0, .int v1, .long r2.2.1, .null, .int v4, .int v5, .int (Int64.toInt32 (r1.2.1 - r1.2.1 / 6 * 6))] [] (su r3.2.2 21 (Int64.toInt32 (r1.2.1 - r1.2.1 / 6 * 6)).toNatClampNeg (Int64.toInt32 (r2.2.1 - r2.2.1 / 64 * 64)))
                else
                  none
            else
              none
  else
    some (v4, 0, σ) := (unr_R [14, 50] nF_fetchedAmongGulls k 400 14 _ _ _).trans rfl
theorem eF_fetchedAmongGulls_50 (k : Nat) (v1 : Int32) (v2 : Int64) (v4 : Int32) (v5 : Int32) (v6 : Int32) (σ : Sto) : R nF_fetchedAmongGulls k 50 [.ref 0, .int v1, .long v2, .null, .int v4, .int v5, .int v6] [] σ =
  (C nS_passHour k [.ref 18] σ).bind fun r1 =>
    if r1.1 = (-1) then
      R nF_fetchedAmongGulls k 14 [.ref 0, .int v1, .long v2, .null, .int v4, .int (v5 + 1), .int v6] [] r1.2.2
    else
      R nF_fetchedAmongGulls k 14 [.ref 0, .int v1, .long v2, .null, .int (v4 + 1), .int (v5 + 1), .int v6] [] r1.2.2 := (unr_R [14, 50] nF_fetchedAmongGulls k 400 50 _ _ _).trans rfl
-- X4_lotAfter
theorem eF_lotAfter (k : Nat) (p1 : Int64) (σ : Sto) : C nF_lotAfter k [.long p1] σ =
  some (0, ((p1 * 48271) - (p1 * 48271) / 2147483647 * 2147483647), σ) := (unr_R [] nF_lotAfter k 400 0 _ _ _).trans rfl
-- X4_fraction
theorem eF_fraction (k : Nat) (p1 : Int64) (p2 : Int64) (p3 : Int32) (σ : Sto) : C nF_fraction k [.long p1, .long p2, .int p3] σ =
  if (lg_cmp p2 1) < 0 then
    some (0, (-4611686018427387904), σ)
  else
    (C nF_within k [.int p3, .int 0, .int 1] σ).bind fun r1 =>
      if r1.1 = 0 then
        some (0, (-4611686018427387904), r1.2.2)
      else
        R nF_fraction k 17 [.long p1, .null, .long p2, .null, .int p3, .long p2, .null, .long p1, .null, .int 0, .null, .null] [] r1.2.2 := (unr_R [17] nF_fraction k 400 0 _ _ _).trans rfl
set_option maxRecDepth 1000000 in
theorem eF_fraction_17 (k : Nat) (v0 : Int64) (v2 : Int64) (v4 : Int32) (v5 : Int64) (v7 : Int64) (v9 : Int32) (u10 : Value) (σ : Sto) : R nF_fraction k 17 [.long v0, .null, .long v2, .null, .int v4, .long v5, .null, .long v7, .null, .int v9, u10, .null] [] σ =
  if (lg_cmp (Int32.toInt64 v9) 100) < 0 then
    if (lg_cmp v7 0) = 0 then
      if (lg_cmp v5 0) = 0 then
        some (0, (-4611686018427387904), σ)
      else
        if v4 = 0 then
          if v5 = 0 then
            none
          else
            some (0, (v0 / v5), σ)
        else
          if v5 = 0 then
            none
          else
            some (0, (v2 / v5), σ)
    else
      if v7 = 0 then
        none
      else
        R nF_fraction k 17 [.long v0, .null, .long v2, .null, .int v4, .long v7, .null, .long (v5 - v5 / v7 * v7), .null, .int (v9 + 1), .long (v5 - v5 / v7 * v7), .null] [] σ
  else
    if (lg_cmp v5 0) = 0 then
      some (0, (-4611686018427387904), σ)
    else
      if v4 = 0 then
        if v5 = 0 then
          none
        else
          some (0, (v0 / v5), σ)
      else
        if v5 = 0 then
          none
        else
          some (0, (v2 / v5), σ) := (unr_R [17] nF_fraction k 400 17 _ _ _).trans rfl
end
section
/-! EQUATIONS of the methods 104 .. 156 -/
-- X5_in
theorem eM_in (k : Nat) (p1 : Int32) (p2 : Int32) (p3 : Int32) (σ : Sto) : C nM_in k [.int p1, .int p2, .int p3] σ =
  if p1 < p2 then
    some (0, 0, σ)
  else
    if p3 < p1 then
      some (0, 0, σ)
    else
      some (1, 0, σ) := (unr_R [] nM_in k 400 0 _ _ _).trans rfl
-- X5_within
theorem eM_within (k : Nat) (p1 : Int32) (p2 : Int32) (p3 : Int32) (σ : Sto) : C nM_within k [.int p1, .int p2, .int p3] σ =
  if p1 < p2 then
    some (p2, 0, σ)
  else
    if p3 < p1 then
      some (p3, 0, σ)
    else
      some (p1, 0, σ) := (unr_R [] nM_within k 400 0 _ _ _).trans rfl
-- X5_onesOf
theorem eM_onesOf (k : Nat) (p1 : Int32) (σ : Sto) : C nM_onesOf k [.int p1] σ =
  R nM_onesOf k 4 [.int p1, .int 0, .int 0] [] σ := (unr_R [4] nM_onesOf k 400 0 _ _ _).trans rfl
theorem eM_onesOf_4 (k : Nat) (v0 : Int32) (v1 : Int32) (v2 : Int32) (σ : Sto) : R nM_onesOf k 4 [.int v0, .int v1, .int v2] [] σ =
  if v2 < 6 then
    R nM_onesOf k 4 [.int v0, .int (v1 + ((v0 >>> (v2 &&& 31)) &&& 1)), .int (v2 + 1)] [] σ
  else
    some (v1, 0, σ) := (unr_R [4] nM_onesOf k 400 4 _ _ _).trans rfl
-- X5_isOne
theorem eM_isOne (k : Nat) (p1 : Int32) (σ : Sto) : C nM_isOne k [.ref 30, .int p1] σ =
  (C nM_in k [.int p1, .int 0, .int ((σ 30 0) - 1)] σ).bind fun r1 =>
    if nok 1 r1.1 = true then
      some (r1.1, 0, r1.2.2)
    else
      none := (unr_R [] nM_isOne k 400 0 _ _ _).trans rfl
-- X5_isAt
theorem eM_isAt (k : Nat) (p1 : Int32) (σ : Sto) : C nM_isAt k [.ref 30, .int p1] σ =
  if inb (3 * p1) 18 = true then
    if (σ 33 (3 * p1).toNatClampNeg) = (-1) then
      some (0, 0, σ)
    else
      some (1, 0, σ)
  else
    none := (unr_R [] nM_isAt k 400 0 _ _ _).trans rfl
-- X5_isSeen
theorem eM_isSeen (k : Nat) (p1 : Int32) (σ : Sto) : C nM_isSeen k [.ref 30, .int p1] σ =
  (C nM_isAt k [.ref 30, .int p1] σ).bind fun r1 =>
    if r1.1 = 0 then
      some (0, 0, r1.2.2)
    else
      if inb ((3 * p1) + 1) 18 = true then
        if (r1.2.2 33 ((3 * p1) + 1).toNatClampNeg) = 0 then
          some (1, 0, r1.2.2)
        else
          some (0, 0, r1.2.2)
      else
        none := (unr_R [] nM_isSeen k 400 0 _ _ _).trans rfl
-- X5_seenSet
theorem eM_seenSet (k : Nat) (σ : Sto) : C nM_seenSet k [.ref 30] σ =
  R nM_seenSet k 4 [.ref 30, .int 0, .int 0] [] σ := (unr_R [4] nM_seenSet k 400 0 _ _ _).trans rfl
theorem eM_seenSet_4 (k : Nat) (v1 : Int32) (v2 : Int32) (σ : Sto) : R nM_seenSet k 4 [.ref 30, .int v1, .int v2] [] σ =
  if v2 < (σ 30 0) then
    (C nM_isSeen k [.ref 30, .int v2] σ).bind fun r1 =>
      if r1.1 = 0 then
        R nM_seenSet k 4 [.ref 30, .int (v1 ||| 0), .int (v2 + 1)] [] r1.2.2
      else
        R nM_seenSet k 4 [.ref 30, .int (v1 ||| (1 <<< (v2 &&& 31))), .int (v2 + 1)] [] r1.2.2
  else
    some (v1, 0, σ) := (unr_R [4] nM_seenSet k 400 4 _ _ _).trans rfl
-- X5_isOver
theorem eM_isOver (k : Nat) (p1 : Int32) (σ : Sto) : C nM_isOver k [.ref 30, .int p1] σ =
  (C nM_isAt k [.ref 30, .int p1] σ).bind fun r1 =>
    if r1.1 = 0 then
      if (r1.2.2 34 (1 : Int32).toNatClampNeg) = p1 then
        some (0, 0, r1.2.2)
      else
        some (1, 0, r1.2.2)
    else
      some (0, 0, r1.2.2) := (unr_R [] nM_isOver k 400 0 _ _ _).trans rfl
-- X5_overSet
theorem eM_overSet (k : Nat) (σ : Sto) : C nM_overSet k [.ref 30] σ =
  R nM_overSet k 4 [.ref 30, .int 0, .int 0] [] σ := (unr_R [4] nM_overSet k 400 0 _ _ _).trans rfl
theorem eM_overSet_4 (k : Nat) (v1 : Int32) (v2 : Int32) (σ : Sto) : R nM_overSet k 4 [.ref 30, .int v1, .int v2] [] σ =
  if v2 < (σ 30 0) then
    (C nM_isOver k [.ref 30, .int v2] σ).bind fun r1 =>
      if r1.1 = 0 then
        R nM_overSet k 4 [.ref 30, .int (v1 ||| 0), .int (v2 + 1)] [] r1.2.2
      else
        R nM_overSet k 4 [.ref 30, .int (v1 ||| (1 <<< (v2 &&& 31))), .int (v2 + 1)] [] r1.2.2
  else
    some (v1, 0, σ) := (unr_R [4] nM_overSet k 400 4 _ _ _).trans rfl
-- X5_count
theorem eM_count (k : Nat) (p1 : Int32) (σ : Sto) : C nM_count k [.ref 30, .int p1] σ =
  if p1 = 0 then
    some ((σ 30 0), 0, σ)
  else
    if p1 = 1 then
      some ((σ 34 (3 : Int32).toNatClampNeg), 0, σ)
    else
      if p1 = 2 then
        some ((σ 34 (2 : Int32).toNatClampNeg), 0, σ)
      else
        if p1 = 3 then
          some ((σ 30 9), 0, σ)
        else
          if p1 = 4 then
            some ((σ 30 10), 0, σ)
          else
            if p1 = 5 then
              some ((σ 30 6), 0, σ)
            else
              some ((-2), 0, σ) := (unr_R [] nM_count k 400 0 _ _ _).trans rfl
-- X5_bay
theorem eM_bay (k : Nat) (p1 : Int32) (p2 : Int32) (σ : Sto) : C nM_bay k [.ref 30, .int p1, .int p2] σ =
  (C nM_in k [.int p1, .int 0, .int 1] σ).bind fun r1 =>
    if r1.1 = 0 then
      some ((-2), 0, r1.2.2)
    else
      if p1 = 0 then
        (C nM_in k [.int p2, .int 0, .int 9999] r1.2.2).bind fun r2 =>
          if r2.1 = 0 then
            some ((-2), 0, r2.2.2)
          else
            if p1 = 0 then
              some ((r2.2.2 34 (3 : Int32).toNatClampNeg), 0, (su r2.2.2 34 (3 : Int32).toNatClampNeg p2))
            else
              some ((r2.2.2 34 (0 : Int32).toNatClampNeg), 0, (su r2.2.2 34 (0 : Int32).toNatClampNeg p2))
      else
        (C nM_in k [.int p2, .int 0, .int 99] r1.2.2).bind fun r2 =>
          if r2.1 = 0 then
            some ((-2), 0, r2.2.2)
          else
            if p1 = 0 then
              some ((r2.2.2 34 (3 : Int32).toNatClampNeg), 0, (su r2.2.2 34 (3 : Int32).toNatClampNeg p2))
            else
              some ((r2.2.2 34 (0 : Int32).toNatClampNeg), 0, (su r2.2.2 34 (0 : Int32).toNatClampNeg p2)) := (unr_R [] nM_bay k 400 0 _ _ _).trans rfl
-- X5_ferry
theorem eM_ferry (k : Nat) (p1 : Int32) (σ : Sto) : C nM_ferry k [.ref 30, .int p1] σ =
  if p1 = 0 then
    if inb p1 4 = true then
      some ((σ 34 p1.toNatClampNeg), 0, σ)
    else
      none
  else
    if p1 = 1 then
      if inb p1 4 = true then
        some ((σ 34 p1.toNatClampNeg), 0, σ)
      else
        none
    else
      if p1 = 2 then
        (C nM_choice k [.ref 30] σ).bind fun r1 =>
          some (r1.1, 0, r1.2.2)
      else
        if p1 = 3 then
          (C nM_aloneSet k [.ref 30] σ).bind fun r1 =>
            some (r1.1, 0, r1.2.2)
        else
          if p1 = 4 then
            (C nM_seenSet k [.ref 30] σ).bind fun r1 =>
              some (r1.1, 0, r1.2.2)
          else
            if p1 = 5 then
              (C nM_overSet k [.ref 30] σ).bind fun r1 =>
                some (r1.1, 0, r1.2.2)
            else
              some ((-7), 0, σ) := (unr_R [] nM_ferry k 400 0 _ _ _).trans rfl
-- X5_isByte
theorem eM_isByte (k : Nat) (p1 : Int32) (σ : Sto) : C nM_isByte k [.int p1] σ =
  (C nM_in k [.int p1, .int 0, .int 255] σ).bind fun r1 =>
    if nok 1 r1.1 = true then
      some (r1.1, 0, r1.2.2)
    else
      none := (unr_R [] nM_isByte k 400 0 _ _ _).trans rfl
-- X5_feed
theorem eM_feed (k : Nat) (p1 : Int32) (p2 : Int32) (p3 : Int32) (p4 : Int32) (p5 : Int32) (p6 : Int32) (σ : Sto) : C nM_feed k [.ref 30, .int p1, .int p2, .int p3, .int p4, .int p5, .int p6] σ =
  (C nM_in k [.int p1, .int 1, .int 5] σ).bind fun r1 =>
    if r1.1 = 0 then
      some ((-2), 0, r1.2.2)
    else
      (C nM_isByte k [.int p2] r1.2.2).bind fun r2 =>
        if r2.1 = 0 then
          some ((-2), 0, r2.2.2)
        else
          (C nM_isByte k [.int p3] r2.2.2).bind fun r3 =>
            if r3.1 = 0 then
              some ((-2), 0, r3.2.2)
            else
              (C nM_isByte k [.int p4] r3.2.2).bind fun r4 =>
                if r4.1 = 0 then
                  some ((-2), 0, r4.2.2)
                else
                  (C nM_isByte k [.int p5] r4.2.2).bind fun r5 =>
                    if r5.1 = 0 then
                      some ((-2), 0, r5.2.2)
                    else
                      (C nM_isByte k [.int p6] r5.2.2).bind fun r6 =>
                        if r6.1 = 0 then
                          some ((-2), 0, r6.2.2)
                        else
                          if 160 < ((r6.2.2 30 6) + p1) then
                            some ((-4), 0, r6.2.2)
                          else
                            R nM_feed k 32 [.ref 30, .int p1, .int p2, .int p3, .int p4, .int p5, .int p6, .int 0] [] r6.2.2 := (unr_R [32, 59] nM_feed k 400 0 _ _ _).trans rfl
theorem eM_feed_32 (k : Nat) (v1 : Int32) (v2 : Int32) (v3 : Int32) (v4 : Int32) (v5 : Int32) (v6 : Int32) (v7 : Int32) (σ : Sto) : R nM_feed k 32 [.ref 30, .int v1, .int v2, .int v3, .int v4, .int v5, .int v6, .int v7] [] σ =
  if v7 < v1 then
    if v7 = 0 then
      R nM_feed k 59 [.ref 30, .int v1, .int v2, .int v3, .int v4, .int v5, .int v6, .int v7] [.int v2, .int (σ 30 6), .ref 35] σ
    else
      if v7 = 1 then
        R nM_feed k 59 [.ref 30, .int v1, .int v2, .int v3, .int v4, .int v5, .int v6, .int v7] [.int v3, .int (σ 30 6), .ref 35] σ
      else
        if v7 = 2 then
          R nM_feed k 59 [.ref 30, .int v1, .int v2, .int v3, .int v4, .int v5, .int v6, .int v7] [.int v4, .int (σ 30 6), .ref 35] σ
        else
          if v7 = 3 then
            R nM_feed k 59 [.ref 30, .int v1, .int v2, .int v3, .int v4, .int v5, .int v6, .int v7] [.int v5, .int (σ 30 6), .ref 35] σ
          else
            R nM_feed k 59 [.ref 30, .int v1, .int v2, .int v3, .int v4, .int v5, .int v6, .int v7] [.int v6, .int (σ 30 6), .ref 35] σ
  else
    some ((σ 30 6), 0, σ) := (unr_R [32, 59] nM_feed k 400 32 _ _ _).trans rfl
theorem eM_feed_59 (k : Nat) (v1 : Int32) (v2 : Int32) (v3 : Int32) (v4 : Int32) (v5 : Int32) (v6 : Int32) (v7 : Int32) (s0 : Int32) (s1 : Int32) (σ : Sto) : R nM_feed k 59 [.ref 30, .int v1, .int v2, .int v3, .int v4, .int v5, .int v6, .int v7] [.int s0, .int s1, .ref 35] σ =
  if inb s1 160 = true then
    R nM_feed k 32 [.ref 30, .int v1, .int v2, .int v3, .int v4, .int v5, .int v6, .int (v7 + 1)] [] (su (su σ 35 s1.toNatClampNeg s0) 30 6 (((su σ 35 s1.toNatClampNeg s0) 30 6) + 1))
  else
    none := (unr_R [32, 59] nM_feed k 400 59 _ _ _).trans rfl
-- X5_wordFrom
theorem eM_wordFrom (k : Nat) (p1 : Int32) (p2 : Int32) (σ : Sto) : C nM_wordFrom k [.ref 30, .int p1, .int p2] σ =
  R nM_wordFrom k 2 [.ref 30, .int p1, .int p2, .int 0, .null, .null] [] σ := (unr_R [2, 16, 42] nM_wordFrom k 400 0 _ _ _).trans rfl
theorem eM_wordFrom_2 (k : Nat) (v1 : Int32) (v2 : Int32) (v3 : Int32) (u4 : Value) (u5 : Value) (σ : Sto) : R nM_wordFrom k 2 [.ref 30, .int v1, .int v2, .int v3, u4, u5] [] σ =
  if v3 < 12 then
    if 8 < (v2 - v1) then
      R nM_wordFrom k 16 [.ref 30, .int v1, .int v2, .int v3, .int 0, .int 0] [] σ
    else
      R nM_wordFrom k 16 [.ref 30, .int v1, .int v2, .int v3, .int 1, .int 0] [] σ
  else
    some (12, 0, σ) := (unr_R [2, 16, 42] nM_wordFrom k 400 2 _ _ _).trans rfl
theorem eM_wordFrom_16 (k : Nat) (v1 : Int32) (v2 : Int32) (v3 : Int32) (v4 : Int32) (v5 : Int32) (σ : Sto) : R nM_wordFrom k 16 [.ref 30, .int v1, .int v2, .int v3, .int v4, .int v5] [] σ =
  if v5 < 8 then
    if v4 = 0 then
      if v4 = 0 then
        R nM_wordFrom k 2 [.ref 30, .int v1, .int v2, .int (v3 + 1), .int v4, .int v5] [] σ
      else
        some (v3, 0, σ)
    else
      if inb ((8 * v3) + v5) 96 = true then
        if (v1 + v5) < v2 then
          if inb (v1 + v5) 160 = true then
            R nM_wordFrom k 42 [.ref 30, .int v1, .int v2, .int v3, .int v4, .int v5] [.int (σ 35 (v1 + v5).toNatClampNeg), .int (σ 44 ((8 * v3) + v5).toNatClampNeg)] σ
          else
            none
        else
          R nM_wordFrom k 42 [.ref 30, .int v1, .int v2, .int v3, .int v4, .int v5] [.int 32, .int (σ 44 ((8 * v3) + v5).toNatClampNeg)] σ
      else
        none
  else
    if v4 = 0 then
      R nM_wordFrom k 2 [.ref 30, .int v1, .int v2, .int (v3 + 1), .int v4, .int v5] [] σ
    else
      some (v3, 0, σ) := (unr_R [2, 16, 42] nM_wordFrom k 400 16 _ _ _).trans rfl
theorem eM_wordFrom_42 (k : Nat) (v1 : Int32) (v2 : Int32) (v3 : Int32) (v4 : Int32) (v5 : Int32) (s0 : Int32) (s1 : Int32) (σ : Sto) : R nM_wordFrom k 42 [.ref 30, .int v1, .int v2, .int v3, .int v4, .int v5] [.int s0, .int s1] σ =
  if s1 = s0 then
    R nM_wordFrom k 16 [.ref 30, .int v1, .int v2, .int v3, .int 1, .int (v5 + 1)] [] σ
  else
    R nM_wordFrom k 16 [.ref 30, .int v1, .int v2, .int v3, .int 0, .int (v5 + 1)] [] σ := (unr_R [2, 16, 42] nM_wordFrom k 400 42 _ _ _).trans rfl
-- X5_next
theorem eM_next (k : Nat) (σ : Sto) : C nM_next k [.ref 30] σ =
  if (σ 30 18) < (σ 30 6) then
    if inb (σ 30 18) 160 = true then
      if (σ 35 (σ 30 18).toNatClampNeg) = 32 then
        R nM_next k 19 [.ref 30, .null, .null] [] σ
      else
        if inb (σ 30 18) 160 = true then
          if (σ 35 (σ 30 18).toNatClampNeg) = 10 then
            R nM_next k 19 [.ref 30, .null, .null] [] σ
          else
            R nM_next k 26 [.ref 30, .null, .null] [] σ
        else
          none
    else
      none
  else
    R nM_next k 26 [.ref 30, .null, .null] [] σ := (unr_R [0, 19, 26, 53, 74, 102, 112, 121, 153, 162, 169, 195, 198, 205, 212] nM_next k 400 0 _ _ _).trans rfl
theorem eM_next_0 (k : Nat) (σ : Sto) : R nM_next k 0 [.ref 30, .null, .null] [] σ =
  if (σ 30 18) < (σ 30 6) then
    if inb (σ 30 18) 160 = true then
      if (σ 35 (σ 30 18).toNatClampNeg) = 32 then
        R nM_next k 19 [.ref 30, .null, .null] [] σ
      else
        if inb (σ 30 18) 160 = true then
          if (σ 35 (σ 30 18).toNatClampNeg) = 10 then
            R nM_next k 19 [.ref 30, .null, .null] [] σ
          else
            R nM_next k 26 [.ref 30, .null, .null] [] σ
        else
          none
    else
      none
  else
    R nM_next k 26 [.ref 30, .null, .null] [] σ := (unr_R [0, 19, 26, 53, 74, 102, 112, 121, 153, 162, 169, 195, 198, 205, 212] nM_next k 400 0 _ _ _).trans rfl
theorem eM_next_19 (k : Nat) (σ : Sto) : R nM_next k 19 [.ref 30, .null, .null] [] σ =
  R nM_next k 0 [.ref 30, .null, .null] [] (su σ 30 18 ((σ 30 18) + 1)) := (unr_R [0, 19, 26, 53, 74, 102, 112, 121, 153, 162, 169, 195, 198, 205, 212] nM_next k 400 19 _ _ _).trans rfl
set_option maxRecDepth 1000000 in
theorem eM_next_26 (k : Nat) (σ : Sto) : R nM_next k 26 [.ref 30, .null, .null] [] σ =
  if ((su (su (su σ 30 19 (σ 30 18)) 30 20 0) 30 21 0) 30 18) = ((su (su (su σ 30 19 (σ 30 18)) 30 20 0) 30 21 0) 30 6) then
    some (0, 0, (su (su (su σ 30 19 (σ 30 18)) 30 20 0) 30 21 0))
  else
    if inb ((su (su (su σ 30 19 (σ 30 18)) 30 20 0) 30 21 0) 30 18) 160 = true then
      (C nM_in k [.int ((su (su (su σ 30 19 (σ 30 18)) 30 20 0) 30 21 0) 35 ((su (su (su σ 30 19 (σ 30 18)) 30 20 0) 30 21 0) 30 18).toNatClampNeg), .int 97, .int 122] (su (su (su σ 30 19 (σ 30 18)) 30 20 0) 30 21 0)).bind fun r1 =>
        if r1.1 = 0 then
          (C nM_in k [.int ((su (su (su σ 30 19 (σ 30 18)) 30 20 0) 30 21 0) 35 ((su (su (su σ 30 19 (σ 30 18)) 30 20 0) 30 21 0) 30 18).toNatClampNeg), .int 48, .int 57] r1.2.2).bind fun r2 =>
            if r2.1 = 0 then
              if ((su (su (su σ 30 19 (σ 30 18)) 30 20 0) 30 21 0) 35 ((su (su (su σ 30 19 (σ 30 18)) 30 20 0) 30 21 0) 30 18).toNatClampNeg) = 40 then
                R nM_next k 195 [.ref 30, .int ((su (su (su σ 30 19 (σ 30 18)) 30 20 0) 30 21 0) 35 ((su (su (su σ 30 19 (σ 30 18)) 30 20 0) 30 21 0) 30 18).toNatClampNeg), .null] [] r2.2.2
              else
                if ((su (su (su σ 30 19 (σ 30 18)) 30 20 0) 30 21 0) 35 ((su (su (su σ 30 19 (σ 30 18)) 30 20 0) 30 21 0) 30 18).toNatClampNeg) = 41 then
                  R nM_next k 195 [.ref 30, .int ((su (su (su σ 30 19 (σ 30 18)) 30 20 0) 30 21 0) 35 ((su (su (su σ 30 19 (σ 30 18)) 30 20 0) 30 21 0) 30 18).toNatClampNeg), .null] [] r2.2.2
                else
                  if ((su (su (su σ 30 19 (σ 30 18)) 30 20 0) 30 21 0) 35 ((su (su (su σ 30 19 (σ 30 18)) 30 20 0) 30 21 0) 30 18).toNatClampNeg) = 59 then
                    R nM_next k 195 [.ref 30, .int ((su (su (su σ 30 19 (σ 30 18)) 30 20 0) 30 21 0) 35 ((su (su (su σ 30 19 (σ 30 18)) 30 20 0) 30 21 0) 30 18).toNatClampNeg), .null] [] r2.2.2
                  else
                    if ((su (su (su σ 30 19 (σ 30 18)) 30 20 0) 30 21 0) 35 ((su (su (su σ 30 19 (σ 30 18)) 30 20 0) 30 21 0) 30 18).toNatClampNeg) = 43 then
                      R nM_next k 195 [.ref 30, .int ((su (su (su σ 30 19 (σ 30 18)) 30 20 0) 30 21 0) 35 ((su (su (su σ 30 19 (σ 30 18)) 30 20 0) 30 21 0) 30 18).toNatClampNeg), .null] [] r2.2.2
                    else
                      if ((su (su (su σ 30 19 (σ 30 18)) 30 20 0) 30 21 0) 35 ((su (su (su σ 30 19 (σ 30 18)) 30 20 0) 30 21 0) 30 18).toNatClampNeg) = 45 then
                        R nM_next k 195 [.ref 30, .int ((su (su (su σ 30 19 (σ 30 18)) 30 20 0) 30 21 0) 35 ((su (su (su σ 30 19 (σ 30 18)) 30 20 0) 30 21 0) 30 18).toNatClampNeg), .null] [] r2.2.2
                      else
                        if ((su (su (su σ 30 19 (σ 30 18)) 30 20 0) 30 21 0) 35 ((su (su (su σ 30 19 (σ 30 18)) 30 20 0) 30 21 0) 30 18).toNatClampNeg) = 42 then
                          R nM_next k 195 [.ref 30, .int ((su (su (su σ 30 19 (σ 30 18)) 30 20 0) 30 21 0) 35 ((su (su (su σ 30 19 (σ 30 18)) 30 20 0) 30 21 0) 30 18).toNatClampNeg), .null] [] r2.2.2
                        else
                          if ((su (su (su σ 30 19 (σ 30 18)) 30 20 0) 30 21 0) 35 ((su (su (su σ 30 19 (σ 30 18)) 30 20 0) 30 21 0) 30 18).toNatClampNeg) = 60 then
                            R nM_next k 195 [.ref 30, .int ((su (su (su σ 30 19 (σ 30 18)) 30 20 0) 30 21 0) 35 ((su (su (su σ 30 19 (σ 30 18)) 30 20 0) 30 21 0) 30 18).toNatClampNeg), .null] [] r2.2.2
                          else
                            if ((su (su (su σ 30 19 (σ 30 18)) 30 20 0) 30 21 0) 35 ((su (su (su σ 30 19 (σ 30 18)) 30 20 0) 30 21 0) 30 18).toNatClampNeg) = 61 then
                              R nM_next k 195 [.ref 30, .int ((su (su (su σ 30 19 (σ 30 18)) 30 20 0) 30 21 0) 35 ((su (su (su σ 30 19 (σ 30 18)) 30 20 0) 30 21 0) 30 18).toNatClampNeg), .null] [] r2.2.2
                            else
                              R nM_next k 198 [.ref 30, .int ((su (su (su σ 30 19 (σ 30 18)) 30 20 0) 30 21 0) 35 ((su (su (su σ 30 19 (σ 30 18)) 30 20 0) 30 21 0) 30 18).toNatClampNeg), .null] [.int 0] r2.2.2
            else
              R nM_next k 121 [.ref 30, .int ((su (su (su σ 30 19 (σ 30 18)) 30 20 0) 30 21 0) 35 ((su (su (su σ 30 19 (σ 30 18)) 30 20 0) 30 21 0) 30 18).toNatClampNeg), .int 0] [] r2.2.2
        else
          R nM_next k 53 [.ref 30, .int ((su (su (su σ 30 19 (σ 30 18)) 30 20 0) 30 21 0) 35 ((su (su (su σ 30 19 (σ 30 18)) 30 20 0) 30 21 0) 30 18).toNatClampNeg), .null] [] r1.2.2
    else
      none := (unr_R [0, 19, 26, 53, 74, 102, 112, 121, 153, 162, 169, 195, 198, 205, 212] nM_next k 400 26 _ _ _).trans rfl
theorem eM_next_53 (k : Nat) (v1 : Int32) (σ : Sto) : R nM_next k 53 [.ref 30, .int v1, .null] [] σ =
  if (σ 30 18) < (σ 30 6) then
    if inb (σ 30 18) 160 = true then
      (C nM_in k [.int (σ 35 (σ 30 18).toNatClampNeg), .int 97, .int 122] σ).bind fun r1 =>
        if r1.1 = 0 then
          R nM_next k 74 [.ref 30, .int v1, .null] [] r1.2.2
        else
          R nM_next k 53 [.ref 30, .int v1, .null] [] (su r1.2.2 30 18 ((r1.2.2 30 18) + 1))
    else
      none
  else
    R nM_next k 74 [.ref 30, .int v1, .null] [] σ := (unr_R [0, 19, 26, 53, 74, 102, 112, 121, 153, 162, 169, 195, 198, 205, 212] nM_next k 400 53 _ _ _).trans rfl
theorem eM_next_74 (k : Nat) (v1 : Int32) (σ : Sto) : R nM_next k 74 [.ref 30, .int v1, .null] [] σ =
  (C nM_wordFrom k [.ref 30, .int (σ 30 19), .int (σ 30 18)] σ).bind fun r1 =>
    if r1.1 < 3 then
      R nM_next k 102 [.ref 30, .int v1, .int r1.1] [.int 3, .ref 30] r1.2.2
    else
      if r1.1 < 9 then
        R nM_next k 102 [.ref 30, .int v1, .int r1.1] [.int 2, .ref 30] r1.2.2
      else
        if r1.1 = 12 then
          R nM_next k 102 [.ref 30, .int v1, .int r1.1] [.int (-1), .ref 30] r1.2.2
        else
          R nM_next k 102 [.ref 30, .int v1, .int r1.1] [.int ((4 + r1.1) - 9), .ref 30] r1.2.2 := (unr_R [0, 19, 26, 53, 74, 102, 112, 121, 153, 162, 169, 195, 198, 205, 212] nM_next k 400 74 _ _ _).trans rfl
theorem eM_next_102 (k : Nat) (v1 : Int32) (v2 : Int32) (s0 : Int32) (σ : Sto) : R nM_next k 102 [.ref 30, .int v1, .int v2] [.int s0, .ref 30] σ =
  if v2 < 3 then
    R nM_next k 112 [.ref 30, .int v1, .int v2] [.int v2, .ref 30] (su σ 30 20 s0)
  else
    R nM_next k 112 [.ref 30, .int v1, .int v2] [.int (v2 - 3), .ref 30] (su σ 30 20 s0) := (unr_R [0, 19, 26, 53, 74, 102, 112, 121, 153, 162, 169, 195, 198, 205, 212] nM_next k 400 102 _ _ _).trans rfl
theorem eM_next_112 (k : Nat) (v1 : Int32) (v2 : Int32) (s0 : Int32) (σ : Sto) : R nM_next k 112 [.ref 30, .int v1, .int v2] [.int s0, .ref 30] σ =
  R nM_next k 212 [.ref 30, .int v1, .int v2] [] (su σ 30 21 s0) := (unr_R [0, 19, 26, 53, 74, 102, 112, 121, 153, 162, 169, 195, 198, 205, 212] nM_next k 400 112 _ _ _).trans rfl
theorem eM_next_121 (k : Nat) (v1 : Int32) (v2 : Int32) (σ : Sto) : R nM_next k 121 [.ref 30, .int v1, .int v2] [] σ =
  if (σ 30 18) < (σ 30 6) then
    if inb (σ 30 18) 160 = true then
      (C nM_in k [.int (σ 35 (σ 30 18).toNatClampNeg), .int 48, .int 57] σ).bind fun r1 =>
        if r1.1 = 0 then
          R nM_next k 162 [.ref 30, .int v1, .int v2] [] r1.2.2
        else
          if v2 < 4 then
            if inb (r1.2.2 30 18) 160 = true then
              R nM_next k 153 [.ref 30, .int v1, .int v2] [.int (((10 * (r1.2.2 30 21)) + (r1.2.2 35 (r1.2.2 30 18).toNatClampNeg)) - 48), .ref 30] r1.2.2
            else
              none
          else
            R nM_next k 153 [.ref 30, .int v1, .int v2] [.int 0, .ref 30] r1.2.2
    else
      none
  else
    R nM_next k 162 [.ref 30, .int v1, .int v2] [] σ := (unr_R [0, 19, 26, 53, 74, 102, 112, 121, 153, 162, 169, 195, 198, 205, 212] nM_next k 400 121 _ _ _).trans rfl
theorem eM_next_153 (k : Nat) (v1 : Int32) (v2 : Int32) (s0 : Int32) (σ : Sto) : R nM_next k 153 [.ref 30, .int v1, .int v2] [.int s0, .ref 30] σ =
  R nM_next k 121 [.ref 30, .int v1, .int (v2 + 1)] [] (su (su σ 30 21 s0) 30 18 (((su σ 30 21 s0) 30 18) + 1)) := (unr_R [0, 19, 26, 53, 74, 102, 112, 121, 153, 162, 169, 195, 198, 205, 212] nM_next k 400 153 _ _ _).trans rfl
theorem eM_next_162 (k : Nat) (v1 : Int32) (v2 : Int32) (σ : Sto) : R nM_next k 162 [.ref 30, .int v1, .int v2] [] σ =
  if 4 < v2 then
    R nM_next k 169 [.ref 30, .int v1, .int v2] [.int (-1), .ref 30] σ
  else
    R nM_next k 169 [.ref 30, .int v1, .int v2] [.int 1, .ref 30] σ := (unr_R [0, 19, 26, 53, 74, 102, 112, 121, 153, 162, 169, 195, 198, 205, 212] nM_next k 400 162 _ _ _).trans rfl
theorem eM_next_169 (k : Nat) (v1 : Int32) (v2 : Int32) (s0 : Int32) (σ : Sto) : R nM_next k 169 [.ref 30, .int v1, .int v2] [.int s0, .ref 30] σ =
  R nM_next k 212 [.ref 30, .int v1, .int v2] [] (su σ 30 20 s0) := (unr_R [0, 19, 26, 53, 74, 102, 112, 121, 153, 162, 169, 195, 198, 205, 212] nM_next k 400 169 _ _ _).trans rfl
theorem eM_next_195 (k : Nat) (v1 : Int32) (σ : Sto) : R nM_next k 195 [.ref 30, .int v1, .null] [] σ =
  R nM_next k 198 [.ref 30, .int v1, .null] [.int 1] σ := (unr_R [0, 19, 26, 53, 74, 102, 112, 121, 153, 162, 169, 195, 198, 205, 212] nM_next k 400 195 _ _ _).trans rfl
theorem eM_next_198 (k : Nat) (v1 : Int32) (s0 : Int32) (σ : Sto) : R nM_next k 198 [.ref 30, .int v1, .null] [.int s0] σ =
  if s0 = 0 then
    R nM_next k 205 [.ref 30, .int v1, .int s0] [.int (-1), .ref 30] σ
  else
    R nM_next k 205 [.ref 30, .int v1, .int s0] [.int v1, .ref 30] σ := (unr_R [0, 19, 26, 53, 74, 102, 112, 121, 153, 162, 169, 195, 198, 205, 212] nM_next k 400 198 _ _ _).trans rfl
theorem eM_next_205 (k : Nat) (v1 : Int32) (v2 : Int32) (s0 : Int32) (σ : Sto) : R nM_next k 205 [.ref 30, .int v1, .int v2] [.int s0, .ref 30] σ =
  R nM_next k 212 [.ref 30, .int v1, .int v2] [] (su (su σ 30 20 s0) 30 18 (((su σ 30 20 s0) 30 18) + 1)) := (unr_R [0, 19, 26, 53, 74, 102, 112, 121, 153, 162, 169, 195, 198, 205, 212] nM_next k 400 205 _ _ _).trans rfl
theorem eM_next_212 (k : Nat) (v1 : Int32) (v2 : Int32) (σ : Sto) : R nM_next k 212 [.ref 30, .int v1, .int v2] [] σ =
  some (0, 0, σ) := (unr_R [0, 19, 26, 53, 74, 102, 112, 121, 153, 162, 169, 195, 198, 205, 212] nM_next k 400 212 _ _ _).trans rfl
-- X5_rank
theorem eM_rank (k : Nat) (p1 : Int32) (σ : Sto) : C nM_rank k [.int p1] σ =
  if p1 = 0 then
    some (0, 0, σ)
  else
    if p1 = 11 then
      some (1, 0, σ)
    else
      if p1 = 12 then
        some (2, 0, σ)
      else
        if p1 = 13 then
          some (3, 0, σ)
        else
          if 15 < p1 then
            if 17 < p1 then
              if p1 = 18 then
                some (6, 0, σ)
              else
                some (7, 0, σ)
            else
              some (5, 0, σ)
          else
            some (4, 0, σ) := (unr_R [] nM_rank k 400 0 _ _ _).trans rfl
-- X5_puts
theorem eM_puts (k : Nat) (p1 : Int32) (σ : Sto) : C nM_puts k [.ref 30, .int p1] σ =
  if inb ((200 * (σ 30 9)) + (σ 30 26)) 1200 = true then
    some (0, 0, (su (su σ 36 ((200 * (σ 30 9)) + (σ 30 26)).toNatClampNeg p1) 30 26 (((su σ 36 ((200 * (σ 30 9)) + (σ 30 26)).toNatClampNeg p1) 30 26) + 1)))
  else
    none := (unr_R [] nM_puts k 400 0 _ _ _).trans rfl
-- X5_unwinds
theorem eM_unwinds (k : Nat) (p1 : Int32) (σ : Sto) : C nM_unwinds k [.ref 30, .int p1] σ =
  if 0 < (σ 30 24) then
    if inb ((σ 30 24) - 1) 200 = true then
      (C nM_rank k [.int (σ 45 ((σ 30 24) - 1).toNatClampNeg)] σ).bind fun r1 =>
        if r1.1 < p1 then
          some (0, 0, r1.2.2)
        else
          if inb ((su r1.2.2 30 24 ((r1.2.2 30 24) - 1)) 30 24) 200 = true then
            if ((su r1.2.2 30 24 ((r1.2.2 30 24) - 1)) 45 ((su r1.2.2 30 24 ((r1.2.2 30 24) - 1)) 30 24).toNatClampNeg) = 13 then
              (C nM_puts k [.ref 30, .int ((su r1.2.2 30 24 ((r1.2.2 30 24) - 1)) 45 ((su r1.2.2 30 24 ((r1.2.2 30 24) - 1)) 30 24).toNatClampNeg)] (su (su r1.2.2 30 24 ((r1.2.2 30 24) - 1)) 30 25 (((su r1.2.2 30 24 ((r1.2.2 30 24) - 1)) 30 25) - 1))).bind fun r2 =>
                R nM_unwinds k 0 [.ref 30, .int p1, .int ((su r1.2.2 30 24 ((r1.2.2 30 24) - 1)) 45 ((su r1.2.2 30 24 ((r1.2.2 30 24) - 1)) 30 24).toNatClampNeg)] [] r2.2.2
            else
              if ((su r1.2.2 30 24 ((r1.2.2 30 24) - 1)) 45 ((su r1.2.2 30 24 ((r1.2.2 30 24) - 1)) 30 24).toNatClampNeg) = 19 then
                (C nM_puts k [.ref 30, .int ((su r1.2.2 30 24 ((r1.2.2 30 24) - 1)) 45 ((su r1.2.2 30 24 ((r1.2.2 30 24) - 1)) 30 24).toNatClampNeg)] (su (su r1.2.2 30 24 ((r1.2.2 30 24) - 1)) 30 25 (((su r1.2.2 30 24 ((r1.2.2 30 24) - 1)) 30 25) - 1))).bind fun r2 =>
                  R nM_unwinds k 0 [.ref 30, .int p1, .int ((su r1.2.2 30 24 ((r1.2.2 30 24) - 1)) 45 ((su r1.2.2 30 24 ((r1.2.2 30 24) - 1)) 30 24).toNatClampNeg)] [] r2.2.2
              else
                (C nM_puts k [.ref 30, .int ((su r1.2.2 30 24 ((r1.2.2 30 24) - 1)) 45 ((su r1.2.2 30 24 ((r1.2.2 30 24) - 1)) 30 24).toNatClampNeg)] (su (su r1.2.2 30 24 ((r1.2.2 30 24) - 1)) 30 25 (((su r1.2.2 30 24 ((r1.2.2 30 24) - 1)) 30 25) - 0))).bind fun r2 =>
                  R nM_unwinds k 0 [.ref 30, .int p1, .int ((su r1.2.2 30 24 ((r1.2.2 30 24) - 1)) 45 ((su r1.2.2 30 24 ((r1.2.2 30 24) - 1)) 30 24).toNatClampNeg)] [] r2.2.2
          else
            none
    else
      none
  else
    some (0, 0, σ) := (unr_R [0] nM_unwinds k 400 0 _ _ _).trans rfl
theorem eM_unwinds_0 (k : Nat) (v1 : Int32) (v2 : Int32) (σ : Sto) : R nM_unwinds k 0 [.ref 30, .int v1, .int v2] [] σ =
  if 0 < (σ 30 24) then
    if inb ((σ 30 24) - 1) 200 = true then
      (C nM_rank k [.int (σ 45 ((σ 30 24) - 1).toNatClampNeg)] σ).bind fun r1 =>
        if r1.1 < v1 then
          some (0, 0, r1.2.2)
        else
          if inb ((su r1.2.2 30 24 ((r1.2.2 30 24) - 1)) 30 24) 200 = true then
            if ((su r1.2.2 30 24 ((r1.2.2 30 24) - 1)) 45 ((su r1.2.2 30 24 ((r1.2.2 30 24) - 1)) 30 24).toNatClampNeg) = 13 then
              (C nM_puts k [.ref 30, .int ((su r1.2.2 30 24 ((r1.2.2 30 24) - 1)) 45 ((su r1.2.2 30 24 ((r1.2.2 30 24) - 1)) 30 24).toNatClampNeg)] (su (su r1.2.2 30 24 ((r1.2.2 30 24) - 1)) 30 25 (((su r1.2.2 30 24 ((r1.2.2 30 24) - 1)) 30 25) - 1))).bind fun r2 =>
                R nM_unwinds k 0 [.ref 30, .int v1, .int ((su r1.2.2 30 24 ((r1.2.2 30 24) - 1)) 45 ((su r1.2.2 30 24 ((r1.2.2 30 24) - 1)) 30 24).toNatClampNeg)] [] r2.2.2
            else
              if ((su r1.2.2 30 24 ((r1.2.2 30 24) - 1)) 45 ((su r1.2.2 30 24 ((r1.2.2 30 24) - 1)) 30 24).toNatClampNeg) = 19 then
                (C nM_puts k [.ref 30, .int ((su r1.2.2 30 24 ((r1.2.2 30 24) - 1)) 45 ((su r1.2.2 30 24 ((r1.2.2 30 24) - 1)) 30 24).toNatClampNeg)] (su (su r1.2.2 30 24 ((r1.2.2 30 24) - 1)) 30 25 (((su r1.2.2 30 24 ((r1.2.2 30 24) - 1)) 30 25) - 1))).bind fun r2 =>
                  R nM_unwinds k 0 [.ref 30, .int v1, .int ((su r1.2.2 30 24 ((r1.2.2 30 24) - 1)) 45 ((su r1.2.2 30 24 ((r1.2.2 30 24) - 1)) 30 24).toNatClampNeg)] [] r2.2.2
              else
                (C nM_puts k [.ref 30, .int ((su r1.2.2 30 24 ((r1.2.2 30 24) - 1)) 45 ((su r1.2.2 30 24 ((r1.2.2 30 24) - 1)) 30 24).toNatClampNeg)] (su (su r1.2.2 30 24 ((r1.2.2 30 24) - 1)) 30 25 (((su r1.2.2 30 24 ((r1.2.2 30 24) - 1)) 30 25) - 0))).bind fun r2 =>
                  R nM_unwinds k 0 [.ref 30, .int v1, .int ((su r1.2.2 30 24 ((r1.2.2 30 24) - 1)) 45 ((su r1.2.2 30 24 ((r1.2.2 30 24) - 1)) 30 24).toNatClampNeg)] [] r2.2.2
          else
            none
    else
      none
  else
    some (0, 0, σ) := (unr_R [0] nM_unwinds k 400 0 _ _ _).trans rfl
-- X5_holds
theorem eM_holds (k : Nat) (p1 : Int32) (σ : Sto) : C nM_holds k [.ref 30, .int p1] σ =
  if inb (σ 30 24) 200 = true then
    some (0, 0, (su (su σ 45 (σ 30 24).toNatClampNeg p1) 30 24 (((su σ 45 (σ 30 24).toNatClampNeg p1) 30 24) + 1)))
  else
    none := (unr_R [] nM_holds k 400 0 _ _ _).trans rfl
-- X5_opensOne
theorem eM_opensOne (k : Nat) (p1 : Int32) (σ : Sto) : C nM_opensOne k [.ref 30, .int p1] σ =
  if (σ 30 25) = 5 then
    some (0, 0, σ)
  else
    (C nM_holds k [.ref 30, .int p1] (su σ 30 25 ((σ 30 25) + 1))).bind fun r1 =>
      some (1, 0, r1.2.2) := (unr_R [] nM_opensOne k 400 0 _ _ _).trans rfl
-- X5_between
set_option maxRecDepth 1000000 in
theorem eM_between (k : Nat) (p1 : Int32) (σ : Sto) : C nM_between k [.ref 30, .int p1] σ =
  (C nM_rank k [.int p1] σ).bind fun r1 =>
    if r1.1 = 4 then
      (C nM_unwinds k [.ref 30, .int 5] r1.2.2).bind fun r2 =>
        (C nM_rank k [.int p1] r2.2.2).bind fun r3 =>
          if r3.1 = 4 then
            if 0 < (r3.2.2 30 24) then
              if inb ((r3.2.2 30 24) - 1) 200 = true then
                (C nM_rank k [.int (r3.2.2 45 ((r3.2.2 30 24) - 1).toNatClampNeg)] r3.2.2).bind fun r4 =>
                  if r4.1 = 4 then
                    some (0, 0, r4.2.2)
                  else
                    (C nM_holds k [.ref 30, .int p1] r4.2.2).bind fun r5 =>
                      some (1, 0, r5.2.2)
              else
                none
            else
              (C nM_holds k [.ref 30, .int p1] r3.2.2).bind fun r4 =>
                some (1, 0, r4.2.2)
          else
            (C nM_holds k [.ref 30, .int p1] r3.2.2).bind fun r4 =>
              some (1, 0, r4.2.2)
    else
      (C nM_rank k [.int p1] r1.2.2).bind fun r2 =>
        (C nM_unwinds k [.ref 30, .int r2.1] r2.2.2).bind fun r3 =>
          (C nM_rank k [.int p1] r3.2.2).bind fun r4 =>
            if r4.1 = 4 then
              if 0 < (r4.2.2 30 24) then
                if inb ((r4.2.2 30 24) - 1) 200 = true then
                  (C nM_rank k [.int (r4.2.2 45 ((r4.2.2 30 24) - 1).toNatClampNeg)] r4.2.2).bind fun r5 =>
                    if r5.1 = 4 then
                      some (0, 0, r5.2.2)
                    else
                      (C nM_holds k [.ref 30, .int p1] r5.2.2).bind fun r6 =>
                        some (1, 0, r6.2.2)
                else
                  none
              else
                (C nM_holds k [.ref 30, .int p1] r4.2.2).bind fun r5 =>
                  some (1, 0, r5.2.2)
            else
              (C nM_holds k [.ref 30, .int p1] r4.2.2).bind fun r5 =>
                some (1, 0, r5.2.2) := (unr_R [] nM_between k 400 0 _ _ _).trans rfl
-- X5_signOf
theorem eM_signOf (k : Nat) (σ : Sto) : C nM_signOf k [.ref 30] σ =
  if (σ 30 20) = 4 then
    some (11, 0, σ)
  else
    if (σ 30 20) = 5 then
      some (12, 0, σ)
    else
      if (σ 30 20) = 60 then
        some (14, 0, σ)
      else
        if (σ 30 20) = 61 then
          some (15, 0, σ)
        else
          if (σ 30 20) = 43 then
            some (16, 0, σ)
          else
            if (σ 30 20) = 45 then
              some (17, 0, σ)
            else
              if (σ 30 20) = 42 then
                some (18, 0, σ)
              else
                some ((-1), 0, σ) := (unr_R [] nM_signOf k 400 0 _ _ _).trans rfl
-- X5_eRead
theorem eM_eRead (k : Nat) (σ : Sto) : C nM_eRead k [.ref 30] σ =
  R nM_eRead k 10 [.ref 30, .int 1, .int 1, .null] [] (su (su σ 30 24 0) 30 25 0) := (unr_R [10, 22, 34, 53, 94, 133, 143] nM_eRead k 400 0 _ _ _).trans rfl
set_option maxRecDepth 1000000 in
theorem eM_eRead_10 (k : Nat) (v1 : Int32) (v2 : Int32) (u3 : Value) (σ : Sto) : R nM_eRead k 10 [.ref 30, .int v1, .int v2, u3] [] σ =
  (C nM_next k [.ref 30] σ).bind fun r1 =>
    if v1 = 0 then
      if (r1.2.2 30 20) = 59 then
        (C nM_unwinds k [.ref 30, .int 1] r1.2.2).bind fun r2 =>
          if (r2.2.2 30 24) = 0 then
            R nM_eRead k 94 [.ref 30, .int v1, .int v2, u3] [.int 1] r2.2.2
          else
            R nM_eRead k 94 [.ref 30, .int v1, .int v2, u3] [.int 0] r2.2.2
      else
        if (r1.2.2 30 20) = 41 then
          (C nM_unwinds k [.ref 30, .int 1] r1.2.2).bind fun r2 =>
            if (r2.2.2 30 24) = 0 then
              some (0, 0, r2.2.2)
            else
              (C nM_unwinds k [.ref 30, .int 7] (su (su r2.2.2 30 24 ((r2.2.2 30 24) - 1)) 30 25 (((su r2.2.2 30 24 ((r2.2.2 30 24) - 1)) 30 25) - 1))).bind fun r3 =>
                R nM_eRead k 10 [.ref 30, .int v1, .int v2, u3] [] r3.2.2
        else
          (C nM_signOf k [.ref 30] r1.2.2).bind fun r2 =>
            if r2.1 = (-1) then
              R nM_eRead k 133 [.ref 30, .int v1, .int v2, .int r2.1] [] r2.2.2
            else
              (C nM_between k [.ref 30, .int r2.1] r2.2.2).bind fun r3 =>
                if r3.1 = 0 then
                  R nM_eRead k 133 [.ref 30, .int v1, .int v2, .int r2.1] [] r3.2.2
                else
                  if 12 < r2.1 then
                    R nM_eRead k 143 [.ref 30, .int 1, .int v2, .int r2.1] [.int 0] r3.2.2
                  else
                    R nM_eRead k 143 [.ref 30, .int 1, .int v2, .int r2.1] [.int 1] r3.2.2
    else
      if (r1.2.2 30 20) = 1 then
        R nM_eRead k 22 [.ref 30, .int v1, .int v2, u3] [] r1.2.2
      else
        if (r1.2.2 30 20) = 2 then
          R nM_eRead k 22 [.ref 30, .int v1, .int v2, u3] [] r1.2.2
        else
          if (r1.2.2 30 20) = 6 then
            if v2 = 0 then
              R nM_eRead k 53 [.ref 30, .int v1, .int v2, u3] [] r1.2.2
            else
              (C nM_opensOne k [.ref 30, .int 13] r1.2.2).bind fun r2 =>
                if r2.1 = 0 then
                  some (0, 0, r2.2.2)
                else
                  R nM_eRead k 10 [.ref 30, .int v1, .int v2, u3] [] r2.2.2
          else
            R nM_eRead k 53 [.ref 30, .int v1, .int v2, u3] [] r1.2.2 := (unr_R [10, 22, 34, 53, 94, 133, 143] nM_eRead k 400 10 _ _ _).trans rfl
theorem eM_eRead_22 (k : Nat) (v1 : Int32) (v2 : Int32) (u3 : Value) (σ : Sto) : R nM_eRead k 22 [.ref 30, .int v1, .int v2, u3] [] σ =
  if (σ 30 20) = 1 then
    R nM_eRead k 34 [.ref 30, .int v1, .int v2, u3] [.int (100000 + (σ 30 21)), .ref 30] σ
  else
    R nM_eRead k 34 [.ref 30, .int v1, .int v2, u3] [.int (σ 30 21), .ref 30] σ := (unr_R [10, 22, 34, 53, 94, 133, 143] nM_eRead k 400 22 _ _ _).trans rfl
theorem eM_eRead_34 (k : Nat) (v1 : Int32) (v2 : Int32) (u3 : Value) (s0 : Int32) (σ : Sto) : R nM_eRead k 34 [.ref 30, .int v1, .int v2, u3] [.int s0, .ref 30] σ =
  (C nM_puts k [.ref 30, .int s0] σ).bind fun r1 =>
    (C nM_unwinds k [.ref 30, .int 7] r1.2.2).bind fun r2 =>
      R nM_eRead k 10 [.ref 30, .int 0, .int v2, u3] [] r2.2.2 := (unr_R [10, 22, 34, 53, 94, 133, 143] nM_eRead k 400 34 _ _ _).trans rfl
theorem eM_eRead_53 (k : Nat) (v1 : Int32) (v2 : Int32) (u3 : Value) (σ : Sto) : R nM_eRead k 53 [.ref 30, .int v1, .int v2, u3] [] σ =
  if (σ 30 20) = 45 then
    (C nM_opensOne k [.ref 30, .int 19] σ).bind fun r1 =>
      if r1.1 = 0 then
        some (0, 0, r1.2.2)
      else
        R nM_eRead k 10 [.ref 30, .int v1, .int 0, u3] [] r1.2.2
  else
    if (σ 30 20) = 40 then
      (C nM_opensOne k [.ref 30, .int 0] σ).bind fun r1 =>
        if r1.1 = 0 then
          some (0, 0, r1.2.2)
        else
          R nM_eRead k 10 [.ref 30, .int v1, .int 1, u3] [] r1.2.2
    else
      some (0, 0, σ) := (unr_R [10, 22, 34, 53, 94, 133, 143] nM_eRead k 400 53 _ _ _).trans rfl
theorem eM_eRead_94 (k : Nat) (v1 : Int32) (v2 : Int32) (u3 : Value) (s0 : Int32) (σ : Sto) : R nM_eRead k 94 [.ref 30, .int v1, .int v2, u3] [.int s0] σ =
  if nok 1 s0 = true then
    some (s0, 0, σ)
  else
    none := (unr_R [10, 22, 34, 53, 94, 133, 143] nM_eRead k 400 94 _ _ _).trans rfl
theorem eM_eRead_133 (k : Nat) (v1 : Int32) (v2 : Int32) (v3 : Int32) (σ : Sto) : R nM_eRead k 133 [.ref 30, .int v1, .int v2, .int v3] [] σ =
  some (0, 0, σ) := (unr_R [10, 22, 34, 53, 94, 133, 143] nM_eRead k 400 133 _ _ _).trans rfl
theorem eM_eRead_143 (k : Nat) (v1 : Int32) (v2 : Int32) (v3 : Int32) (s0 : Int32) (σ : Sto) : R nM_eRead k 143 [.ref 30, .int v1, .int v2, .int v3] [.int s0] σ =
  R nM_eRead k 10 [.ref 30, .int v1, .int s0, .int v3] [] σ := (unr_R [10, 22, 34, 53, 94, 133, 143] nM_eRead k 400 143 _ _ _).trans rfl
-- X5_text
theorem eM_text (k : Nat) (σ : Sto) : C nM_text k [.ref 30] σ =
  if (σ 30 9) = 6 then
    some ((-4), 0, σ)
  else
    R nM_text k 16 [.ref 30, .int 1, .int 0] [] (su (su σ 30 18 0) 30 26 0) := (unr_R [16, 33, 57] nM_text k 400 0 _ _ _).trans rfl
theorem eM_text_16 (k : Nat) (v1 : Int32) (v2 : Int32) (σ : Sto) : R nM_text k 16 [.ref 30, .int v1, .int v2] [] σ =
  if v2 < 3 then
    if v1 = 0 then
      R nM_text k 57 [.ref 30, .int v1, .int v2] [] σ
    else
      (C nM_next k [.ref 30] σ).bind fun r1 =>
        if (r1.2.2 30 20) = 3 then
          if (r1.2.2 30 21) = v2 then
            if inb ((4 * (r1.2.2 30 9)) + v2) 24 = true then
              (C nM_eRead k [.ref 30] (su r1.2.2 37 ((4 * (r1.2.2 30 9)) + v2).toNatClampNeg (r1.2.2 30 26))).bind fun r2 =>
                if r2.1 = 0 then
                  R nM_text k 16 [.ref 30, .int 0, .int (v2 + 1)] [] r2.2.2
                else
                  R nM_text k 16 [.ref 30, .int 1, .int (v2 + 1)] [] r2.2.2
            else
              none
          else
            R nM_text k 33 [.ref 30, .int v1, .int v2] [] r1.2.2
        else
          R nM_text k 33 [.ref 30, .int v1, .int v2] [] r1.2.2
  else
    R nM_text k 57 [.ref 30, .int v1, .int v2] [] σ := (unr_R [16, 33, 57] nM_text k 400 16 _ _ _).trans rfl
theorem eM_text_33 (k : Nat) (v1 : Int32) (v2 : Int32) (σ : Sto) : R nM_text k 33 [.ref 30, .int v1, .int v2] [] σ =
  if inb ((4 * (σ 30 9)) + v2) 24 = true then
    R nM_text k 16 [.ref 30, .int 0, .int (v2 + 1)] [] (su σ 37 ((4 * (σ 30 9)) + v2).toNatClampNeg (σ 30 26))
  else
    none := (unr_R [16, 33, 57] nM_text k 400 33 _ _ _).trans rfl
theorem eM_text_57 (k : Nat) (v1 : Int32) (v2 : Int32) (σ : Sto) : R nM_text k 57 [.ref 30, .int v1, .int v2] [] σ =
  if v1 = 0 then
    if inb ((4 * (σ 30 9)) + 3) 24 = true then
      if v1 = 0 then
        some (((-100) - ((su (su σ 37 ((4 * (σ 30 9)) + 3).toNatClampNeg (σ 30 26)) 30 6 0) 30 19)), 0, (su (su σ 37 ((4 * (σ 30 9)) + 3).toNatClampNeg (σ 30 26)) 30 6 0))
      else
        some ((((su (su (su σ 37 ((4 * (σ 30 9)) + 3).toNatClampNeg (σ 30 26)) 30 6 0) 30 9 (((su (su σ 37 ((4 * (σ 30 9)) + 3).toNatClampNeg (σ 30 26)) 30 6 0) 30 9) + 1)) 30 9) - 1), 0, (su (su (su σ 37 ((4 * (σ 30 9)) + 3).toNatClampNeg (σ 30 26)) 30 6 0) 30 9 (((su (su σ 37 ((4 * (σ 30 9)) + 3).toNatClampNeg (σ 30 26)) 30 6 0) 30 9) + 1)))
    else
      none
  else
    (C nM_next k [.ref 30] σ).bind fun r1 =>
      if (r1.2.2 30 20) = 0 then
        if inb ((4 * (r1.2.2 30 9)) + 3) 24 = true then
          some ((((su (su (su r1.2.2 37 ((4 * (r1.2.2 30 9)) + 3).toNatClampNeg (r1.2.2 30 26)) 30 6 0) 30 9 (((su (su r1.2.2 37 ((4 * (r1.2.2 30 9)) + 3).toNatClampNeg (r1.2.2 30 26)) 30 6 0) 30 9) + 1)) 30 9) - 1), 0, (su (su (su r1.2.2 37 ((4 * (r1.2.2 30 9)) + 3).toNatClampNeg (r1.2.2 30 26)) 30 6 0) 30 9 (((su (su r1.2.2 37 ((4 * (r1.2.2 30 9)) + 3).toNatClampNeg (r1.2.2 30 26)) 30 6 0) 30 9) + 1)))
        else
          none
      else
        if inb ((4 * (r1.2.2 30 9)) + 3) 24 = true then
          some (((-100) - ((su (su r1.2.2 37 ((4 * (r1.2.2 30 9)) + 3).toNatClampNeg (r1.2.2 30 26)) 30 6 0) 30 19)), 0, (su (su r1.2.2 37 ((4 * (r1.2.2 30 9)) + 3).toNatClampNeg (r1.2.2 30 26)) 30 6 0))
        else
          none := (unr_R [16, 33, 57] nM_text k 400 57 _ _ _).trans rfl
-- X5_two
set_option maxRecDepth 1000000 in
theorem eM_two (k : Nat) (p1 : Int32) (p2 : Int32) (p3 : Int32) (σ : Sto) : C nM_two k [.int p1, .int p2, .int p3] σ =
  if p1 = 11 then
    if p2 = 0 then
      if p3 = 0 then
        some (0, 0, σ)
      else
        some (1, 0, σ)
    else
      some (1, 0, σ)
  else
    if p1 = 12 then
      if p2 = 0 then
        some (0, 0, σ)
      else
        if p3 = 0 then
          some (0, 0, σ)
        else
          some (1, 0, σ)
    else
      if p1 = 13 then
        some ((p2 * p3), 0, σ)
      else
        if p1 = 14 then
          if p2 < p3 then
            some (1, 0, σ)
          else
            some (0, 0, σ)
        else
          if p1 = 15 then
            if p2 = p3 then
              some (1, 0, σ)
            else
              some (0, 0, σ)
          else
            if p1 = 16 then
              some ((p2 + p3), 0, σ)
            else
              if p1 = 17 then
                some ((p2 - p3), 0, σ)
              else
                some ((p2 * p3), 0, σ) := (unr_R [] nM_two k 400 0 _ _ _).trans rfl
-- X5_says
theorem eM_says (k : Nat) (p1 : Int32) (σ : Sto) : C nM_says k [.ref 30, .int p1] σ =
  if inb ((4 * (σ 30 10)) + p1) 24 = true then
    R nM_says k 12 [.ref 30, .int p1, .int 0, .int (σ 37 ((4 * (σ 30 10)) + p1).toNatClampNeg), .null] [] σ
  else
    none := (unr_R [12, 25, 41, 58, 96] nM_says k 400 0 _ _ _).trans rfl
theorem eM_says_12 (k : Nat) (v1 : Int32) (v2 : Int32) (v3 : Int32) (u4 : Value) (σ : Sto) : R nM_says k 12 [.ref 30, .int v1, .int v2, .int v3, u4] [] σ =
  if inb (((4 * (σ 30 10)) + v1) + 1) 24 = true then
    if v3 < (σ 37 (((4 * (σ 30 10)) + v1) + 1).toNatClampNeg) then
      R nM_says k 25 [.ref 30, .int v1, .int v2, .int v3, u4] [] σ
    else
      some ((σ 46 (0 : Int32).toNatClampNeg), 0, σ)
  else
    none := (unr_R [12, 25, 41, 58, 96] nM_says k 400 12 _ _ _).trans rfl
theorem eM_says_25 (k : Nat) (v1 : Int32) (v2 : Int32) (v3 : Int32) (u4 : Value) (σ : Sto) : R nM_says k 25 [.ref 30, .int v1, .int v2, .int v3, u4] [] σ =
  if inb ((200 * (σ 30 10)) + v3) 1200 = true then
    if (σ 36 ((200 * (σ 30 10)) + v3).toNatClampNeg) < 100000 then
      if (σ 36 ((200 * (σ 30 10)) + v3).toNatClampNeg) < 11 then
        R nM_says k 41 [.ref 30, .int v1, .int v2, .int v3, .int (σ 36 ((200 * (σ 30 10)) + v3).toNatClampNeg)] [] σ
      else
        R nM_says k 58 [.ref 30, .int v1, .int v2, .int v3, .int (σ 36 ((200 * (σ 30 10)) + v3).toNatClampNeg)] [] σ
    else
      R nM_says k 41 [.ref 30, .int v1, .int v2, .int v3, .int (σ 36 ((200 * (σ 30 10)) + v3).toNatClampNeg)] [] σ
  else
    none := (unr_R [12, 25, 41, 58, 96] nM_says k 400 25 _ _ _).trans rfl
theorem eM_says_41 (k : Nat) (v1 : Int32) (v2 : Int32) (v3 : Int32) (v4 : Int32) (σ : Sto) : R nM_says k 41 [.ref 30, .int v1, .int v2, .int v3, .int v4] [] σ =
  if v4 < 11 then
    if inb v4 6 = true then
      if inb v2 200 = true then
        R nM_says k 12 [.ref 30, .int v1, .int (v2 + 1), .int (v3 + 1), .int v4] [] (su σ 46 v2.toNatClampNeg (σ 47 v4.toNatClampNeg))
      else
        none
    else
      none
  else
    if inb v2 200 = true then
      R nM_says k 12 [.ref 30, .int v1, .int (v2 + 1), .int (v3 + 1), .int v4] [] (su σ 46 v2.toNatClampNeg (v4 - 100000))
    else
      none := (unr_R [12, 25, 41, 58, 96] nM_says k 400 41 _ _ _).trans rfl
theorem eM_says_58 (k : Nat) (v1 : Int32) (v2 : Int32) (v3 : Int32) (v4 : Int32) (σ : Sto) : R nM_says k 58 [.ref 30, .int v1, .int v2, .int v3, .int v4] [] σ =
  if v4 = 13 then
    if inb (v2 - 1) 200 = true then
      if (σ 46 (v2 - 1).toNatClampNeg) = 0 then
        if inb (v2 - 1) 200 = true then
          R nM_says k 12 [.ref 30, .int v1, .int v2, .int (v3 + 1), .int v4] [] (su σ 46 (v2 - 1).toNatClampNeg 1)
        else
          none
      else
        if inb (v2 - 1) 200 = true then
          R nM_says k 12 [.ref 30, .int v1, .int v2, .int (v3 + 1), .int v4] [] (su σ 46 (v2 - 1).toNatClampNeg 0)
        else
          none
    else
      none
  else
    if v4 = 19 then
      if inb (v2 - 1) 200 = true then
        if inb (v2 - 1) 200 = true then
          R nM_says k 12 [.ref 30, .int v1, .int v2, .int (v3 + 1), .int v4] [] (su σ 46 (v2 - 1).toNatClampNeg (-(σ 46 (v2 - 1).toNatClampNeg)))
        else
          none
      else
        none
    else
      R nM_says k 96 [.ref 30, .int v1, .int (v2 + (-1)), .int v3, .int v4] [] σ := (unr_R [12, 25, 41, 58, 96] nM_says k 400 58 _ _ _).trans rfl
theorem eM_says_96 (k : Nat) (v1 : Int32) (v2 : Int32) (v3 : Int32) (v4 : Int32) (σ : Sto) : R nM_says k 96 [.ref 30, .int v1, .int v2, .int v3, .int v4] [] σ =
  if inb (v2 - 1) 200 = true then
    if inb v2 200 = true then
      (C nM_two k [.int v4, .int (σ 46 (v2 - 1).toNatClampNeg), .int (σ 46 v2.toNatClampNeg)] σ).bind fun r1 =>
        if inb (v2 - 1) 200 = true then
          R nM_says k 12 [.ref 30, .int v1, .int v2, .int (v3 + 1), .int v4] [] (su r1.2.2 46 (v2 - 1).toNatClampNeg r1.1)
        else
          none
    else
      none
  else
    none := (unr_R [12, 25, 41, 58, 96] nM_says k 400 96 _ _ _).trans rfl
-- X5_force
theorem eM_force (k : Nat) (p1 : Int32) (σ : Sto) : C nM_force k [.ref 30, .int p1] σ =
  (C nM_in k [.int p1, .int 0, .int ((σ 30 9) - 1)] σ).bind fun r1 =>
    if r1.1 = 0 then
      some ((-2), 0, r1.2.2)
    else
      some ((r1.2.2 30 10), 0, (su r1.2.2 30 10 p1)) := (unr_R [] nM_force k 400 0 _ _ _).trans rfl
-- X5_asksOf
set_option maxRecDepth 1000000 in
theorem eM_asksOf (k : Nat) (p1 : Int32) (p2 : Int32) (σ : Sto) : C nM_asksOf k [.ref 30, .int p1, .int p2] σ =
  (C nM_isAt k [.ref 30, .int p2] σ).bind fun r1 =>
    if r1.1 = 0 then
      if inb ((3 * p2) + 2) 18 = true then
        (C nM_seenSet k [.ref 30] (su (su (su r1.2.2 47 (0 : Int32).toNatClampNeg 0) 47 (1 : Int32).toNatClampNeg ((su r1.2.2 47 (0 : Int32).toNatClampNeg 0) 33 ((3 * p2) + 2).toNatClampNeg)) 47 (2 : Int32).toNatClampNeg ((su (su r1.2.2 47 (0 : Int32).toNatClampNeg 0) 47 (1 : Int32).toNatClampNeg ((su r1.2.2 47 (0 : Int32).toNatClampNeg 0) 33 ((3 * p2) + 2).toNatClampNeg)) 34 (3 : Int32).toNatClampNeg))).bind fun r2 =>
          (C nM_onesOf k [.int r2.1] r2.2.2).bind fun r3 =>
            if inb p2 6 = true then
              (C nM_says k [.ref 30, .int p1] (su (su (su r3.2.2 47 (3 : Int32).toNatClampNeg r3.1) 47 (4 : Int32).toNatClampNeg ((su r3.2.2 47 (3 : Int32).toNatClampNeg r3.1) 34 (2 : Int32).toNatClampNeg)) 47 (5 : Int32).toNatClampNeg ((su (su r3.2.2 47 (3 : Int32).toNatClampNeg r3.1) 47 (4 : Int32).toNatClampNeg ((su r3.2.2 47 (3 : Int32).toNatClampNeg r3.1) 34 (2 : Int32).toNatClampNeg)) 32 p2.toNatClampNeg))).bind fun r4 =>
                if p1 = 0 then
                  (C nM_within k [.int r4.1, .int 0, .int 99] r4.2.2).bind fun r5 =>
                    some (r5.1, 0, r5.2.2)
                else
                  (C nM_within k [.int r4.1, .int (-99), .int 99] r4.2.2).bind fun r5 =>
                    some (r5.1, 0, r5.2.2)
            else
              none
      else
        none
    else
      if inb (3 * p2) 18 = true then
        if inb ((3 * p2) + 2) 18 = true then
          (C nM_seenSet k [.ref 30] (su (su (su r1.2.2 47 (0 : Int32).toNatClampNeg (r1.2.2 33 (3 * p2).toNatClampNeg)) 47 (1 : Int32).toNatClampNeg ((su r1.2.2 47 (0 : Int32).toNatClampNeg (r1.2.2 33 (3 * p2).toNatClampNeg)) 33 ((3 * p2) + 2).toNatClampNeg)) 47 (2 : Int32).toNatClampNeg ((su (su r1.2.2 47 (0 : Int32).toNatClampNeg (r1.2.2 33 (3 * p2).toNatClampNeg)) 47 (1 : Int32).toNatClampNeg ((su r1.2.2 47 (0 : Int32).toNatClampNeg (r1.2.2 33 (3 * p2).toNatClampNeg)) 33 ((3 * p2) + 2).toNatClampNeg)) 34 (3 : Int32).toNatClampNeg))).bind fun r2 =>
            (C nM_onesOf k [.int r2.1] r2.2.2).bind fun r3 =>
              if inb p2 6 = true then
                (C nM_says k [.ref 30, .int p1] (su (su (su r3.2.2 47 (3 : Int32).toNatClampNeg r3.1) 47 (4 : Int32).toNatClampNeg ((su r3.2.2 47 (3 : Int32).toNatClampNeg r3.1) 34 (2 : Int32).toNatClampNeg)) 47 (5 : Int32).toNatClampNeg ((su (su r3.2.2 47 (3 : Int32).toNatClampNeg r3.1) 47 (4 : Int32).toNatClampNeg ((su r3.2.2 47 (3 : Int32).toNatClampNeg r3.1) 34 (2 : Int32).toNatClampNeg)) 32 p2.toNatClampNeg))).bind fun r4 =>
                  if p1 = 0 then
                    (C nM_within k [.int r4.1, .int 0, .int 99] r4.2.2).bind fun r5 =>
                      some (r5.1, 0, r5.2.2)
                  else
                    (C nM_within k [.int r4.1, .int (-99), .int 99] r4.2.2).bind fun r5 =>
                      some (r5.1, 0, r5.2.2)
              else
                none
        else
          none
      else
        none := (unr_R [] nM_asksOf k 400 0 _ _ _).trans rfl
-- X5_asks
theorem eM_asks (k : Nat) (p1 : Int32) (p2 : Int32) (σ : Sto) : C nM_asks k [.ref 30, .int p1, .int p2] σ =
  (C nM_in k [.int p1, .int 0, .int 2] σ).bind fun r1 =>
    if r1.1 = 0 then
      some ((-1000), 0, r1.2.2)
    else
      (C nM_isOne k [.ref 30, .int p2] r1.2.2).bind fun r2 =>
        if r2.1 = 0 then
          some ((-1000), 0, r2.2.2)
        else
          (C nM_asksOf k [.ref 30, .int p1, .int p2] r2.2.2).bind fun r3 =>
            some (r3.1, 0, r3.2.2) := (unr_R [] nM_asks k 400 0 _ _ _).trans rfl
-- X5_traveller
theorem eM_traveller (k : Nat) (p1 : Int32) (p2 : Int32) (σ : Sto) : C nM_traveller k [.ref 30, .int p1, .int p2] σ =
  (C nM_in k [.int p1, .int 0, .int 59] σ).bind fun r1 =>
    if r1.1 = 0 then
      some ((-2), 0, r1.2.2)
    else
      (C nM_in k [.int p2, .int 0, .int 63] r1.2.2).bind fun r2 =>
        if r2.1 = 0 then
          some ((-2), 0, r2.2.2)
        else
          if (r2.2.2 30 0) = 6 then
            some ((-4), 0, r2.2.2)
          else
            if inb (r2.2.2 30 0) 6 = true then
              R nM_traveller k 26 [.ref 30, .int p1, .int p2] [] (su r2.2.2 31 (r2.2.2 30 0).toNatClampNeg (p1 / 10))
            else
              none := (unr_R [26, 34, 42, 52, 62] nM_traveller k 400 0 _ _ _).trans rfl
theorem eM_traveller_26 (k : Nat) (v1 : Int32) (v2 : Int32) (σ : Sto) : R nM_traveller k 26 [.ref 30, .int v1, .int v2] [] σ =
  if inb (σ 30 0) 6 = true then
    R nM_traveller k 34 [.ref 30, .int v1, .int v2] [] (su σ 32 (σ 30 0).toNatClampNeg (v1 - v1 / 10 * 10))
  else
    none := (unr_R [26, 34, 42, 52, 62] nM_traveller k 400 26 _ _ _).trans rfl
theorem eM_traveller_34 (k : Nat) (v1 : Int32) (v2 : Int32) (σ : Sto) : R nM_traveller k 34 [.ref 30, .int v1, .int v2] [] σ =
  if inb (3 * (σ 30 0)) 18 = true then
    R nM_traveller k 42 [.ref 30, .int v1, .int v2] [] (su σ 33 (3 * (σ 30 0)).toNatClampNeg v2)
  else
    none := (unr_R [26, 34, 42, 52, 62] nM_traveller k 400 34 _ _ _).trans rfl
theorem eM_traveller_42 (k : Nat) (v1 : Int32) (v2 : Int32) (σ : Sto) : R nM_traveller k 42 [.ref 30, .int v1, .int v2] [] σ =
  if inb ((3 * (σ 30 0)) + 1) 18 = true then
    R nM_traveller k 52 [.ref 30, .int v1, .int v2] [] (su σ 33 ((3 * (σ 30 0)) + 1).toNatClampNeg 0)
  else
    none := (unr_R [26, 34, 42, 52, 62] nM_traveller k 400 42 _ _ _).trans rfl
theorem eM_traveller_52 (k : Nat) (v1 : Int32) (v2 : Int32) (σ : Sto) : R nM_traveller k 52 [.ref 30, .int v1, .int v2] [] σ =
  if inb ((3 * (σ 30 0)) + 2) 18 = true then
    R nM_traveller k 62 [.ref 30, .int v1, .int v2] [] (su σ 33 ((3 * (σ 30 0)) + 2).toNatClampNeg 0)
  else
    none := (unr_R [26, 34, 42, 52, 62] nM_traveller k 400 52 _ _ _).trans rfl
theorem eM_traveller_62 (k : Nat) (v1 : Int32) (v2 : Int32) (σ : Sto) : R nM_traveller k 62 [.ref 30, .int v1, .int v2] [] σ =
  some ((((su σ 30 0 ((σ 30 0) + 1)) 30 0) - 1), 0, (su σ 30 0 ((σ 30 0) + 1))) := (unr_R [26, 34, 42, 52, 62] nM_traveller k 400 62 _ _ _).trans rfl
-- X5_put
theorem eM_put (k : Nat) (p1 : Int32) (p2 : Int32) (p3 : Int32) (σ : Sto) : C nM_put k [.ref 30, .int p1, .int p2, .int p3] σ =
  (C nM_isOne k [.ref 30, .int p1] σ).bind fun r1 =>
    if r1.1 = 0 then
      some ((-5), 0, r1.2.2)
    else
      if p2 = 0 then
        R nM_put k 16 [.ref 30, .int p1, .int p2, .int p3, .null, .null, .null] [.int 63] r1.2.2
      else
        if p2 = 1 then
          R nM_put k 16 [.ref 30, .int p1, .int p2, .int p3, .null, .null, .null] [.int 1] r1.2.2
        else
          R nM_put k 16 [.ref 30, .int p1, .int p2, .int p3, .null, .null, .null] [.int 99] r1.2.2 := (unr_R [16, 28] nM_put k 400 0 _ _ _).trans rfl
theorem eM_put_16 (k : Nat) (v1 : Int32) (v2 : Int32) (v3 : Int32) (s0 : Int32) (σ : Sto) : R nM_put k 16 [.ref 30, .int v1, .int v2, .int v3, .null, .null, .null] [.int s0] σ =
  (C nM_in k [.int v2, .int 0, .int 2] σ).bind fun r1 =>
    if r1.1 = 0 then
      some ((-7), 0, r1.2.2)
    else
      if v2 = 0 then
        R nM_put k 28 [.ref 30, .int v1, .int v2, .int v3, .int s0, .null, .null] [.int (-1), .int v3] r1.2.2
      else
        R nM_put k 28 [.ref 30, .int v1, .int v2, .int v3, .int s0, .null, .null] [.int 0, .int v3] r1.2.2 := (unr_R [16, 28] nM_put k 400 16 _ _ _).trans rfl
theorem eM_put_28 (k : Nat) (v1 : Int32) (v2 : Int32) (v3 : Int32) (v4 : Int32) (s0 : Int32) (s1 : Int32) (σ : Sto) : R nM_put k 28 [.ref 30, .int v1, .int v2, .int v3, .int v4, .null, .null] [.int s0, .int s1] σ =
  (C nM_in k [.int s1, .int s0, .int v4] σ).bind fun r1 =>
    if r1.1 = 0 then
      some ((-7), 0, r1.2.2)
    else
      if v2 = 0 then
        if (r1.2.2 34 (1 : Int32).toNatClampNeg) = v1 then
          some ((-7), 0, r1.2.2)
        else
          if inb ((3 * v1) + v2) 18 = true then
            if inb ((3 * v1) + v2) 18 = true then
              some ((r1.2.2 33 ((3 * v1) + v2).toNatClampNeg), 0, (su r1.2.2 33 ((3 * v1) + v2).toNatClampNeg v3))
            else
              none
          else
            none
      else
        if inb ((3 * v1) + v2) 18 = true then
          if inb ((3 * v1) + v2) 18 = true then
            some ((r1.2.2 33 ((3 * v1) + v2).toNatClampNeg), 0, (su r1.2.2 33 ((3 * v1) + v2).toNatClampNeg v3))
          else
            none
        else
          none := (unr_R [16, 28] nM_put k 400 28 _ _ _).trans rfl
-- X5_gapOf
theorem eM_gapOf (k : Nat) (p1 : Int32) (σ : Sto) : C nM_gapOf k [.ref 30, .int p1] σ =
  if inb p1 6 = true then
    if (σ 31 p1.toNatClampNeg) = 5 then
      some (0, 0, σ)
    else
      (C nM_asksOf k [.ref 30, .int 0, .int p1] σ).bind fun r1 =>
        if inb p1 6 = true then
          if (r1.2.2 31 p1.toNatClampNeg) = 1 then
            some ((r1.1 / 2), 0, r1.2.2)
          else
            if inb p1 6 = true then
              if (r1.2.2 31 p1.toNatClampNeg) = 3 then
                some ((r1.1 / 2), 0, r1.2.2)
              else
                if inb p1 6 = true then
                  if (r1.2.2 31 p1.toNatClampNeg) = 0 then
                    some (r1.1, 0, r1.2.2)
                  else
                    if inb p1 6 = true then
                      some ((r1.1 + (r1.2.2 32 p1.toNatClampNeg)), 0, r1.2.2)
                    else
                      none
                else
                  none
            else
              none
        else
          none
  else
    none := (unr_R [] nM_gapOf k 400 0 _ _ _).trans rfl
-- X5_likedOf
set_option maxRecDepth 1000000 in
theorem eM_likedOf (k : Nat) (p1 : Int32) (σ : Sto) : C nM_likedOf k [.ref 30, .int p1] σ =
  if inb p1 6 = true then
    if (σ 31 p1.toNatClampNeg) = 5 then
      if inb p1 6 = true then
        some ((10 * (σ 32 p1.toNatClampNeg)), 0, σ)
      else
        none
    else
      (C nM_asksOf k [.ref 30, .int 1, .int p1] σ).bind fun r1 =>
        if inb p1 6 = true then
          if (r1.2.2 31 p1.toNatClampNeg) = 1 then
            if inb p1 6 = true then
              some ((r1.1 - (r1.2.2 32 p1.toNatClampNeg)), 0, r1.2.2)
            else
              none
          else
            if (r1.2.2 31 p1.toNatClampNeg) = 2 then
              some (r1.1, 0, r1.2.2)
            else
              if (r1.2.2 31 p1.toNatClampNeg) = 3 then
                if ((r1.2.2 34 (3 : Int32).toNatClampNeg) - (r1.2.2 34 (3 : Int32).toNatClampNeg) / 4 * 4) = 0 then
                  some (99, 0, r1.2.2)
                else
                  if inb p1 6 = true then
                    some ((r1.1 - (r1.2.2 32 p1.toNatClampNeg)), 0, r1.2.2)
                  else
                    none
              else
                if (r1.2.2 31 p1.toNatClampNeg) = 4 then
                  some ((-r1.1), 0, r1.2.2)
                else
                  some (r1.1, 0, r1.2.2)
        else
          none
  else
    none := (unr_R [] nM_likedOf k 400 0 _ _ _).trans rfl
-- X5_walksOf
set_option maxRecDepth 1000000 in
theorem eM_walksOf (k : Nat) (p1 : Int32) (σ : Sto) : C nM_walksOf k [.ref 30, .int p1] σ =
  if inb p1 6 = true then
    if (σ 31 p1.toNatClampNeg) = 4 then
      if ((σ 34 (3 : Int32).toNatClampNeg) - (σ 34 (3 : Int32).toNatClampNeg) / 2 * 2) = 0 then
        if inb p1 6 = true then
          some ((σ 32 p1.toNatClampNeg), 0, σ)
        else
          none
      else
        if inb p1 6 = true then
          some ((-(σ 32 p1.toNatClampNeg)), 0, σ)
        else
          none
    else
      (C nM_asksOf k [.ref 30, .int 2, .int p1] σ).bind fun r1 =>
        if inb p1 6 = true then
          if (r1.2.2 31 p1.toNatClampNeg) = 2 then
            (C nM_isAlone k [.ref 30, .int p1] r1.2.2).bind fun r2 =>
              if r2.1 = 0 then
                some (r1.1, 0, r2.2.2)
              else
                some ((r1.1 + 1), 0, r2.2.2)
          else
            if (r1.2.2 31 p1.toNatClampNeg) = 3 then
              (C nM_isAlone k [.ref 30, .int p1] r1.2.2).bind fun r2 =>
                if r2.1 = 0 then
                  some (((-1) - r1.1), 0, r2.2.2)
                else
                  some (0, 0, r2.2.2)
            else
              some (r1.1, 0, r1.2.2)
        else
          none
  else
    none := (unr_R [] nM_walksOf k 400 0 _ _ _).trans rfl
-- X5_farOf
theorem eM_farOf (k : Nat) (p1 : Int32) (σ : Sto) : C nM_farOf k [.ref 30, .int p1] σ =
  R nM_farOf k 4 [.ref 30, .int p1, .int (-1), .int 0, .null] [] σ := (unr_R [4, 39] nM_farOf k 400 0 _ _ _).trans rfl
theorem eM_farOf_4 (k : Nat) (v1 : Int32) (v2 : Int32) (v3 : Int32) (u4 : Value) (σ : Sto) : R nM_farOf k 4 [.ref 30, .int v1, .int v2, .int v3, u4] [] σ =
  if v3 < (σ 30 0) then
    (C nM_isAt k [.ref 30, .int v1] σ).bind fun r1 =>
      if r1.1 = 0 then
        some (v2, 0, r1.2.2)
      else
        if v3 = v1 then
          R nM_farOf k 4 [.ref 30, .int v1, .int v2, .int (v3 + 1), u4] [] r1.2.2
        else
          (C nM_isSeen k [.ref 30, .int v3] r1.2.2).bind fun r2 =>
            if r2.1 = 0 then
              R nM_farOf k 4 [.ref 30, .int v1, .int v2, .int (v3 + 1), u4] [] r2.2.2
            else
              if inb (3 * v3) 18 = true then
                if inb (3 * v1) 18 = true then
                  if ((r2.2.2 33 (3 * v3).toNatClampNeg) - (r2.2.2 33 (3 * v1).toNatClampNeg)) < 0 then
                    R nM_farOf k 39 [.ref 30, .int v1, .int v2, .int v3, .int ((r2.2.2 33 (3 * v3).toNatClampNeg) - (r2.2.2 33 (3 * v1).toNatClampNeg))] [.int (-((r2.2.2 33 (3 * v3).toNatClampNeg) - (r2.2.2 33 (3 * v1).toNatClampNeg)))] r2.2.2
                  else
                    R nM_farOf k 39 [.ref 30, .int v1, .int v2, .int v3, .int ((r2.2.2 33 (3 * v3).toNatClampNeg) - (r2.2.2 33 (3 * v1).toNatClampNeg))] [.int ((r2.2.2 33 (3 * v3).toNatClampNeg) - (r2.2.2 33 (3 * v1).toNatClampNeg))] r2.2.2
                else
                  none
              else
                none
  else
    some (v2, 0, σ) := (unr_R [4, 39] nM_farOf k 400 4 _ _ _).trans rfl
theorem eM_farOf_39 (k : Nat) (v1 : Int32) (v2 : Int32) (v3 : Int32) (v4 : Int32) (s0 : Int32) (σ : Sto) : R nM_farOf k 39 [.ref 30, .int v1, .int v2, .int v3, .int v4] [.int s0] σ =
  if v2 = (-1) then
    R nM_farOf k 4 [.ref 30, .int v1, .int s0, .int (v3 + 1), .int s0] [] σ
  else
    if s0 < v2 then
      R nM_farOf k 4 [.ref 30, .int v1, .int s0, .int (v3 + 1), .int s0] [] σ
    else
      R nM_farOf k 4 [.ref 30, .int v1, .int v2, .int (v3 + 1), .int s0] [] σ := (unr_R [4, 39] nM_farOf k 400 39 _ _ _).trans rfl
-- X5_isAlone
theorem eM_isAlone (k : Nat) (p1 : Int32) (σ : Sto) : C nM_isAlone k [.ref 30, .int p1] σ =
  (C nM_isSeen k [.ref 30, .int p1] σ).bind fun r1 =>
    if r1.1 = 0 then
      some (0, 0, r1.2.2)
    else
      (C nM_farOf k [.ref 30, .int p1] r1.2.2).bind fun r2 =>
        if r2.1 = (-1) then
          some (1, 0, r2.2.2)
        else
          (C nM_gapOf k [.ref 30, .int p1] r2.2.2).bind fun r3 =>
            if r2.1 < r3.1 then
              some (0, 0, r3.2.2)
            else
              some (1, 0, r3.2.2) := (unr_R [] nM_isAlone k 400 0 _ _ _).trans rfl
-- X5_aloneSet
theorem eM_aloneSet (k : Nat) (σ : Sto) : C nM_aloneSet k [.ref 30] σ =
  R nM_aloneSet k 4 [.ref 30, .int 0, .int 0] [] σ := (unr_R [4] nM_aloneSet k 400 0 _ _ _).trans rfl
theorem eM_aloneSet_4 (k : Nat) (v1 : Int32) (v2 : Int32) (σ : Sto) : R nM_aloneSet k 4 [.ref 30, .int v1, .int v2] [] σ =
  if v2 < (σ 30 0) then
    (C nM_isAlone k [.ref 30, .int v2] σ).bind fun r1 =>
      if r1.1 = 0 then
        R nM_aloneSet k 4 [.ref 30, .int (v1 ||| 0), .int (v2 + 1)] [] r1.2.2
      else
        R nM_aloneSet k 4 [.ref 30, .int (v1 ||| (1 <<< (v2 &&& 31))), .int (v2 + 1)] [] r1.2.2
  else
    some (v1, 0, σ) := (unr_R [4] nM_aloneSet k 400 4 _ _ _).trans rfl
-- X5_choice
theorem eM_choice (k : Nat) (σ : Sto) : C nM_choice k [.ref 30] σ =
  R nM_choice k 6 [.ref 30, .int (-1), .int 0, .int 0, .null, .null] [] σ := (unr_R [6] nM_choice k 400 0 _ _ _).trans rfl
theorem eM_choice_6 (k : Nat) (v1 : Int32) (v2 : Int32) (v3 : Int32) (u4 : Value) (u5 : Value) (σ : Sto) : R nM_choice k 6 [.ref 30, .int v1, .int v2, .int v3, u4, u5] [] σ =
  if v3 < (σ 30 0) then
    (C nM_isAlone k [.ref 30, .int v3] σ).bind fun r1 =>
      if r1.1 = 0 then
        R nM_choice k 6 [.ref 30, .int v1, .int v2, .int (v3 + 1), u4, u5] [] r1.2.2
      else
        (C nM_likedOf k [.ref 30, .int v3] r1.2.2).bind fun r2 =>
          if v1 = (-1) then
            R nM_choice k 6 [.ref 30, .int v3, .int r2.1, .int (v3 + 1), .int r2.1, .int 1] [] r2.2.2
          else
            if v2 < r2.1 then
              R nM_choice k 6 [.ref 30, .int v3, .int r2.1, .int (v3 + 1), .int r2.1, .int 1] [] r2.2.2
            else
              R nM_choice k 6 [.ref 30, .int v1, .int v2, .int (v3 + 1), .int r2.1, .int 0] [] r2.2.2
  else
    some (v1, 0, σ) := (unr_R [6] nM_choice k 400 6 _ _ _).trans rfl
-- X5_told
set_option maxRecDepth 1000000 in
theorem eM_told (k : Nat) (p1 : Int32) (p2 : Int32) (σ : Sto) : C nM_told k [.ref 30, .int p1, .int p2] σ =
  (C nM_isOne k [.ref 30, .int p1] σ).bind fun r1 =>
    if r1.1 = 0 then
      some ((-5), 0, r1.2.2)
    else
      if p2 = 0 then
        if inb ((3 * p1) + p2) 18 = true then
          some ((r1.2.2 33 ((3 * p1) + p2).toNatClampNeg), 0, r1.2.2)
        else
          none
      else
        if p2 = 1 then
          if inb ((3 * p1) + p2) 18 = true then
            some ((r1.2.2 33 ((3 * p1) + p2).toNatClampNeg), 0, r1.2.2)
          else
            none
        else
          if p2 = 2 then
            if inb ((3 * p1) + p2) 18 = true then
              some ((r1.2.2 33 ((3 * p1) + p2).toNatClampNeg), 0, r1.2.2)
            else
              none
          else
            if p2 = 3 then
              if inb p1 6 = true then
                some ((r1.2.2 31 p1.toNatClampNeg), 0, r1.2.2)
              else
                none
            else
              if p2 = 4 then
                if inb p1 6 = true then
                  some ((r1.2.2 32 p1.toNatClampNeg), 0, r1.2.2)
                else
                  none
              else
                if p2 = 5 then
                  (C nM_gapOf k [.ref 30, .int p1] r1.2.2).bind fun r2 =>
                    some (r2.1, 0, r2.2.2)
                else
                  if p2 = 6 then
                    (C nM_likedOf k [.ref 30, .int p1] r1.2.2).bind fun r2 =>
                      some ((1000 + r2.1), 0, r2.2.2)
                  else
                    if p2 = 7 then
                      (C nM_walksOf k [.ref 30, .int p1] r1.2.2).bind fun r2 =>
                        some ((1000 + r2.1), 0, r2.2.2)
                    else
                      if p2 = 8 then
                        (C nM_isAlone k [.ref 30, .int p1] r1.2.2).bind fun r2 =>
                          if r2.1 = 0 then
                            R nM_told k 50 [.ref 30, .int p1, .int p2] [.int 0] r2.2.2
                          else
                            R nM_told k 50 [.ref 30, .int p1, .int p2] [.int 1] r2.2.2
                      else
                        if p2 = 9 then
                          (C nM_farOf k [.ref 30, .int p1] r1.2.2).bind fun r2 =>
                            some (r2.1, 0, r2.2.2)
                        else
                          some ((-7), 0, r1.2.2) := (unr_R [50] nM_told k 400 0 _ _ _).trans rfl
theorem eM_told_50 (k : Nat) (v1 : Int32) (v2 : Int32) (s0 : Int32) (σ : Sto) : R nM_told k 50 [.ref 30, .int v1, .int v2] [.int s0] σ =
  some (s0, 0, σ) := (unr_R [50] nM_told k 400 50 _ _ _).trans rfl
-- X5_fetches
theorem eM_fetches (k : Nat) (p1 : Int32) (σ : Sto) : C nM_fetches k [.ref 30, .int p1] σ =
  if inb (3 * p1) 18 = true then
    if ((2 * (σ 33 (3 * p1).toNatClampNeg)) - 63) < 0 then
      (C nM_within k [.int (((su (su σ 34 (0 : Int32).toNatClampNeg (1 + ((-((2 * (σ 33 (3 * p1).toNatClampNeg)) - 63)) / 20))) 34 (1 : Int32).toNatClampNeg p1) 34 (2 : Int32).toNatClampNeg) + 1), .int 0, .int 9999] (su (su σ 34 (0 : Int32).toNatClampNeg (1 + ((-((2 * (σ 33 (3 * p1).toNatClampNeg)) - 63)) / 20))) 34 (1 : Int32).toNatClampNeg p1)).bind fun r1 =>
        if inb (3 * p1) 18 = true then
          some (0, 0, (su (su r1.2.2 34 (2 : Int32).toNatClampNeg r1.1) 33 (3 * p1).toNatClampNeg (-1)))
        else
          none
    else
      (C nM_within k [.int (((su (su σ 34 (0 : Int32).toNatClampNeg (1 + (((2 * (σ 33 (3 * p1).toNatClampNeg)) - 63) / 20))) 34 (1 : Int32).toNatClampNeg p1) 34 (2 : Int32).toNatClampNeg) + 1), .int 0, .int 9999] (su (su σ 34 (0 : Int32).toNatClampNeg (1 + (((2 * (σ 33 (3 * p1).toNatClampNeg)) - 63) / 20))) 34 (1 : Int32).toNatClampNeg p1)).bind fun r1 =>
        if inb (3 * p1) 18 = true then
          some (0, 0, (su (su r1.2.2 34 (2 : Int32).toNatClampNeg r1.1) 33 (3 * p1).toNatClampNeg (-1)))
        else
          none
  else
    none := (unr_R [] nM_fetches k 400 0 _ _ _).trans rfl
-- X5_hourOf
theorem eM_hourOf (k : Nat) (σ : Sto) : C nM_hourOf k [.ref 30] σ =
  if 0 < (σ 34 (0 : Int32).toNatClampNeg) then
    if ((su σ 34 (0 : Int32).toNatClampNeg ((σ 34 (0 : Int32).toNatClampNeg) - 1)) 34 (0 : Int32).toNatClampNeg) = 0 then
      R nM_hourOf k 42 [.ref 30, .int (-1), .int 0] [] (su (su σ 34 (0 : Int32).toNatClampNeg ((σ 34 (0 : Int32).toNatClampNeg) - 1)) 34 (1 : Int32).toNatClampNeg (-1))
    else
      R nM_hourOf k 42 [.ref 30, .int (-1), .int 0] [] (su (su σ 34 (0 : Int32).toNatClampNeg ((σ 34 (0 : Int32).toNatClampNeg) - 1)) 34 (1 : Int32).toNatClampNeg ((su σ 34 (0 : Int32).toNatClampNeg ((σ 34 (0 : Int32).toNatClampNeg) - 1)) 34 (1 : Int32).toNatClampNeg))
  else
    (C nM_choice k [.ref 30] σ).bind fun r1 =>
      if r1.1 = (-1) then
        R nM_hourOf k 42 [.ref 30, .int r1.1, .int 0] [] r1.2.2
      else
        (C nM_fetches k [.ref 30, .int r1.1] r1.2.2).bind fun r2 =>
          R nM_hourOf k 42 [.ref 30, .int r1.1, .int 0] [] r2.2.2 := (unr_R [42] nM_hourOf k 400 0 _ _ _).trans rfl
theorem eM_hourOf_42 (k : Nat) (v1 : Int32) (v2 : Int32) (σ : Sto) : R nM_hourOf k 42 [.ref 30, .int v1, .int v2] [] σ =
  if v2 < (σ 30 0) then
    (C nM_isAt k [.ref 30, .int v2] σ).bind fun r1 =>
      if r1.1 = 0 then
        R nM_hourOf k 42 [.ref 30, .int v1, .int (v2 + 1)] [] r1.2.2
      else
        if inb (3 * v2) 18 = true then
          (C nM_walksOf k [.ref 30, .int v2] r1.2.2).bind fun r2 =>
            (C nM_within k [.int ((r1.2.2 33 (3 * v2).toNatClampNeg) + r2.1), .int 0, .int 63] r2.2.2).bind fun r3 =>
              if inb (3 * v2) 18 = true then
                if inb ((3 * v2) + 2) 18 = true then
                  (C nM_within k [.int (((su r3.2.2 33 (3 * v2).toNatClampNeg r3.1) 33 ((3 * v2) + 2).toNatClampNeg) + 1), .int 0, .int 99] (su r3.2.2 33 (3 * v2).toNatClampNeg r3.1)).bind fun r4 =>
                    if inb ((3 * v2) + 2) 18 = true then
                      R nM_hourOf k 42 [.ref 30, .int v1, .int (v2 + 1)] [] (su r4.2.2 33 ((3 * v2) + 2).toNatClampNeg r4.1)
                    else
                      none
                else
                  none
              else
                none
        else
          none
  else
    some (v1, 0, (su σ 34 (3 : Int32).toNatClampNeg ((σ 34 (3 : Int32).toNatClampNeg) + 1))) := (unr_R [42] nM_hourOf k 400 42 _ _ _).trans rfl
-- X5_hour
theorem eM_hour (k : Nat) (σ : Sto) : C nM_hour k [.ref 30] σ =
  if (σ 34 (3 : Int32).toNatClampNeg) = 9999 then
    some ((-3), 0, σ)
  else
    (C nM_hourOf k [.ref 30] σ).bind fun r1 =>
      some (r1.1, 0, r1.2.2) := (unr_R [] nM_hour k 400 0 _ _ _).trans rfl
-- X5_walk
theorem eM_walk (k : Nat) (p1 : Int32) (p2 : Int32) (σ : Sto) : C nM_walk k [.ref 30, .int p1, .int p2] σ =
  (C nM_isOne k [.ref 30, .int p1] σ).bind fun r1 =>
    if r1.1 = 0 then
      some ((-5), 0, r1.2.2)
    else
      (C nM_in k [.int p2, .int (-63), .int 63] r1.2.2).bind fun r2 =>
        if r2.1 = 0 then
          some ((-7), 0, r2.2.2)
        else
          (C nM_isAt k [.ref 30, .int p1] r2.2.2).bind fun r3 =>
            if r3.1 = 0 then
              some ((-3), 0, r3.2.2)
            else
              if inb (3 * p1) 18 = true then
                (C nM_within k [.int ((r3.2.2 33 (3 * p1).toNatClampNeg) + p2), .int 0, .int 63] r3.2.2).bind fun r4 =>
                  if inb (3 * p1) 18 = true then
                    if inb (3 * p1) 18 = true then
                      some (((su r4.2.2 33 (3 * p1).toNatClampNeg r4.1) 33 (3 * p1).toNatClampNeg), 0, (su r4.2.2 33 (3 * p1).toNatClampNeg r4.1))
                    else
                      none
                  else
                    none
              else
                none := (unr_R [] nM_walk k 400 0 _ _ _).trans rfl
-- X5_keeps
theorem eM_keeps (k : Nat) (σ : Sto) : C nM_keeps k [.ref 30] σ =
  R nM_keeps k 2 [.ref 30, .int 0] [] σ := (unr_R [2, 17] nM_keeps k 400 0 _ _ _).trans rfl
theorem eM_keeps_2 (k : Nat) (v1 : Int32) (σ : Sto) : R nM_keeps k 2 [.ref 30, .int v1] [] σ =
  if v1 < 18 then
    if inb v1 18 = true then
      if inb v1 22 = true then
        R nM_keeps k 2 [.ref 30, .int (v1 + 1)] [] (su σ 48 v1.toNatClampNeg (σ 33 v1.toNatClampNeg))
      else
        none
    else
      none
  else
    R nM_keeps k 17 [.ref 30, .int 0] [] σ := (unr_R [2, 17] nM_keeps k 400 2 _ _ _).trans rfl
theorem eM_keeps_17 (k : Nat) (v1 : Int32) (σ : Sto) : R nM_keeps k 17 [.ref 30, .int v1] [] σ =
  if v1 < 4 then
    if inb v1 4 = true then
      if inb (18 + v1) 22 = true then
        R nM_keeps k 17 [.ref 30, .int (v1 + 1)] [] (su σ 48 (18 + v1).toNatClampNeg (σ 34 v1.toNatClampNeg))
      else
        none
    else
      none
  else
    some (0, 0, σ) := (unr_R [2, 17] nM_keeps k 400 17 _ _ _).trans rfl
-- X5_lays
theorem eM_lays (k : Nat) (σ : Sto) : C nM_lays k [.ref 30] σ =
  R nM_lays k 2 [.ref 30, .int 0] [] σ := (unr_R [2, 17] nM_lays k 400 0 _ _ _).trans rfl
theorem eM_lays_2 (k : Nat) (v1 : Int32) (σ : Sto) : R nM_lays k 2 [.ref 30, .int v1] [] σ =
  if v1 < 18 then
    if inb v1 22 = true then
      if inb v1 18 = true then
        R nM_lays k 2 [.ref 30, .int (v1 + 1)] [] (su σ 33 v1.toNatClampNeg (σ 48 v1.toNatClampNeg))
      else
        none
    else
      none
  else
    R nM_lays k 17 [.ref 30, .int 0] [] σ := (unr_R [2, 17] nM_lays k 400 2 _ _ _).trans rfl
theorem eM_lays_17 (k : Nat) (v1 : Int32) (σ : Sto) : R nM_lays k 17 [.ref 30, .int v1] [] σ =
  if v1 < 4 then
    if inb (18 + v1) 22 = true then
      if inb v1 4 = true then
        R nM_lays k 17 [.ref 30, .int (v1 + 1)] [] (su σ 34 v1.toNatClampNeg (σ 48 (18 + v1).toNatClampNeg))
      else
        none
    else
      none
  else
    some (0, 0, σ) := (unr_R [2, 17] nM_lays k 400 17 _ _ _).trans rfl
-- X5_goes
theorem eM_goes (k : Nat) (p1 : Int32) (σ : Sto) : C nM_goes k [.ref 30, .int p1] σ =
  R nM_goes k 7 [.ref 30, .int p1, .int 0, .int 0, .null] [] (su σ 30 30 0) := (unr_R [7] nM_goes k 400 0 _ _ _).trans rfl
theorem eM_goes_7 (k : Nat) (v1 : Int32) (v2 : Int32) (v3 : Int32) (u4 : Value) (σ : Sto) : R nM_goes k 7 [.ref 30, .int v1, .int v2, .int v3, u4] [] σ =
  if v3 < v1 then
    (C nM_hourOf k [.ref 30] σ).bind fun r1 =>
      if r1.1 = (-1) then
        if r1.1 = (-1) then
          R nM_goes k 7 [.ref 30, .int v1, .int (v2 + 0), .int (v3 + 1), .int r1.1] [] (su r1.2.2 30 30 (r1.2.2 30 30))
        else
          R nM_goes k 7 [.ref 30, .int v1, .int (v2 + 0), .int (v3 + 1), .int r1.1] [] (su r1.2.2 30 30 (((10 * (r1.2.2 30 30)) + r1.1) + 1))
      else
        if r1.1 = (-1) then
          R nM_goes k 7 [.ref 30, .int v1, .int (v2 + 1), .int (v3 + 1), .int r1.1] [] (su r1.2.2 30 30 (r1.2.2 30 30))
        else
          R nM_goes k 7 [.ref 30, .int v1, .int (v2 + 1), .int (v3 + 1), .int r1.1] [] (su r1.2.2 30 30 (((10 * (r1.2.2 30 30)) + r1.1) + 1))
  else
    some (v2, 0, σ) := (unr_R [7] nM_goes k 400 7 _ _ _).trans rfl
-- X5_run
theorem eM_run (k : Nat) (p1 : Int32) (p2 : Int32) (σ : Sto) : C nM_run k [.ref 30, .int p1, .int p2] σ =
  (C nM_in k [.int p2, .int 0, .int 2] σ).bind fun r1 =>
    if r1.1 = 0 then
      (C nM_in k [.int p2, .int 10, .int (9 + (r1.2.2 30 0))] r1.2.2).bind fun r2 =>
        if r2.1 = 0 then
          (C nM_in k [.int p2, .int 20, .int (19 + (r2.2.2 30 0))] r2.2.2).bind fun r3 =>
            if r3.1 = 0 then
              (C nM_in k [.int p1, .int 0, .int 60] r3.2.2).bind fun r4 =>
                if r4.1 = 0 then
                  some ((-2), 0, r4.2.2)
                else
                  some ((-2), 0, r4.2.2)
            else
              R nM_run k 21 [.ref 30, .int p1, .int p2, .null, .null] [] r3.2.2
        else
          R nM_run k 21 [.ref 30, .int p1, .int p2, .null, .null] [] r2.2.2
    else
      R nM_run k 21 [.ref 30, .int p1, .int p2, .null, .null] [] r1.2.2 := (unr_R [21] nM_run k 400 0 _ _ _).trans rfl
theorem eM_run_21 (k : Nat) (v1 : Int32) (v2 : Int32) (σ : Sto) : R nM_run k 21 [.ref 30, .int v1, .int v2, .null, .null] [] σ =
  (C nM_in k [.int v1, .int 0, .int 60] σ).bind fun r1 =>
    if r1.1 = 0 then
      some ((-2), 0, r1.2.2)
    else
      (C nM_keeps k [.ref 30] r1.2.2).bind fun r2 =>
        (C nM_goes k [.ref 30, .int v1] r2.2.2).bind fun r3 =>
          if v2 = 0 then
            (C nM_lays k [.ref 30] r3.2.2).bind fun r4 =>
              some (r3.1, 0, r4.2.2)
          else
            if v2 = 1 then
              (C nM_lays k [.ref 30] r3.2.2).bind fun r4 =>
                some ((r3.2.2 30 30), 0, r4.2.2)
            else
              if v2 = 2 then
                (C nM_overSet k [.ref 30] r3.2.2).bind fun r4 =>
                  (C nM_lays k [.ref 30] r4.2.2).bind fun r5 =>
                    some (r4.1, 0, r5.2.2)
              else
                if v2 < 20 then
                  if inb (3 * (v2 - 10)) 18 = true then
                    (C nM_lays k [.ref 30] r3.2.2).bind fun r4 =>
                      some ((r3.2.2 33 (3 * (v2 - 10)).toNatClampNeg), 0, r4.2.2)
                  else
                    none
                else
                  if inb ((3 * (v2 - 20)) + 2) 18 = true then
                    (C nM_lays k [.ref 30] r3.2.2).bind fun r4 =>
                      some ((r3.2.2 33 ((3 * (v2 - 20)) + 2).toNatClampNeg), 0, r4.2.2)
                  else
                    none := (unr_R [21] nM_run k 400 21 _ _ _).trans rfl
-- X5_isNow
theorem eM_isNow (k : Nat) (p1 : Int32) (p2 : Int32) (σ : Sto) : C nM_isNow k [.ref 30, .int p1, .int p2] σ =
  if p2 = 0 then
    (C nM_isOver k [.ref 30, .int p1] σ).bind fun r1 =>
      if nok 1 r1.1 = true then
        some (r1.1, 0, r1.2.2)
      else
        none
  else
    if p2 = 1 then
      (C nM_isAlone k [.ref 30, .int p1] σ).bind fun r1 =>
        if nok 1 r1.1 = true then
          some (r1.1, 0, r1.2.2)
        else
          none
    else
      if (σ 34 (0 : Int32).toNatClampNeg) = 0 then
        (C nM_aloneSet k [.ref 30] σ).bind fun r1 =>
          if r1.1 = 0 then
            some (1, 0, r1.2.2)
          else
            some (0, 0, r1.2.2)
      else
        some (0, 0, σ) := (unr_R [] nM_isNow k 400 0 _ _ _).trans rfl
-- X5_firstTime
theorem eM_firstTime (k : Nat) (p1 : Int32) (p2 : Int32) (σ : Sto) : C nM_firstTime k [.ref 30, .int p1, .int p2] σ =
  R nM_firstTime k 4 [.ref 30, .int p1, .int p2, .int (-1), .int 0] [] σ := (unr_R [4] nM_firstTime k 400 0 _ _ _).trans rfl
theorem eM_firstTime_4 (k : Nat) (v1 : Int32) (v2 : Int32) (v3 : Int32) (v4 : Int32) (σ : Sto) : R nM_firstTime k 4 [.ref 30, .int v1, .int v2, .int v3, .int v4] [] σ =
  if 60 < v4 then
    some (v3, 0, σ)
  else
    if v3 = (-1) then
      (C nM_isNow k [.ref 30, .int v1, .int v2] σ).bind fun r1 =>
        if r1.1 = 0 then
          (C nM_hourOf k [.ref 30] r1.2.2).bind fun r2 =>
            R nM_firstTime k 4 [.ref 30, .int v1, .int v2, .int (-1), .int (v4 + 1)] [] r2.2.2
        else
          (C nM_hourOf k [.ref 30] r1.2.2).bind fun r2 =>
            R nM_firstTime k 4 [.ref 30, .int v1, .int v2, .int v4, .int (v4 + 1)] [] r2.2.2
    else
      some (v3, 0, σ) := (unr_R [4] nM_firstTime k 400 4 _ _ _).trans rfl
-- X5_when
theorem eM_when (k : Nat) (p1 : Int32) (p2 : Int32) (σ : Sto) : C nM_when k [.ref 30, .int p1, .int p2] σ =
  (C nM_in k [.int p2, .int 0, .int 2] σ).bind fun r1 =>
    if r1.1 = 0 then
      some ((-7), 0, r1.2.2)
    else
      if p2 < 2 then
        (C nM_isOne k [.ref 30, .int p1] r1.2.2).bind fun r2 =>
          if r2.1 = 0 then
            some ((-5), 0, r2.2.2)
          else
            (C nM_keeps k [.ref 30] r2.2.2).bind fun r3 =>
              (C nM_firstTime k [.ref 30, .int p1, .int p2] r3.2.2).bind fun r4 =>
                (C nM_lays k [.ref 30] r4.2.2).bind fun r5 =>
                  some (r4.1, 0, r5.2.2)
      else
        (C nM_keeps k [.ref 30] r1.2.2).bind fun r2 =>
          (C nM_firstTime k [.ref 30, .int p1, .int p2] r2.2.2).bind fun r3 =>
            (C nM_lays k [.ref 30] r3.2.2).bind fun r4 =>
              some (r3.1, 0, r4.2.2) := (unr_R [] nM_when k 400 0 _ _ _).trans rfl
-- X5_fetchedIn
theorem eM_fetchedIn (k : Nat) (p1 : Int32) (σ : Sto) : C nM_fetchedIn k [.ref 30, .int p1] σ =
  (C nM_keeps k [.ref 30] σ).bind fun r1 =>
    (C nM_goes k [.ref 30, .int p1] r1.2.2).bind fun r2 =>
      (C nM_lays k [.ref 30] r2.2.2).bind fun r3 =>
        some (r2.1, 0, r3.2.2) := (unr_R [] nM_fetchedIn k 400 0 _ _ _).trans rfl
-- X5_hide
theorem eM_hide (k : Nat) (p1 : Int32) (p2 : Int32) (σ : Sto) : C nM_hide k [.ref 30, .int p1, .int p2] σ =
  (C nM_in k [.int p1, .int 0, .int 60] σ).bind fun r1 =>
    if r1.1 = 0 then
      some ((-2), 0, r1.2.2)
    else
      (C nM_in k [.int p2, .int 0, .int 1] r1.2.2).bind fun r2 =>
        if r2.1 = 0 then
          some ((-2), 0, r2.2.2)
        else
          (C nM_fetchedIn k [.ref 30, .int p1] r2.2.2).bind fun r3 =>
            R nM_hide k 20 [.ref 30, .int p1, .int p2, .int (-1), .int r3.1, .int 0, .null] [] r3.2.2 := (unr_R [20] nM_hide k 400 0 _ _ _).trans rfl
theorem eM_hide_20 (k : Nat) (v1 : Int32) (v2 : Int32) (v3 : Int32) (v4 : Int32) (v5 : Int32) (u6 : Value) (σ : Sto) : R nM_hide k 20 [.ref 30, .int v1, .int v2, .int v3, .int v4, .int v5, u6] [] σ =
  if v5 < (σ 30 0) then
    (C nM_isSeen k [.ref 30, .int v5] σ).bind fun r1 =>
      if r1.1 = 0 then
        R nM_hide k 20 [.ref 30, .int v1, .int v2, .int v3, .int v4, .int (v5 + 1), u6] [] r1.2.2
      else
        if inb ((3 * v5) + 1) 18 = true then
          (C nM_fetchedIn k [.ref 30, .int v1] (su r1.2.2 33 ((3 * v5) + 1).toNatClampNeg 1)).bind fun r2 =>
            if inb ((3 * v5) + 1) 18 = true then
              if v4 < r2.1 then
                if v4 < r2.1 then
                  R nM_hide k 20 [.ref 30, .int v1, .int v2, .int v5, .int r2.1, .int (v5 + 1), .int r2.1] [] (su r2.2.2 33 ((3 * v5) + 1).toNatClampNeg 0)
                else
                  R nM_hide k 20 [.ref 30, .int v1, .int v2, .int v5, .int v4, .int (v5 + 1), .int r2.1] [] (su r2.2.2 33 ((3 * v5) + 1).toNatClampNeg 0)
              else
                if v4 < r2.1 then
                  R nM_hide k 20 [.ref 30, .int v1, .int v2, .int v3, .int r2.1, .int (v5 + 1), .int r2.1] [] (su r2.2.2 33 ((3 * v5) + 1).toNatClampNeg 0)
                else
                  R nM_hide k 20 [.ref 30, .int v1, .int v2, .int v3, .int v4, .int (v5 + 1), .int r2.1] [] (su r2.2.2 33 ((3 * v5) + 1).toNatClampNeg 0)
            else
              none
        else
          none
  else
    if v2 = 0 then
      some (v3, 0, σ)
    else
      some (v4, 0, σ) := (unr_R [20] nM_hide k 400 20 _ _ _).trans rfl
end
section
/-! EQUATIONS of the methods 157 .. 184 -/
-- X5_stand
theorem eM_stand (k : Nat) (p1 : Int32) (p2 : Int32) (σ : Sto) : C nM_stand k [.ref 30, .int p1, .int p2] σ =
  (C nM_isOne k [.ref 30, .int p1] σ).bind fun r1 =>
    if r1.1 = 0 then
      some ((-5), 0, r1.2.2)
    else
      (C nM_in k [.int p2, .int 0, .int 1] r1.2.2).bind fun r2 =>
        if r2.1 = 0 then
          some ((-7), 0, r2.2.2)
        else
          if (r2.2.2 34 (1 : Int32).toNatClampNeg) = p1 then
            some ((-3), 0, r2.2.2)
          else
            (C nM_keeps k [.ref 30] r2.2.2).bind fun r3 =>
              R nM_stand k 29 [.ref 30, .int p1, .int p2, .int (-1), .int (-1), .int 0, .null, .null] [] r3.2.2 := (unr_R [29] nM_stand k 400 0 _ _ _).trans rfl
theorem eM_stand_29 (k : Nat) (v1 : Int32) (v2 : Int32) (v3 : Int32) (v4 : Int32) (v5 : Int32) (u6 : Value) (u7 : Value) (σ : Sto) : R nM_stand k 29 [.ref 30, .int v1, .int v2, .int v3, .int v4, .int v5, u6, u7] [] σ =
  if v5 < 64 then
    if inb (3 * v1) 18 = true then
      if inb ((3 * v1) + 1) 18 = true then
        (C nM_firstTime k [.ref 30, .int v1, .int 0] (su (su σ 33 (3 * v1).toNatClampNeg v5) 33 ((3 * v1) + 1).toNatClampNeg 0)).bind fun r1 =>
          (C nM_lays k [.ref 30] r1.2.2).bind fun r2 =>
            if r1.1 = (-1) then
              R nM_stand k 29 [.ref 30, .int v1, .int v2, .int v3, .int v4, .int (v5 + 1), .int r1.1, .int 0] [] r2.2.2
            else
              if v3 = (-1) then
                R nM_stand k 29 [.ref 30, .int v1, .int v2, .int v5, .int r1.1, .int (v5 + 1), .int r1.1, .int 1] [] r2.2.2
              else
                if r1.1 < v4 then
                  R nM_stand k 29 [.ref 30, .int v1, .int v2, .int v5, .int r1.1, .int (v5 + 1), .int r1.1, .int 1] [] r2.2.2
                else
                  R nM_stand k 29 [.ref 30, .int v1, .int v2, .int v3, .int v4, .int (v5 + 1), .int r1.1, .int 0] [] r2.2.2
      else
        none
    else
      none
  else
    if v2 = 0 then
      some (v3, 0, σ)
    else
      some (v4, 0, σ) := (unr_R [29] nM_stand k 400 29 _ _ _).trans rfl
-- X5_apart
theorem eM_apart (k : Nat) (p1 : Int32) (p2 : Int32) (σ : Sto) : C nM_apart k [.ref 30, .int p1, .int p2] σ =
  (C nM_isOne k [.ref 30, .int p1] σ).bind fun r1 =>
    if r1.1 = 0 then
      some ((-5), 0, r1.2.2)
    else
      (C nM_in k [.int p2, .int 0, .int 1] r1.2.2).bind fun r2 =>
        if r2.1 = 0 then
          some ((-7), 0, r2.2.2)
        else
          (C nM_isSeen k [.ref 30, .int p1] r2.2.2).bind fun r3 =>
            if r3.1 = 0 then
              some ((-1), 0, r3.2.2)
            else
              if inb (3 * p1) 18 = true then
                R nM_apart k 32 [.ref 30, .int p1, .int p2, .int (r3.2.2 33 (3 * p1).toNatClampNeg), .int (-1), .int (-1), .int 0, .null, .null] [] r3.2.2
              else
                none := (unr_R [32, 52] nM_apart k 400 0 _ _ _).trans rfl
theorem eM_apart_32 (k : Nat) (v1 : Int32) (v2 : Int32) (v3 : Int32) (v4 : Int32) (v5 : Int32) (v6 : Int32) (u7 : Value) (u8 : Value) (σ : Sto) : R nM_apart k 32 [.ref 30, .int v1, .int v2, .int v3, .int v4, .int v5, .int v6, u7, u8] [] σ =
  if v6 < 64 then
    if inb (3 * v1) 18 = true then
      if v6 < v3 then
        R nM_apart k 52 [.ref 30, .int v1, .int v2, .int v3, .int v4, .int v5, .int v6, u7, u8] [.int (v3 - v6)] (su σ 33 (3 * v1).toNatClampNeg v6)
      else
        R nM_apart k 52 [.ref 30, .int v1, .int v2, .int v3, .int v4, .int v5, .int v6, u7, u8] [.int (v6 - v3)] (su σ 33 (3 * v1).toNatClampNeg v6)
    else
      none
  else
    if inb (3 * v1) 18 = true then
      if v2 = 0 then
        some (v5, 0, (su σ 33 (3 * v1).toNatClampNeg v3))
      else
        some (v4, 0, (su σ 33 (3 * v1).toNatClampNeg v3))
    else
      none := (unr_R [32, 52] nM_apart k 400 32 _ _ _).trans rfl
theorem eM_apart_52 (k : Nat) (v1 : Int32) (v2 : Int32) (v3 : Int32) (v4 : Int32) (v5 : Int32) (v6 : Int32) (u7 : Value) (u8 : Value) (s0 : Int32) (σ : Sto) : R nM_apart k 52 [.ref 30, .int v1, .int v2, .int v3, .int v4, .int v5, .int v6, u7, u8] [.int s0] σ =
  (C nM_isAlone k [.ref 30, .int v1] σ).bind fun r1 =>
    if r1.1 = 0 then
      R nM_apart k 32 [.ref 30, .int v1, .int v2, .int v3, .int v4, .int v5, .int (v6 + 1), .int s0, .int 0] [] r1.2.2
    else
      if v4 = (-1) then
        R nM_apart k 32 [.ref 30, .int v1, .int v2, .int v3, .int v6, .int s0, .int (v6 + 1), .int s0, .int 1] [] r1.2.2
      else
        if s0 < v5 then
          R nM_apart k 32 [.ref 30, .int v1, .int v2, .int v3, .int v6, .int s0, .int (v6 + 1), .int s0, .int 1] [] r1.2.2
        else
          R nM_apart k 32 [.ref 30, .int v1, .int v2, .int v3, .int v4, .int v5, .int (v6 + 1), .int s0, .int 0] [] r1.2.2 := (unr_R [32, 52] nM_apart k 400 52 _ _ _).trans rfl
-- X5_areAllAlone
theorem eM_areAllAlone (k : Nat) (p1 : Int32) (p2 : Int32) (σ : Sto) : C nM_areAllAlone k [.ref 30, .int p1, .int p2] σ =
  R nM_areAllAlone k 2 [.ref 30, .int p1, .int p2, .int 0, .null] [] σ := (unr_R [2, 47] nM_areAllAlone k 400 0 _ _ _).trans rfl
theorem eM_areAllAlone_2 (k : Nat) (v1 : Int32) (v2 : Int32) (v3 : Int32) (σ : Sto) : R nM_areAllAlone k 2 [.ref 30, .int v1, .int v2, .int v3, .null] [] σ =
  if v3 < (σ 30 0) then
    if ((v1 >>> (v3 &&& 31)) &&& 1) = 1 then
      if inb ((3 * v3) + 1) 18 = true then
        R nM_areAllAlone k 2 [.ref 30, .int v1, .int v2, .int (v3 + 1), .null] [] (su σ 33 ((3 * v3) + 1).toNatClampNeg 1)
      else
        none
    else
      if inb ((3 * v3) + 1) 18 = true then
        if inb ((3 * v3) + 1) 18 = true then
          R nM_areAllAlone k 2 [.ref 30, .int v1, .int v2, .int (v3 + 1), .null] [] (su σ 33 ((3 * v3) + 1).toNatClampNeg (σ 33 ((3 * v3) + 1).toNatClampNeg))
        else
          none
      else
        none
  else
    (C nM_aloneSet k [.ref 30] σ).bind fun r1 =>
      if r1.1 = (v2 &&& (v1 ^^^ (-1))) then
        R nM_areAllAlone k 47 [.ref 30, .int v1, .int v2, .int 1, .int 0] [] r1.2.2
      else
        R nM_areAllAlone k 47 [.ref 30, .int v1, .int v2, .int 0, .int 0] [] r1.2.2 := (unr_R [2, 47] nM_areAllAlone k 400 2 _ _ _).trans rfl
theorem eM_areAllAlone_47 (k : Nat) (v1 : Int32) (v2 : Int32) (v3 : Int32) (v4 : Int32) (σ : Sto) : R nM_areAllAlone k 47 [.ref 30, .int v1, .int v2, .int v3, .int v4] [] σ =
  if v4 < (σ 30 0) then
    if ((v1 >>> (v4 &&& 31)) &&& 1) = 1 then
      if inb ((3 * v4) + 1) 18 = true then
        R nM_areAllAlone k 47 [.ref 30, .int v1, .int v2, .int v3, .int (v4 + 1)] [] (su σ 33 ((3 * v4) + 1).toNatClampNeg 0)
      else
        none
    else
      if inb ((3 * v4) + 1) 18 = true then
        if inb ((3 * v4) + 1) 18 = true then
          R nM_areAllAlone k 47 [.ref 30, .int v1, .int v2, .int v3, .int (v4 + 1)] [] (su σ 33 ((3 * v4) + 1).toNatClampNeg (σ 33 ((3 * v4) + 1).toNatClampNeg))
        else
          none
      else
        none
  else
    if nok 1 v3 = true then
      some (v3, 0, σ)
    else
      none := (unr_R [2, 47] nM_areAllAlone k 400 47 _ _ _).trans rfl
-- X5_breakwater
theorem eM_breakwater (k : Nat) (p1 : Int32) (σ : Sto) : C nM_breakwater k [.ref 30, .int p1] σ =
  (C nM_in k [.int p1, .int 0, .int 1] σ).bind fun r1 =>
    if r1.1 = 0 then
      some ((-2), 0, r1.2.2)
    else
      (C nM_seenSet k [.ref 30] r1.2.2).bind fun r2 =>
        R nM_breakwater k 16 [.ref 30, .int p1, .int r2.1, .int (-1), .int (-1), .int 0, .null, .null] [] r2.2.2 := (unr_R [16, 35] nM_breakwater k 400 0 _ _ _).trans rfl
theorem eM_breakwater_16 (k : Nat) (v1 : Int32) (v2 : Int32) (v3 : Int32) (v4 : Int32) (v5 : Int32) (u6 : Value) (u7 : Value) (σ : Sto) : R nM_breakwater k 16 [.ref 30, .int v1, .int v2, .int v3, .int v4, .int v5, u6, u7] [] σ =
  if v5 < (1 <<< ((σ 30 0) &&& 31)) then
    if (v5 &&& (v2 ^^^ (-1))) = 0 then
      if v3 = (-1) then
        R nM_breakwater k 35 [.ref 30, .int v1, .int v2, .int v3, .int v4, .int v5, u6, u7] [] σ
      else
        (C nM_onesOf k [.int v5] σ).bind fun r1 =>
          if r1.1 < v4 then
            R nM_breakwater k 35 [.ref 30, .int v1, .int v2, .int v3, .int v4, .int v5, u6, u7] [] r1.2.2
          else
            R nM_breakwater k 16 [.ref 30, .int v1, .int v2, .int v3, .int v4, .int (v5 + 1), .int 0, u7] [] r1.2.2
    else
      R nM_breakwater k 16 [.ref 30, .int v1, .int v2, .int v3, .int v4, .int (v5 + 1), .int 0, u7] [] σ
  else
    if v1 = 0 then
      some (v3, 0, σ)
    else
      some (v4, 0, σ) := (unr_R [16, 35] nM_breakwater k 400 16 _ _ _).trans rfl
theorem eM_breakwater_35 (k : Nat) (v1 : Int32) (v2 : Int32) (v3 : Int32) (v4 : Int32) (v5 : Int32) (u6 : Value) (u7 : Value) (σ : Sto) : R nM_breakwater k 35 [.ref 30, .int v1, .int v2, .int v3, .int v4, .int v5, u6, u7] [] σ =
  (C nM_areAllAlone k [.ref 30, .int v5, .int v2] σ).bind fun r1 =>
    if r1.1 = 0 then
      if r1.1 = 0 then
        R nM_breakwater k 16 [.ref 30, .int v1, .int v2, .int v3, .int v4, .int (v5 + 1), .int 1, .int r1.1] [] r1.2.2
      else
        (C nM_onesOf k [.int v5] r1.2.2).bind fun r2 =>
          R nM_breakwater k 16 [.ref 30, .int v1, .int v2, .int v3, .int r2.1, .int (v5 + 1), .int 1, .int r1.1] [] r2.2.2
    else
      if r1.1 = 0 then
        R nM_breakwater k 16 [.ref 30, .int v1, .int v2, .int v5, .int v4, .int (v5 + 1), .int 1, .int r1.1] [] r1.2.2
      else
        (C nM_onesOf k [.int v5] r1.2.2).bind fun r2 =>
          R nM_breakwater k 16 [.ref 30, .int v1, .int v2, .int v5, .int r2.1, .int (v5 + 1), .int 1, .int r1.1] [] r2.2.2 := (unr_R [16, 35] nM_breakwater k 400 35 _ _ _).trans rfl
-- X5_isBetween
theorem eM_isBetween (k : Nat) (p1 : Int32) (p2 : Int32) (σ : Sto) : C nM_isBetween k [.ref 30, .int p1, .int p2] σ =
  R nM_isBetween k 2 [.ref 30, .int p1, .int p2, .int 0] [] σ := (unr_R [2] nM_isBetween k 400 0 _ _ _).trans rfl
theorem eM_isBetween_2 (k : Nat) (v1 : Int32) (v2 : Int32) (v3 : Int32) (σ : Sto) : R nM_isBetween k 2 [.ref 30, .int v1, .int v2, .int v3] [] σ =
  if v3 < (σ 30 0) then
    (C nM_isSeen k [.ref 30, .int v3] σ).bind fun r1 =>
      if r1.1 = 0 then
        R nM_isBetween k 2 [.ref 30, .int v1, .int v2, .int (v3 + 1)] [] r1.2.2
      else
        if inb (3 * v3) 18 = true then
          if inb (3 * v1) 18 = true then
            if (r1.2.2 33 (3 * v1).toNatClampNeg) < (r1.2.2 33 (3 * v3).toNatClampNeg) then
              if inb (3 * v3) 18 = true then
                if inb (3 * v2) 18 = true then
                  if (r1.2.2 33 (3 * v3).toNatClampNeg) < (r1.2.2 33 (3 * v2).toNatClampNeg) then
                    some (1, 0, r1.2.2)
                  else
                    R nM_isBetween k 2 [.ref 30, .int v1, .int v2, .int (v3 + 1)] [] r1.2.2
                else
                  none
              else
                none
            else
              R nM_isBetween k 2 [.ref 30, .int v1, .int v2, .int (v3 + 1)] [] r1.2.2
          else
            none
        else
          none
  else
    some (0, 0, σ) := (unr_R [2] nM_isBetween k 400 2 _ _ _).trans rfl
-- X5_gap
theorem eM_gap (k : Nat) (p1 : Int32) (σ : Sto) : C nM_gap k [.ref 30, .int p1] σ =
  (C nM_in k [.int p1, .int 0, .int 1] σ).bind fun r1 =>
    if r1.1 = 0 then
      some ((-2), 0, r1.2.2)
    else
      R nM_gap k 13 [.ref 30, .int p1, .int (-1), .int (-1), .int 0, .null, .null, .null] [] r1.2.2 := (unr_R [13, 19, 55, 57, 58, 72, 82, 88, 89, 98] nM_gap k 400 0 _ _ _).trans rfl
theorem eM_gap_13 (k : Nat) (v1 : Int32) (v2 : Int32) (v3 : Int32) (v4 : Int32) (u5 : Value) (u6 : Value) (u7 : Value) (σ : Sto) : R nM_gap k 13 [.ref 30, .int v1, .int v2, .int v3, .int v4, u5, u6, u7] [] σ =
  if v4 < (σ 30 0) then
    R nM_gap k 19 [.ref 30, .int v1, .int v2, .int v3, .int v4, .int 0, u6, u7] [] σ
  else
    if v1 = 0 then
      R nM_gap k 98 [.ref 30, .int v1, .int v2, .int v3, .int v4, u5, u6, u7] [.int v2] σ
    else
      R nM_gap k 98 [.ref 30, .int v1, .int v2, .int v3, .int v4, u5, u6, u7] [.int v3] σ := (unr_R [13, 19, 55, 57, 58, 72, 82, 88, 89, 98] nM_gap k 400 13 _ _ _).trans rfl
theorem eM_gap_19 (k : Nat) (v1 : Int32) (v2 : Int32) (v3 : Int32) (v4 : Int32) (v5 : Int32) (u6 : Value) (u7 : Value) (σ : Sto) : R nM_gap k 19 [.ref 30, .int v1, .int v2, .int v3, .int v4, .int v5, u6, u7] [] σ =
  if v5 < (σ 30 0) then
    if inb (3 * v5) 18 = true then
      if inb (3 * v4) 18 = true then
        if v4 = v5 then
          R nM_gap k 57 [.ref 30, .int v1, .int v2, .int v3, .int v4, .int v5, .int ((σ 33 (3 * v5).toNatClampNeg) - (σ 33 (3 * v4).toNatClampNeg)), u7] [] σ
        else
          (C nM_isSeen k [.ref 30, .int v4] σ).bind fun r1 =>
            if r1.1 = 0 then
              R nM_gap k 57 [.ref 30, .int v1, .int v2, .int v3, .int v4, .int v5, .int ((σ 33 (3 * v5).toNatClampNeg) - (σ 33 (3 * v4).toNatClampNeg)), u7] [] r1.2.2
            else
              (C nM_isSeen k [.ref 30, .int v5] r1.2.2).bind fun r2 =>
                if r2.1 = 0 then
                  R nM_gap k 57 [.ref 30, .int v1, .int v2, .int v3, .int v4, .int v5, .int ((σ 33 (3 * v5).toNatClampNeg) - (σ 33 (3 * v4).toNatClampNeg)), u7] [] r2.2.2
                else
                  if 0 < ((σ 33 (3 * v5).toNatClampNeg) - (σ 33 (3 * v4).toNatClampNeg)) then
                    R nM_gap k 55 [.ref 30, .int v1, .int v2, .int v3, .int v4, .int v5, .int ((σ 33 (3 * v5).toNatClampNeg) - (σ 33 (3 * v4).toNatClampNeg)), u7] [] r2.2.2
                  else
                    if ((σ 33 (3 * v5).toNatClampNeg) - (σ 33 (3 * v4).toNatClampNeg)) = 0 then
                      if v4 < v5 then
                        R nM_gap k 55 [.ref 30, .int v1, .int v2, .int v3, .int v4, .int v5, .int ((σ 33 (3 * v5).toNatClampNeg) - (σ 33 (3 * v4).toNatClampNeg)), u7] [] r2.2.2
                      else
                        R nM_gap k 57 [.ref 30, .int v1, .int v2, .int v3, .int v4, .int v5, .int ((σ 33 (3 * v5).toNatClampNeg) - (σ 33 (3 * v4).toNatClampNeg)), u7] [] r2.2.2
                    else
                      R nM_gap k 57 [.ref 30, .int v1, .int v2, .int v3, .int v4, .int v5, .int ((σ 33 (3 * v5).toNatClampNeg) - (σ 33 (3 * v4).toNatClampNeg)), u7] [] r2.2.2
      else
        none
    else
      none
  else
    R nM_gap k 13 [.ref 30, .int v1, .int v2, .int v3, .int (v4 + 1), .int v5, u6, u7] [] σ := (unr_R [13, 19, 55, 57, 58, 72, 82, 88, 89, 98] nM_gap k 400 19 _ _ _).trans rfl
theorem eM_gap_55 (k : Nat) (v1 : Int32) (v2 : Int32) (v3 : Int32) (v4 : Int32) (v5 : Int32) (v6 : Int32) (u7 : Value) (σ : Sto) : R nM_gap k 55 [.ref 30, .int v1, .int v2, .int v3, .int v4, .int v5, .int v6, u7] [] σ =
  R nM_gap k 58 [.ref 30, .int v1, .int v2, .int v3, .int v4, .int v5, .int v6, u7] [.int 1] σ := (unr_R [13, 19, 55, 57, 58, 72, 82, 88, 89, 98] nM_gap k 400 55 _ _ _).trans rfl
theorem eM_gap_57 (k : Nat) (v1 : Int32) (v2 : Int32) (v3 : Int32) (v4 : Int32) (v5 : Int32) (v6 : Int32) (u7 : Value) (σ : Sto) : R nM_gap k 57 [.ref 30, .int v1, .int v2, .int v3, .int v4, .int v5, .int v6, u7] [] σ =
  R nM_gap k 58 [.ref 30, .int v1, .int v2, .int v3, .int v4, .int v5, .int v6, u7] [.int 0] σ := (unr_R [13, 19, 55, 57, 58, 72, 82, 88, 89, 98] nM_gap k 400 57 _ _ _).trans rfl
theorem eM_gap_58 (k : Nat) (v1 : Int32) (v2 : Int32) (v3 : Int32) (v4 : Int32) (v5 : Int32) (v6 : Int32) (u7 : Value) (s0 : Int32) (σ : Sto) : R nM_gap k 58 [.ref 30, .int v1, .int v2, .int v3, .int v4, .int v5, .int v6, u7] [.int s0] σ =
  if s0 = 0 then
    R nM_gap k 89 [.ref 30, .int v1, .int v2, .int v3, .int v4, .int v5, .int v6, .int s0] [] σ
  else
    if v3 < v6 then
      (C nM_isBetween k [.ref 30, .int v4, .int v5] σ).bind fun r1 =>
        if r1.1 = 0 then
          R nM_gap k 72 [.ref 30, .int v1, .int v2, .int v3, .int v4, .int v5, .int v6, .int s0] [.int 1] r1.2.2
        else
          R nM_gap k 72 [.ref 30, .int v1, .int v2, .int v3, .int v4, .int v5, .int v6, .int s0] [.int 0] r1.2.2
    else
      R nM_gap k 89 [.ref 30, .int v1, .int v2, .int v3, .int v4, .int v5, .int v6, .int s0] [] σ := (unr_R [13, 19, 55, 57, 58, 72, 82, 88, 89, 98] nM_gap k 400 58 _ _ _).trans rfl
theorem eM_gap_72 (k : Nat) (v1 : Int32) (v2 : Int32) (v3 : Int32) (v4 : Int32) (v5 : Int32) (v6 : Int32) (v7 : Int32) (s0 : Int32) (σ : Sto) : R nM_gap k 72 [.ref 30, .int v1, .int v2, .int v3, .int v4, .int v5, .int v6, .int v7] [.int s0] σ =
  if s0 = 0 then
    R nM_gap k 82 [.ref 30, .int v1, .int v2, .int v3, .int v4, .int v5, .int v6, .int s0] [.int v2] σ
  else
    R nM_gap k 82 [.ref 30, .int v1, .int v2, .int v3, .int v4, .int v5, .int v6, .int s0] [.int ((10 * v4) + v5)] σ := (unr_R [13, 19, 55, 57, 58, 72, 82, 88, 89, 98] nM_gap k 400 72 _ _ _).trans rfl
theorem eM_gap_82 (k : Nat) (v1 : Int32) (v2 : Int32) (v3 : Int32) (v4 : Int32) (v5 : Int32) (v6 : Int32) (v7 : Int32) (s0 : Int32) (σ : Sto) : R nM_gap k 82 [.ref 30, .int v1, .int v2, .int v3, .int v4, .int v5, .int v6, .int v7] [.int s0] σ =
  if v7 = 0 then
    R nM_gap k 88 [.ref 30, .int v1, .int s0, .int v3, .int v4, .int v5, .int v6, .int v7] [.int v3] σ
  else
    R nM_gap k 88 [.ref 30, .int v1, .int s0, .int v3, .int v4, .int v5, .int v6, .int v7] [.int v6] σ := (unr_R [13, 19, 55, 57, 58, 72, 82, 88, 89, 98] nM_gap k 400 82 _ _ _).trans rfl
theorem eM_gap_88 (k : Nat) (v1 : Int32) (v2 : Int32) (v3 : Int32) (v4 : Int32) (v5 : Int32) (v6 : Int32) (v7 : Int32) (s0 : Int32) (σ : Sto) : R nM_gap k 88 [.ref 30, .int v1, .int v2, .int v3, .int v4, .int v5, .int v6, .int v7] [.int s0] σ =
  R nM_gap k 89 [.ref 30, .int v1, .int v2, .int s0, .int v4, .int v5, .int v6, .int v7] [] σ := (unr_R [13, 19, 55, 57, 58, 72, 82, 88, 89, 98] nM_gap k 400 88 _ _ _).trans rfl
theorem eM_gap_89 (k : Nat) (v1 : Int32) (v2 : Int32) (v3 : Int32) (v4 : Int32) (v5 : Int32) (v6 : Int32) (v7 : Int32) (σ : Sto) : R nM_gap k 89 [.ref 30, .int v1, .int v2, .int v3, .int v4, .int v5, .int v6, .int v7] [] σ =
  R nM_gap k 19 [.ref 30, .int v1, .int v2, .int v3, .int v4, .int (v5 + 1), .int v6, .int v7] [] σ := (unr_R [13, 19, 55, 57, 58, 72, 82, 88, 89, 98] nM_gap k 400 89 _ _ _).trans rfl
theorem eM_gap_98 (k : Nat) (v1 : Int32) (v2 : Int32) (v3 : Int32) (v4 : Int32) (u5 : Value) (u6 : Value) (u7 : Value) (s0 : Int32) (σ : Sto) : R nM_gap k 98 [.ref 30, .int v1, .int v2, .int v3, .int v4, u5, u6, u7] [.int s0] σ =
  some (s0, 0, σ) := (unr_R [13, 19, 55, 57, 58, 72, 82, 88, 89, 98] nM_gap k 400 98 _ _ _).trans rfl
-- X5_lowest
theorem eM_lowest (k : Nat) (p1 : Int64) (p2 : Int64) (p3 : Int32) (σ : Sto) : C nM_lowest k [.long p1, .long p2, .int p3] σ =
  if (lg_cmp p1 0) = 0 then
    some (0, (Int32.toInt64 p3), σ)
  else
    R nM_lowest k 11 [.long p1, .null, .long p2, .null, .int p3, .long p1, .null, .long p2, .null, .null, .null] [] σ := (unr_R [11] nM_lowest k 400 0 _ _ _).trans rfl
theorem eM_lowest_11 (k : Nat) (v0 : Int64) (v2 : Int64) (v4 : Int32) (v5 : Int64) (v7 : Int64) (u9 : Value) (σ : Sto) : R nM_lowest k 11 [.long v0, .null, .long v2, .null, .int v4, .long v5, .null, .long v7, .null, u9, .null] [] σ =
  if (lg_cmp v7 0) = 0 then
    if v4 = 0 then
      if v5 = 0 then
        none
      else
        some (0, (v0 / v5), σ)
    else
      if v5 = 0 then
        none
      else
        some (0, (v2 / v5), σ)
  else
    if v7 = 0 then
      none
    else
      R nM_lowest k 11 [.long v0, .null, .long v2, .null, .int v4, .long v7, .null, .long (v5 - v5 / v7 * v7), .null, .long (v5 - v5 / v7 * v7), .null] [] σ := (unr_R [11] nM_lowest k 400 11 _ _ _).trans rfl
-- X5_middle
theorem eM_middle (k : Nat) (p1 : Int32) (σ : Sto) : C nM_middle k [.ref 30, .int p1] σ =
  R nM_middle k 6 [.ref 30, .int p1, .int 0, .int 0, .int 0] [] σ := (unr_R [6] nM_middle k 400 0 _ _ _).trans rfl
theorem eM_middle_6 (k : Nat) (v1 : Int32) (v2 : Int32) (v3 : Int32) (v4 : Int32) (σ : Sto) : R nM_middle k 6 [.ref 30, .int v1, .int v2, .int v3, .int v4] [] σ =
  if v4 < (σ 30 0) then
    (C nM_isAt k [.ref 30, .int v4] σ).bind fun r1 =>
      if r1.1 = 0 then
        (C nM_isAt k [.ref 30, .int v4] r1.2.2).bind fun r2 =>
          if r2.1 = 0 then
            R nM_middle k 6 [.ref 30, .int v1, .int (v2 + 0), .int (v3 + 0), .int (v4 + 1)] [] r2.2.2
          else
            R nM_middle k 6 [.ref 30, .int v1, .int (v2 + 0), .int (v3 + 1), .int (v4 + 1)] [] r2.2.2
      else
        if inb (3 * v4) 18 = true then
          (C nM_isAt k [.ref 30, .int v4] r1.2.2).bind fun r2 =>
            if r2.1 = 0 then
              R nM_middle k 6 [.ref 30, .int v1, .int (v2 + (r1.2.2 33 (3 * v4).toNatClampNeg)), .int (v3 + 0), .int (v4 + 1)] [] r2.2.2
            else
              R nM_middle k 6 [.ref 30, .int v1, .int (v2 + (r1.2.2 33 (3 * v4).toNatClampNeg)), .int (v3 + 1), .int (v4 + 1)] [] r2.2.2
        else
          none
  else
    (C nM_in k [.int v1, .int 0, .int 1] σ).bind fun r1 =>
      if r1.1 = 0 then
        some (0, (-4611686018427387904), r1.2.2)
      else
        if 0 < v3 then
          (C nM_lowest k [.long (Int32.toInt64 v2), .long (Int32.toInt64 v3), .int v1] r1.2.2).bind fun r2 =>
            some (0, r2.2.1, r2.2.2)
        else
          some (0, (-4611686018427387904), r1.2.2) := (unr_R [6] nM_middle k 400 6 _ _ _).trans rfl
-- X5_sheetWrong
theorem eM_sheetWrong (k : Nat) (p1 : Int32) (σ : Sto) : C nM_sheetWrong k [.ref 30, .int p1] σ =
  (C nM_in k [.int p1, .int 0, .int 3] σ).bind fun r1 =>
    if r1.1 = 0 then
      some ((-2), 0, r1.2.2)
    else
      if inb p1 4 = true then
        if (r1.2.2 40 p1.toNatClampNeg) = (-1) then
          some ((-11), 0, r1.2.2)
        else
          if inb p1 4 = true then
            if 24 < (r1.2.2 41 p1.toNatClampNeg) then
              some ((-2), 0, r1.2.2)
            else
              some (0, 0, r1.2.2)
          else
            none
      else
        none := (unr_R [] nM_sheetWrong k 400 0 _ _ _).trans rfl
-- X5_unlike
theorem eM_unlike (k : Nat) (p1 : Int32) (σ : Sto) : C nM_unlike k [.ref 30, .int p1] σ =
  (C nM_keeps k [.ref 30] σ).bind fun r1 =>
    R nM_unlike k 6 [.ref 30, .int p1, .int (-1), .int 0] [] r1.2.2 := (unr_R [6] nM_unlike k 400 0 _ _ _).trans rfl
theorem eM_unlike_6 (k : Nat) (v1 : Int32) (v2 : Int32) (v3 : Int32) (σ : Sto) : R nM_unlike k 6 [.ref 30, .int v1, .int v2, .int v3] [] σ =
  if inb v1 4 = true then
    if v3 < (σ 41 v1.toNatClampNeg) then
      if v2 = (-1) then
        if inb ((40 * v1) + v3) 160 = true then
          (C nM_hourOf k [.ref 30] σ).bind fun r1 =>
            if (σ 42 ((40 * v1) + v3).toNatClampNeg) = (r1.1 + 1) then
              R nM_unlike k 6 [.ref 30, .int v1, .int (-1), .int (v3 + 1)] [] r1.2.2
            else
              R nM_unlike k 6 [.ref 30, .int v1, .int v3, .int (v3 + 1)] [] r1.2.2
        else
          none
      else
        (C nM_lays k [.ref 30] σ).bind fun r1 =>
          some (v2, 0, r1.2.2)
    else
      (C nM_lays k [.ref 30] σ).bind fun r1 =>
        some (v2, 0, r1.2.2)
  else
    none := (unr_R [6] nM_unlike k 400 6 _ _ _).trans rfl
-- X5_judge
theorem eM_judge (k : Nat) (p1 : Int32) (σ : Sto) : C nM_judge k [.ref 30, .int p1] σ =
  (C nM_sheetWrong k [.ref 30, .int p1] σ).bind fun r1 =>
    if r1.1 = 0 then
      (C nM_unlike k [.ref 30, .int p1] r1.2.2).bind fun r2 =>
        some (r2.1, 0, r2.2.2)
    else
      some (r1.1, 0, r1.2.2) := (unr_R [] nM_judge k 400 0 _ _ _).trans rfl
-- X5_kinds
theorem eM_kinds (k : Nat) (p1 : Int32) (p2 : Int32) (p3 : Int32) (σ : Sto) : C nM_kinds k [.ref 30, .int p1, .int p2, .int p3] σ =
  (C nM_sheetWrong k [.ref 30, .int p1] σ).bind fun r1 =>
    if r1.1 = 0 then
      (C nM_isOne k [.ref 30, .int p2] r1.2.2).bind fun r2 =>
        if r2.1 = 0 then
          some ((-5), 0, r2.2.2)
        else
          (C nM_in k [.int p3, .int 0, .int 1] r2.2.2).bind fun r3 =>
            if r3.1 = 0 then
              some ((-7), 0, r3.2.2)
            else
              if inb p2 6 = true then
                if inb p2 6 = true then
                  R nM_kinds k 35 [.ref 30, .int p1, .int p2, .int p3, .int r1.1, .int (r3.2.2 31 p2.toNatClampNeg), .int (r3.2.2 32 p2.toNatClampNeg), .int 0, .int 0] [] r3.2.2
                else
                  none
              else
                none
    else
      some (r1.1, 0, r1.2.2) := (unr_R [35, 50] nM_kinds k 400 0 _ _ _).trans rfl
theorem eM_kinds_35 (k : Nat) (v1 : Int32) (v2 : Int32) (v3 : Int32) (v4 : Int32) (v5 : Int32) (v6 : Int32) (v7 : Int32) (v8 : Int32) (σ : Sto) : R nM_kinds k 35 [.ref 30, .int v1, .int v2, .int v3, .int v4, .int v5, .int v6, .int v7, .int v8] [] σ =
  if v3 = 0 then
    if v8 < 6 then
      if v3 = 0 then
        R nM_kinds k 50 [.ref 30, .int v1, .int v2, .int v3, .int v4, .int v5, .int v6, .int v7, .int v8] [.int v8, .int v2, .ref 31] σ
      else
        R nM_kinds k 50 [.ref 30, .int v1, .int v2, .int v3, .int v4, .int v5, .int v6, .int v7, .int v8] [.int v5, .int v2, .ref 31] σ
    else
      if inb v2 6 = true then
        if inb v2 6 = true then
          some (v7, 0, (su (su σ 31 v2.toNatClampNeg v5) 32 v2.toNatClampNeg v6))
        else
          none
      else
        none
  else
    if v8 < 10 then
      if v3 = 0 then
        R nM_kinds k 50 [.ref 30, .int v1, .int v2, .int v3, .int v4, .int v5, .int v6, .int v7, .int v8] [.int v8, .int v2, .ref 31] σ
      else
        R nM_kinds k 50 [.ref 30, .int v1, .int v2, .int v3, .int v4, .int v5, .int v6, .int v7, .int v8] [.int v5, .int v2, .ref 31] σ
    else
      if inb v2 6 = true then
        if inb v2 6 = true then
          some (v7, 0, (su (su σ 31 v2.toNatClampNeg v5) 32 v2.toNatClampNeg v6))
        else
          none
      else
        none := (unr_R [35, 50] nM_kinds k 400 35 _ _ _).trans rfl
theorem eM_kinds_50 (k : Nat) (v1 : Int32) (v2 : Int32) (v3 : Int32) (v4 : Int32) (v5 : Int32) (v6 : Int32) (v7 : Int32) (v8 : Int32) (s0 : Int32) (s1 : Int32) (σ : Sto) : R nM_kinds k 50 [.ref 30, .int v1, .int v2, .int v3, .int v4, .int v5, .int v6, .int v7, .int v8] [.int s0, .int s1, .ref 31] σ =
  if inb s1 6 = true then
    if v3 = 1 then
      if inb v2 6 = true then
        (C nM_unlike k [.ref 30, .int v1] (su (su σ 31 s1.toNatClampNeg s0) 32 v2.toNatClampNeg v8)).bind fun r1 =>
          if r1.1 = (-1) then
            R nM_kinds k 35 [.ref 30, .int v1, .int v2, .int v3, .int v4, .int v5, .int v6, .int (v7 ||| (1 <<< (v8 &&& 31))), .int (v8 + 1)] [] r1.2.2
          else
            R nM_kinds k 35 [.ref 30, .int v1, .int v2, .int v3, .int v4, .int v5, .int v6, .int (v7 ||| 0), .int (v8 + 1)] [] r1.2.2
      else
        none
    else
      if inb v2 6 = true then
        (C nM_unlike k [.ref 30, .int v1] (su (su σ 31 s1.toNatClampNeg s0) 32 v2.toNatClampNeg v6)).bind fun r1 =>
          if r1.1 = (-1) then
            R nM_kinds k 35 [.ref 30, .int v1, .int v2, .int v3, .int v4, .int v5, .int v6, .int (v7 ||| (1 <<< (v8 &&& 31))), .int (v8 + 1)] [] r1.2.2
          else
            R nM_kinds k 35 [.ref 30, .int v1, .int v2, .int v3, .int v4, .int v5, .int v6, .int (v7 ||| 0), .int (v8 + 1)] [] r1.2.2
      else
        none
  else
    none := (unr_R [35, 50] nM_kinds k 400 50 _ _ _).trans rfl
-- X5_places
theorem eM_places (k : Nat) (p1 : Int32) (p2 : Int32) (σ : Sto) : C nM_places k [.ref 30, .int p1, .int p2] σ =
  (C nM_sheetWrong k [.ref 30, .int p1] σ).bind fun r1 =>
    if r1.1 = 0 then
      (C nM_isOne k [.ref 30, .int p2] r1.2.2).bind fun r2 =>
        if r2.1 = 0 then
          some (0, (-4611686018427387904), r2.2.2)
        else
          if inb (3 * p2) 18 = true then
            if (r2.2.2 33 (3 * p2).toNatClampNeg) = (-1) then
              some (0, (-4611686018427387904), r2.2.2)
            else
              R nM_places k 26 [.ref 30, .int p1, .int p2, .int (r2.2.2 33 (3 * p2).toNatClampNeg), .long 0, .null, .int 0] [] r2.2.2
          else
            none
    else
      some (0, (-4611686018427387904), r1.2.2) := (unr_R [26] nM_places k 400 0 _ _ _).trans rfl
theorem eM_places_26 (k : Nat) (v1 : Int32) (v2 : Int32) (v3 : Int32) (v4 : Int64) (v6 : Int32) (σ : Sto) : R nM_places k 26 [.ref 30, .int v1, .int v2, .int v3, .long v4, .null, .int v6] [] σ =
  if v6 < 64 then
    if inb (3 * v2) 18 = true then
      (C nM_unlike k [.ref 30, .int v1] (su σ 33 (3 * v2).toNatClampNeg v6)).bind fun r1 =>
        if r1.1 = (-1) then
          R nM_places k 26 [.ref 30, .int v1, .int v2, .int v3, .long (v4 ||| (1 <<< (Int32.toInt64 v6 &&& 63))), .null, .int (v6 + 1)] [] r1.2.2
        else
          R nM_places k 26 [.ref 30, .int v1, .int v2, .int v3, .long (v4 ||| 0), .null, .int (v6 + 1)] [] r1.2.2
    else
      none
  else
    if inb (3 * v2) 18 = true then
      some (0, v4, (su σ 33 (3 * v2).toNatClampNeg v3))
    else
      none := (unr_R [26] nM_places k 400 26 _ _ _).trans rfl
-- X5_turned
theorem eM_turned (k : Nat) (p1 : Int32) (σ : Sto) : C nM_turned k [.ref 30, .int p1] σ =
  (C nM_sheetWrong k [.ref 30, .int p1] σ).bind fun r1 =>
    if r1.1 = 0 then
      R nM_turned k 12 [.ref 30, .int p1, .int r1.1, .int 0, .int 0] [] r1.2.2
    else
      some (r1.1, 0, r1.2.2) := (unr_R [12] nM_turned k 400 0 _ _ _).trans rfl
theorem eM_turned_12 (k : Nat) (v1 : Int32) (v2 : Int32) (v3 : Int32) (v4 : Int32) (σ : Sto) : R nM_turned k 12 [.ref 30, .int v1, .int v2, .int v3, .int v4] [] σ =
  if v4 < (σ 30 0) then
    if inb ((3 * v4) + 1) 18 = true then
      if inb ((3 * v4) + 1) 18 = true then
        (C nM_unlike k [.ref 30, .int v1] (su σ 33 ((3 * v4) + 1).toNatClampNeg (1 - (σ 33 ((3 * v4) + 1).toNatClampNeg)))).bind fun r1 =>
          if r1.1 = (-1) then
            if inb ((3 * v4) + 1) 18 = true then
              if inb ((3 * v4) + 1) 18 = true then
                R nM_turned k 12 [.ref 30, .int v1, .int v2, .int (v3 ||| (1 <<< (v4 &&& 31))), .int (v4 + 1)] [] (su r1.2.2 33 ((3 * v4) + 1).toNatClampNeg (1 - (r1.2.2 33 ((3 * v4) + 1).toNatClampNeg)))
              else
                none
            else
              none
          else
            if inb ((3 * v4) + 1) 18 = true then
              if inb ((3 * v4) + 1) 18 = true then
                R nM_turned k 12 [.ref 30, .int v1, .int v2, .int (v3 ||| 0), .int (v4 + 1)] [] (su r1.2.2 33 ((3 * v4) + 1).toNatClampNeg (1 - (r1.2.2 33 ((3 * v4) + 1).toNatClampNeg)))
              else
                none
            else
              none
      else
        none
    else
      none
  else
    some (v3, 0, σ) := (unr_R [12] nM_turned k 400 12 _ _ _).trans rfl
-- X5_waits
theorem eM_waits (k : Nat) (p1 : Int32) (p2 : Int32) (p3 : Int32) (σ : Sto) : C nM_waits k [.ref 30, .int p1, .int p2, .int p3] σ =
  (C nM_sheetWrong k [.ref 30, .int p1] σ).bind fun r1 =>
    if r1.1 = 0 then
      (C nM_isOne k [.ref 30, .int p2] r1.2.2).bind fun r2 =>
        if r2.1 = 0 then
          some ((-5), 0, r2.2.2)
        else
          (C nM_in k [.int p3, .int 0, .int 1] r2.2.2).bind fun r3 =>
            if r3.1 = 0 then
              some ((-7), 0, r3.2.2)
            else
              if inb ((3 * p2) + 2) 18 = true then
                R nM_waits k 36 [.ref 30, .int p1, .int p2, .int p3, .int r1.1, .int (r3.2.2 33 ((3 * p2) + 2).toNatClampNeg), .int 0, .int (-1), .int 0, .null] [] r3.2.2
              else
                none
    else
      some (r1.1, 0, r1.2.2) := (unr_R [36] nM_waits k 400 0 _ _ _).trans rfl
theorem eM_waits_36 (k : Nat) (v1 : Int32) (v2 : Int32) (v3 : Int32) (v4 : Int32) (v5 : Int32) (v6 : Int32) (v7 : Int32) (v8 : Int32) (u9 : Value) (σ : Sto) : R nM_waits k 36 [.ref 30, .int v1, .int v2, .int v3, .int v4, .int v5, .int v6, .int v7, .int v8, u9] [] σ =
  if 99 < v8 then
    if inb ((3 * v2) + 2) 18 = true then
      if v3 = 0 then
        some (v6, 0, (su σ 33 ((3 * v2) + 2).toNatClampNeg v5))
      else
        some (v7, 0, (su σ 33 ((3 * v2) + 2).toNatClampNeg v5))
    else
      none
  else
    if inb ((3 * v2) + 2) 18 = true then
      (C nM_unlike k [.ref 30, .int v1] (su σ 33 ((3 * v2) + 2).toNatClampNeg v8)).bind fun r1 =>
        if r1.1 = (-1) then
          if v7 = (-1) then
            R nM_waits k 36 [.ref 30, .int v1, .int v2, .int v3, .int v4, .int v5, .int (v6 + 1), .int v8, .int (v8 + 1), .int 1] [] r1.2.2
          else
            R nM_waits k 36 [.ref 30, .int v1, .int v2, .int v3, .int v4, .int v5, .int (v6 + 1), .int v7, .int (v8 + 1), .int 1] [] r1.2.2
        else
          R nM_waits k 36 [.ref 30, .int v1, .int v2, .int v3, .int v4, .int v5, .int (v6 + 0), .int v7, .int (v8 + 1), .int 0] [] r1.2.2
    else
      none := (unr_R [36] nM_waits k 400 36 _ _ _).trans rfl
-- X5_laws
theorem eM_laws (k : Nat) (p1 : Int32) (σ : Sto) : C nM_laws k [.ref 30, .int p1] σ =
  (C nM_sheetWrong k [.ref 30, .int p1] σ).bind fun r1 =>
    if r1.1 = 0 then
      R nM_laws k 15 [.ref 30, .int p1, .int r1.1, .int (r1.2.2 30 10), .int 0, .int 0] [] r1.2.2
    else
      some (r1.1, 0, r1.2.2) := (unr_R [15] nM_laws k 400 0 _ _ _).trans rfl
theorem eM_laws_15 (k : Nat) (v1 : Int32) (v2 : Int32) (v3 : Int32) (v4 : Int32) (v5 : Int32) (σ : Sto) : R nM_laws k 15 [.ref 30, .int v1, .int v2, .int v3, .int v4, .int v5] [] σ =
  if v5 < (σ 30 9) then
    (C nM_unlike k [.ref 30, .int v1] (su σ 30 10 v5)).bind fun r1 =>
      if r1.1 = (-1) then
        R nM_laws k 15 [.ref 30, .int v1, .int v2, .int v3, .int (v4 ||| (1 <<< (v5 &&& 31))), .int (v5 + 1)] [] r1.2.2
      else
        R nM_laws k 15 [.ref 30, .int v1, .int v2, .int v3, .int (v4 ||| 0), .int (v5 + 1)] [] r1.2.2
  else
    some (v4, 0, (su σ 30 10 v3)) := (unr_R [15] nM_laws k 400 15 _ _ _).trans rfl
-- X5_film
theorem eM_film (k : Nat) (p1 : Int32) (p2 : Int32) (σ : Sto) : C nM_film k [.ref 30, .int p1, .int p2] σ =
  (C nM_in k [.int p1, .int 0, .int 3] σ).bind fun r1 =>
    if r1.1 = 0 then
      some ((-2), 0, r1.2.2)
    else
      (C nM_in k [.int p2, .int 0, .int 24] r1.2.2).bind fun r2 =>
        if r2.1 = 0 then
          some ((-7), 0, r2.2.2)
        else
          if inb p1 4 = true then
            if inb p1 4 = true then
              (C nM_keeps k [.ref 30] (su (su r2.2.2 40 p1.toNatClampNeg 0) 41 p1.toNatClampNeg p2)).bind fun r3 =>
                R nM_film k 28 [.ref 30, .int p1, .int p2, .int 0] [] r3.2.2
            else
              none
          else
            none := (unr_R [28] nM_film k 400 0 _ _ _).trans rfl
theorem eM_film_28 (k : Nat) (v1 : Int32) (v2 : Int32) (v3 : Int32) (σ : Sto) : R nM_film k 28 [.ref 30, .int v1, .int v2, .int v3] [] σ =
  if v3 < 40 then
    if v3 < v2 then
      (C nM_hourOf k [.ref 30] σ).bind fun r1 =>
        if inb ((40 * v1) + v3) 160 = true then
          R nM_film k 28 [.ref 30, .int v1, .int v2, .int (v3 + 1)] [] (su r1.2.2 42 ((40 * v1) + v3).toNatClampNeg (r1.1 + 1))
        else
          none
    else
      if inb ((40 * v1) + v3) 160 = true then
        R nM_film k 28 [.ref 30, .int v1, .int v2, .int (v3 + 1)] [] (su σ 42 ((40 * v1) + v3).toNatClampNeg 0)
      else
        none
  else
    (C nM_lays k [.ref 30] σ).bind fun r1 =>
      some (v2, 0, r1.2.2) := (unr_R [28] nM_film k 400 28 _ _ _).trans rfl
-- X5_gulls
theorem eM_gulls (k : Nat) (p1 : Int32) (σ : Sto) : C nM_gulls k [.ref 30, .int p1] σ =
  (C nM_keeps k [.ref 30] σ).bind fun r1 =>
    R nM_gulls k 11 [.ref 30, .int p1, .long ((Int32.toInt64 p1) + 1), .null, .int 0, .int 0, .null] [] r1.2.2 := (unr_R [11, 20, 25, 31] nM_gulls k 400 0 _ _ _).trans rfl
theorem eM_gulls_11 (k : Nat) (v1 : Int32) (v2 : Int64) (v4 : Int32) (v5 : Int32) (u6 : Value) (σ : Sto) : R nM_gulls k 11 [.ref 30, .int v1, .long v2, .null, .int v4, .int v5, u6] [] σ =
  if v5 < 12 then
    R nM_gulls k 20 [.ref 30, .int v1, .long ((v2 * 48271) - (v2 * 48271) / 2147483647 * 2147483647), .null, .int v4, .int v5, u6] [] σ
  else
    (C nM_overSet k [.ref 30] σ).bind fun r1 =>
      (C nM_lays k [.ref 30] (su r1.2.2 30 31 r1.1)).bind fun r2 =>
        some (v4, 0, r2.2.2) := (unr_R [11, 20, 25, 31] nM_gulls k 400 11 _ _ _).trans rfl
theorem eM_gulls_20 (k : Nat) (v1 : Int32) (v2 : Int64) (v4 : Int32) (v5 : Int32) (u6 : Value) (σ : Sto) : R nM_gulls k 20 [.ref 30, .int v1, .long v2, .null, .int v4, .int v5, u6] [] σ =
  R nM_gulls k 25 [.ref 30, .int v1, .long v2, .null, .int v4, .int v5, .int (Int64.toInt32 (v2 - v2 / 6 * 6))] [] σ := (unr_R [11, 20, 25, 31] nM_gulls k 400 20 _ _ _).trans rfl
theorem eM_gulls_25 (k : Nat) (v1 : Int32) (v2 : Int64) (v4 : Int32) (v5 : Int32) (v6 : Int32) (σ : Sto) : R nM_gulls k 25 [.ref 30, .int v1, .long v2, .null, .int v4, .int v5, .int v6] [] σ =
  R nM_gulls k 31 [.ref 30, .int v1, .long ((v2 * 48271) - (v2 * 48271) / 2147483647 * 2147483647), .null, .int v4, .int v5, .int v6] [] σ := (unr_R [11, 20, 25, 31] nM_gulls k 400 25 _ _ _).trans rfl
theorem eM_gulls_31 (k : Nat) (v1 : Int32) (v2 : Int64) (v4 : Int32) (v5 : Int32) (v6 : Int32) (σ : Sto) : R nM_gulls k 31 [.ref 30, .int v1, .long v2, .null, .int v4, .int v5, .int v6] [] σ =
  if v6 < (σ 30 0) then
    (C nM_isAt k [.ref 30, .int v6] σ).bind fun r1 =>
      if r1.1 = 0 then
        if inb (3 * v6) 18 = true then
          (C nM_hourOf k [.ref 30] (su r1.2.2 33 (3 * v6).toNatClampNeg (-1))).bind fun r2 =>
            if r2.1 = (-1) then
              R nM_gulls k 11 [.ref 30, .int v1, .long v2, .null, .int (v4 + 0), .int (v5 + 1), .int v6] [] r2.2.2
            else
              R nM_gulls k 11 [.ref 30, .int v1, .long v2, .null, .int (v4 + 1), .int (v5 + 1), .int v6] [] r2.2.2
        else
          none
      else
        if inb (3 * v6) 18 = true then
          (C nM_hourOf k [.ref 30] (su r1.2.2 33 (3 * v6).toNatClampNeg (Int64.toInt32 (v2 - v2 / 64 * 64)))).bind fun r2 =>
            if r2.1 = (-1) then
              R nM_gulls k 11 [.ref 30, .int v1, .long v2, .null, .int (v4 + 0), .int (v5 + 1), .int v6] [] r2.2.2
            else
              R nM_gulls k 11 [.ref 30, .int v1, .long v2, .null, .int (v4 + 1), .int (v5 + 1), .int v6] [] r2.2.2
        else
          none
  else
    (C nM_hourOf k [.ref 30] σ).bind fun r1 =>
      if r1.1 = (-1) then
        R nM_gulls k 11 [.ref 30, .int v1, .long v2, .null, .int (v4 + 0), .int (v5 + 1), .int v6] [] r1.2.2
      else
        R nM_gulls k 11 [.ref 30, .int v1, .long v2, .null, .int (v4 + 1), .int (v5 + 1), .int v6] [] r1.2.2 := (unr_R [11, 20, 25, 31] nM_gulls k 400 31 _ _ _).trans rfl
-- X5_drawn
theorem eM_drawn (k : Nat) (p1 : Int32) (p2 : Int32) (σ : Sto) : C nM_drawn k [.ref 30, .int p1, .int p2] σ =
  (C nM_in k [.int p1, .int 0, .int 99999] σ).bind fun r1 =>
    if r1.1 = 0 then
      some ((-2), 0, r1.2.2)
    else
      (C nM_in k [.int p2, .int 0, .int 1] r1.2.2).bind fun r2 =>
        if r2.1 = 0 then
          some ((-2), 0, r2.2.2)
        else
          (C nM_gulls k [.ref 30, .int p1] r2.2.2).bind fun r3 =>
            if p2 = 0 then
              some (r3.1, 0, r3.2.2)
            else
              some ((r3.2.2 30 31), 0, r3.2.2) := (unr_R [] nM_drawn k 400 0 _ _ _).trans rfl
-- X5_odds
theorem eM_odds (k : Nat) (p1 : Int32) (p2 : Int32) (p3 : Int32) (p4 : Int32) (σ : Sto) : C nM_odds k [.ref 30, .int p1, .int p2, .int p3, .int p4] σ =
  (C nM_in k [.int p1, .int 0, .int 99999] σ).bind fun r1 =>
    if r1.1 = 0 then
      some (0, (-4611686018427387904), r1.2.2)
    else
      (C nM_in k [.int p2, .int 1, .int 40] r1.2.2).bind fun r2 =>
        if r2.1 = 0 then
          some (0, (-4611686018427387904), r2.2.2)
        else
          (C nM_in k [.int p3, .int 0, .int 12] r2.2.2).bind fun r3 =>
            if r3.1 = 0 then
              some (0, (-4611686018427387904), r3.2.2)
            else
              (C nM_in k [.int p4, .int 0, .int 1] r3.2.2).bind fun r4 =>
                if r4.1 = 0 then
                  some (0, (-4611686018427387904), r4.2.2)
                else
                  R nM_odds k 26 [.ref 30, .int p1, .int p2, .int p3, .int p4, .long 0, .null, .int 0] [] r4.2.2 := (unr_R [26] nM_odds k 400 0 _ _ _).trans rfl
theorem eM_odds_26 (k : Nat) (v1 : Int32) (v2 : Int32) (v3 : Int32) (v4 : Int32) (v5 : Int64) (v7 : Int32) (σ : Sto) : R nM_odds k 26 [.ref 30, .int v1, .int v2, .int v3, .int v4, .long v5, .null, .int v7] [] σ =
  if v7 < v2 then
    (C nM_gulls k [.ref 30, .int (v1 + v7)] σ).bind fun r1 =>
      if r1.1 < v3 then
        R nM_odds k 26 [.ref 30, .int v1, .int v2, .int v3, .int v4, .long (v5 + 0), .null, .int (v7 + 1)] [] r1.2.2
      else
        R nM_odds k 26 [.ref 30, .int v1, .int v2, .int v3, .int v4, .long (v5 + 1), .null, .int (v7 + 1)] [] r1.2.2
  else
    (C nM_lowest k [.long v5, .long (Int32.toInt64 v2), .int v4] σ).bind fun r1 =>
      some (0, r1.2.1, r1.2.2) := (unr_R [26] nM_odds k 400 26 _ _ _).trans rfl
-- X5_image
theorem eM_image (k : Nat) (σ : Sto) : C nM_image k [.ref 30] σ =
  R nM_image k 5 [.ref 30, .int 0] [] (su σ 30 11 1) := (unr_R [5, 20] nM_image k 400 0 _ _ _).trans rfl
theorem eM_image_5 (k : Nat) (v1 : Int32) (σ : Sto) : R nM_image k 5 [.ref 30, .int v1] [] σ =
  if v1 < 18 then
    if inb v1 18 = true then
      if inb v1 22 = true then
        R nM_image k 5 [.ref 30, .int (v1 + 1)] [] (su σ 38 v1.toNatClampNeg (σ 33 v1.toNatClampNeg))
      else
        none
    else
      none
  else
    R nM_image k 20 [.ref 30, .int 0] [] σ := (unr_R [5, 20] nM_image k 400 5 _ _ _).trans rfl
theorem eM_image_20 (k : Nat) (v1 : Int32) (σ : Sto) : R nM_image k 20 [.ref 30, .int v1] [] σ =
  if v1 < 4 then
    if inb v1 4 = true then
      if inb (18 + v1) 22 = true then
        R nM_image k 20 [.ref 30, .int (v1 + 1)] [] (su σ 38 (18 + v1).toNatClampNeg (σ 34 v1.toNatClampNeg))
      else
        none
    else
      none
  else
    some (((su (su σ 39 (0 : Int32).toNatClampNeg (σ 30 0)) 39 (1 : Int32).toNatClampNeg ((su σ 39 (0 : Int32).toNatClampNeg (σ 30 0)) 30 10)) 30 0), 0, (su (su σ 39 (0 : Int32).toNatClampNeg (σ 30 0)) 39 (1 : Int32).toNatClampNeg ((su σ 39 (0 : Int32).toNatClampNeg (σ 30 0)) 30 10))) := (unr_R [5, 20] nM_image k 400 20 _ _ _).trans rfl
-- X5_back
theorem eM_back (k : Nat) (σ : Sto) : C nM_back k [.ref 30] σ =
  if (σ 30 11) = 0 then
    some ((-3), 0, σ)
  else
    R nM_back k 7 [.ref 30, .int 0] [] σ := (unr_R [7, 22] nM_back k 400 0 _ _ _).trans rfl
theorem eM_back_7 (k : Nat) (v1 : Int32) (σ : Sto) : R nM_back k 7 [.ref 30, .int v1] [] σ =
  if v1 < 18 then
    if inb v1 22 = true then
      if inb v1 18 = true then
        R nM_back k 7 [.ref 30, .int (v1 + 1)] [] (su σ 33 v1.toNatClampNeg (σ 38 v1.toNatClampNeg))
      else
        none
    else
      none
  else
    R nM_back k 22 [.ref 30, .int 0] [] σ := (unr_R [7, 22] nM_back k 400 7 _ _ _).trans rfl
theorem eM_back_22 (k : Nat) (v1 : Int32) (σ : Sto) : R nM_back k 22 [.ref 30, .int v1] [] σ =
  if v1 < 4 then
    if inb (18 + v1) 22 = true then
      if inb v1 4 = true then
        R nM_back k 22 [.ref 30, .int (v1 + 1)] [] (su σ 34 v1.toNatClampNeg (σ 38 (18 + v1).toNatClampNeg))
      else
        none
    else
      none
  else
    some (((su (su σ 30 0 (σ 39 (0 : Int32).toNatClampNeg)) 30 10 ((su σ 30 0 (σ 39 (0 : Int32).toNatClampNeg)) 39 (1 : Int32).toNatClampNeg)) 30 0), 0, (su (su σ 30 0 (σ 39 (0 : Int32).toNatClampNeg)) 30 10 ((su σ 30 0 (σ 39 (0 : Int32).toNatClampNeg)) 39 (1 : Int32).toNatClampNeg))) := (unr_R [7, 22] nM_back k 400 22 _ _ _).trans rfl
-- X5_sheet
theorem eM_sheet (k : Nat) (p1 : Int32) (p2 : Int32) (p3 : Int32) (σ : Sto) : C nM_sheet k [.ref 30, .int p1, .int p2, .int p3] σ =
  (C nM_in k [.int p1, .int 0, .int 3] σ).bind fun r1 =>
    if r1.1 = 0 then
      some ((-2), 0, r1.2.2)
    else
      (C nM_in k [.int p2, .int (-1), .int 2] r1.2.2).bind fun r2 =>
        if r2.1 = 0 then
          some ((-2), 0, r2.2.2)
        else
          if p2 = (-1) then
            if p2 = (-1) then
              R nM_sheet k 25 [.ref 30, .int p1, .int p2, .int p3, .null] [] r2.2.2
            else
              if p3 < 0 then
                some ((-14), 0, r2.2.2)
              else
                R nM_sheet k 25 [.ref 30, .int p1, .int p2, .int p3, .null] [] r2.2.2
          else
            if 40 < p3 then
              some ((-2), 0, r2.2.2)
            else
              if p2 = (-1) then
                R nM_sheet k 25 [.ref 30, .int p1, .int p2, .int p3, .null] [] r2.2.2
              else
                if p3 < 0 then
                  some ((-14), 0, r2.2.2)
                else
                  R nM_sheet k 25 [.ref 30, .int p1, .int p2, .int p3, .null] [] r2.2.2 := (unr_R [25, 42] nM_sheet k 400 0 _ _ _).trans rfl
theorem eM_sheet_25 (k : Nat) (v1 : Int32) (v2 : Int32) (v3 : Int32) (σ : Sto) : R nM_sheet k 25 [.ref 30, .int v1, .int v2, .int v3, .null] [] σ =
  if inb v1 4 = true then
    if v2 = (-1) then
      if inb v1 4 = true then
        R nM_sheet k 42 [.ref 30, .int v1, .int v2, .int v3, .int 0] [] (su (su σ 40 v1.toNatClampNeg v2) 41 v1.toNatClampNeg 0)
      else
        none
    else
      if inb v1 4 = true then
        R nM_sheet k 42 [.ref 30, .int v1, .int v2, .int v3, .int 0] [] (su (su σ 40 v1.toNatClampNeg v2) 41 v1.toNatClampNeg v3)
      else
        none
  else
    none := (unr_R [25, 42] nM_sheet k 400 25 _ _ _).trans rfl
theorem eM_sheet_42 (k : Nat) (v1 : Int32) (v2 : Int32) (v3 : Int32) (v4 : Int32) (σ : Sto) : R nM_sheet k 42 [.ref 30, .int v1, .int v2, .int v3, .int v4] [] σ =
  if v4 < 40 then
    if inb ((40 * v1) + v4) 160 = true then
      R nM_sheet k 42 [.ref 30, .int v1, .int v2, .int v3, .int (v4 + 1)] [] (su σ 42 ((40 * v1) + v4).toNatClampNeg 0)
    else
      none
  else
    some (1, 0, σ) := (unr_R [25, 42] nM_sheet k 400 42 _ _ _).trans rfl
-- X5_cell
set_option maxRecDepth 1000000 in
theorem eM_cell (k : Nat) (p1 : Int32) (p2 : Int32) (p3 : Int32) (σ : Sto) : C nM_cell k [.ref 30, .int p1, .int p2, .int p3] σ =
  (C nM_in k [.int p1, .int 0, .int 3] σ).bind fun r1 =>
    if r1.1 = 0 then
      some ((-2), 0, r1.2.2)
    else
      if inb p1 4 = true then
        if (r1.2.2 40 p1.toNatClampNeg) = (-1) then
          some ((-11), 0, r1.2.2)
        else
          if inb p1 4 = true then
            (C nM_in k [.int p2, .int 0, .int ((r1.2.2 41 p1.toNatClampNeg) - 1)] r1.2.2).bind fun r2 =>
              if r2.1 = 0 then
                some ((-12), 0, r2.2.2)
              else
                if inb p1 4 = true then
                  if (r2.2.2 40 p1.toNatClampNeg) = 0 then
                    if inb ((40 * p1) + p2) 160 = true then
                      some (1, 0, (su r2.2.2 42 ((40 * p1) + p2).toNatClampNeg ((Int32.toInt8 p3).toInt32)))
                    else
                      none
                  else
                    if inb p1 4 = true then
                      if (r2.2.2 40 p1.toNatClampNeg) = 1 then
                        if inb ((40 * p1) + p2) 160 = true then
                          some (1, 0, (su r2.2.2 42 ((40 * p1) + p2).toNatClampNeg ((Int32.toInt16 p3).toInt32)))
                        else
                          none
                      else
                        if inb ((40 * p1) + p2) 160 = true then
                          some (1, 0, (su r2.2.2 42 ((40 * p1) + p2).toNatClampNeg p3))
                        else
                          none
                    else
                      none
                else
                  none
          else
            none
      else
        none := (unr_R [] nM_cell k 400 0 _ _ _).trans rfl
-- X5_copy
set_option maxRecDepth 1000000 in
theorem eM_copy (k : Nat) (p1 : Int32) (p2 : Int32) (p3 : Int32) (p4 : Int32) (p5 : Int32) (σ : Sto) : C nM_copy k [.ref 30, .int p1, .int p2, .int p3, .int p4, .int p5] σ =
  (C nM_in k [.int p1, .int 0, .int 3] σ).bind fun r1 =>
    if r1.1 = 0 then
      R nM_copy k 10 [.ref 30, .int p1, .int p2, .int p3, .int p4, .int p5, .null, .null, .null, .null] [] r1.2.2
    else
      (C nM_in k [.int p3, .int 0, .int 3] r1.2.2).bind fun r2 =>
        if r2.1 = 0 then
          R nM_copy k 10 [.ref 30, .int p1, .int p2, .int p3, .int p4, .int p5, .null, .null, .null, .null] [] r2.2.2
        else
          if inb p1 4 = true then
            if (r2.2.2 40 p1.toNatClampNeg) = (-1) then
              R nM_copy k 24 [.ref 30, .int p1, .int p2, .int p3, .int p4, .int p5, .null, .null, .null, .null] [] r2.2.2
            else
              if inb p3 4 = true then
                if (r2.2.2 40 p3.toNatClampNeg) = (-1) then
                  R nM_copy k 24 [.ref 30, .int p1, .int p2, .int p3, .int p4, .int p5, .null, .null, .null, .null] [] r2.2.2
                else
                  if inb p1 4 = true then
                    if inb p3 4 = true then
                      if (r2.2.2 40 p1.toNatClampNeg) = (r2.2.2 40 p3.toNatClampNeg) then
                        if p5 < 0 then
                          R nM_copy k 71 [.ref 30, .int p1, .int p2, .int p3, .int p4, .int p5, .null, .null, .null, .null] [] r2.2.2
                        else
                          if p2 < 0 then
                            R nM_copy k 71 [.ref 30, .int p1, .int p2, .int p3, .int p4, .int p5, .null, .null, .null, .null] [] r2.2.2
                          else
                            if p4 < 0 then
                              R nM_copy k 71 [.ref 30, .int p1, .int p2, .int p3, .int p4, .int p5, .null, .null, .null, .null] [] r2.2.2
                            else
                              if inb p1 4 = true then
                                if (r2.2.2 41 p1.toNatClampNeg) < p2 then
                                  R nM_copy k 71 [.ref 30, .int p1, .int p2, .int p3, .int p4, .int p5, .null, .null, .null, .null] [] r2.2.2
                                else
                                  if inb p3 4 = true then
                                    if (r2.2.2 41 p3.toNatClampNeg) < p4 then
                                      R nM_copy k 71 [.ref 30, .int p1, .int p2, .int p3, .int p4, .int p5, .null, .null, .null, .null] [] r2.2.2
                                    else
                                      if inb p1 4 = true then
                                        if ((r2.2.2 41 p1.toNatClampNeg) - p2) < p5 then
                                          R nM_copy k 71 [.ref 30, .int p1, .int p2, .int p3, .int p4, .int p5, .null, .null, .null, .null] [] r2.2.2
                                        else
                                          if inb p3 4 = true then
                                            if ((r2.2.2 41 p3.toNatClampNeg) - p4) < p5 then
                                              R nM_copy k 71 [.ref 30, .int p1, .int p2, .int p3, .int p4, .int p5, .null, .null, .null, .null] [] r2.2.2
                                            else
                                              R nM_copy k 87 [.ref 30, .int p1, .int p2, .int p3, .int p4, .int p5, .int ((40 * p1) + p2), .int ((40 * p3) + p4), .int 0, .null] [] r2.2.2
                                          else
                                            none
                                      else
                                        none
                                  else
                                    none
                              else
                                none
                      else
                        some ((-13), 0, r2.2.2)
                    else
                      none
                  else
                    none
              else
                none
          else
            none := (unr_R [10, 24, 71, 87, 100] nM_copy k 400 0 _ _ _).trans rfl
theorem eM_copy_10 (k : Nat) (v1 : Int32) (v2 : Int32) (v3 : Int32) (v4 : Int32) (v5 : Int32) (σ : Sto) : R nM_copy k 10 [.ref 30, .int v1, .int v2, .int v3, .int v4, .int v5, .null, .null, .null, .null] [] σ =
  some ((-2), 0, σ) := (unr_R [10, 24, 71, 87, 100] nM_copy k 400 10 _ _ _).trans rfl
theorem eM_copy_24 (k : Nat) (v1 : Int32) (v2 : Int32) (v3 : Int32) (v4 : Int32) (v5 : Int32) (σ : Sto) : R nM_copy k 24 [.ref 30, .int v1, .int v2, .int v3, .int v4, .int v5, .null, .null, .null, .null] [] σ =
  some ((-11), 0, σ) := (unr_R [10, 24, 71, 87, 100] nM_copy k 400 24 _ _ _).trans rfl
theorem eM_copy_71 (k : Nat) (v1 : Int32) (v2 : Int32) (v3 : Int32) (v4 : Int32) (v5 : Int32) (σ : Sto) : R nM_copy k 71 [.ref 30, .int v1, .int v2, .int v3, .int v4, .int v5, .null, .null, .null, .null] [] σ =
  some ((-12), 0, σ) := (unr_R [10, 24, 71, 87, 100] nM_copy k 400 71 _ _ _).trans rfl
theorem eM_copy_87 (k : Nat) (v1 : Int32) (v2 : Int32) (v3 : Int32) (v4 : Int32) (v5 : Int32) (v6 : Int32) (v7 : Int32) (v8 : Int32) (u9 : Value) (σ : Sto) : R nM_copy k 87 [.ref 30, .int v1, .int v2, .int v3, .int v4, .int v5, .int v6, .int v7, .int v8, u9] [] σ =
  if v8 < v5 then
    if v6 < v7 then
      R nM_copy k 100 [.ref 30, .int v1, .int v2, .int v3, .int v4, .int v5, .int v6, .int v7, .int v8, u9] [.int ((v5 - 1) - v8)] σ
    else
      R nM_copy k 100 [.ref 30, .int v1, .int v2, .int v3, .int v4, .int v5, .int v6, .int v7, .int v8, u9] [.int v8] σ
  else
    some (v5, 0, σ) := (unr_R [10, 24, 71, 87, 100] nM_copy k 400 87 _ _ _).trans rfl
theorem eM_copy_100 (k : Nat) (v1 : Int32) (v2 : Int32) (v3 : Int32) (v4 : Int32) (v5 : Int32) (v6 : Int32) (v7 : Int32) (v8 : Int32) (u9 : Value) (s0 : Int32) (σ : Sto) : R nM_copy k 100 [.ref 30, .int v1, .int v2, .int v3, .int v4, .int v5, .int v6, .int v7, .int v8, u9] [.int s0] σ =
  if inb (v6 + s0) 160 = true then
    if inb (v7 + s0) 160 = true then
      R nM_copy k 87 [.ref 30, .int v1, .int v2, .int v3, .int v4, .int v5, .int v6, .int v7, .int (v8 + 1), .int s0] [] (su σ 42 (v7 + s0).toNatClampNeg (σ 42 (v6 + s0).toNatClampNeg))
    else
      none
  else
    none := (unr_R [10, 24, 71, 87, 100] nM_copy k 400 100 _ _ _).trans rfl
-- X5_peopleBy
theorem eM_peopleBy (k : Nat) (p1 : Int32) (p2 : Int32) (p3 : Int32) (p4 : Int32) (σ : Sto) : C nM_peopleBy k [.ref 30, .int p1, .int p2, .int p3, .int p4] σ =
  (C nM_in k [.int p1, .int 0, .int 3] σ).bind fun r1 =>
    if r1.1 = 0 then
      some ((-2), 0, r1.2.2)
    else
      (C nM_in k [.int p2, .int 0, .int 2] r1.2.2).bind fun r2 =>
        if r2.1 = 0 then
          some ((-2), 0, r2.2.2)
        else
          (C nM_in k [.int p4, .int 0, .int 6] r2.2.2).bind fun r3 =>
            if r3.1 = 0 then
              some ((-2), 0, r3.2.2)
            else
              if inb p1 4 = true then
                if (r3.2.2 40 p1.toNatClampNeg) = (-1) then
                  some ((-11), 0, r3.2.2)
                else
                  if inb p1 4 = true then
                    if (r3.2.2 40 p1.toNatClampNeg) = p2 then
                      R nM_peopleBy k 37 [.ref 30, .int p1, .int p2, .int p3, .int p4, .int 0, .int 0, .null, .null] [] r3.2.2
                    else
                      some ((-13), 0, r3.2.2)
                  else
                    none
              else
                none := (unr_R [37] nM_peopleBy k 400 0 _ _ _).trans rfl
theorem eM_peopleBy_37 (k : Nat) (v1 : Int32) (v2 : Int32) (v3 : Int32) (v4 : Int32) (v5 : Int32) (v6 : Int32) (u7 : Value) (u8 : Value) (σ : Sto) : R nM_peopleBy k 37 [.ref 30, .int v1, .int v2, .int v3, .int v4, .int v5, .int v6, u7, u8] [] σ =
  if v6 < v4 then
    if v3 < 0 then
      some ((-12), 0, σ)
    else
      if (v3 + (2 * v6)) < v3 then
        some ((-12), 0, σ)
      else
        if inb v1 4 = true then
          if ((σ 41 v1.toNatClampNeg) - 2) < (v3 + (2 * v6)) then
            some ((-12), 0, σ)
          else
            if inb ((40 * v1) + (v3 + (2 * v6))) 160 = true then
              if inb (((40 * v1) + (v3 + (2 * v6))) + 1) 160 = true then
                (C nM_traveller k [.ref 30, .int (σ 42 ((40 * v1) + (v3 + (2 * v6))).toNatClampNeg), .int (σ 42 (((40 * v1) + (v3 + (2 * v6))) + 1).toNatClampNeg)] σ).bind fun r1 =>
                  if r1.1 < 0 then
                    R nM_peopleBy k 37 [.ref 30, .int v1, .int v2, .int v3, .int v4, .int (v5 + 0), .int (v6 + 1), .int (v3 + (2 * v6)), .int ((40 * v1) + (v3 + (2 * v6)))] [] r1.2.2
                  else
                    R nM_peopleBy k 37 [.ref 30, .int v1, .int v2, .int v3, .int v4, .int (v5 + 1), .int (v6 + 1), .int (v3 + (2 * v6)), .int ((40 * v1) + (v3 + (2 * v6)))] [] r1.2.2
              else
                none
            else
              none
        else
          none
  else
    some (v5, 0, σ) := (unr_R [37] nM_peopleBy k 400 37 _ _ _).trans rfl
-- X5_isUnder
theorem eM_isUnder (k : Nat) (p1 : Int32) (p2 : Int32) (σ : Sto) : C nM_isUnder k [.int p1, .int p2] σ =
  if p2 = 0 then
    some (1, 0, σ)
  else
    if p1 = p2 then
      some (1, 0, σ)
    else
      if p2 = 1 then
        if p1 = 3 then
          some (1, 0, σ)
        else
          if p2 = 2 then
            if p1 = 4 then
              some (1, 0, σ)
            else
              some (0, 0, σ)
          else
            some (0, 0, σ)
      else
        if p2 = 2 then
          if p1 = 4 then
            some (1, 0, σ)
          else
            some (0, 0, σ)
        else
          some (0, 0, σ) := (unr_R [] nM_isUnder k 400 0 _ _ _).trans rfl
-- X5_taken
theorem eM_taken (k : Nat) (p1 : Int32) (p2 : Int32) (σ : Sto) : C nM_taken k [.ref 30, .int p1, .int p2] σ =
  (C nM_in k [.int p2, .int 0, .int 6] σ).bind fun r1 =>
    if r1.1 = 0 then
      some ((-2), 0, r1.2.2)
    else
      (C nM_in k [.int p1, .int 0, .int 11] r1.2.2).bind fun r2 =>
        if r2.1 = 0 then
          some ((-12), 0, r2.2.2)
        else
          if (p1 - p1 / 6 * 6) < (r2.2.2 30 0) then
            if p1 < 6 then
              if p2 < 6 then
                if inb p1 6 = true then
                  (C nM_isUnder k [.int (r2.2.2 31 p1.toNatClampNeg), .int p2] r2.2.2).bind fun r3 =>
                    if r3.1 = 0 then
                      some ((-13), 0, r3.2.2)
                    else
                      some (p1, 0, r3.2.2)
                else
                  none
              else
                some ((-13), 0, r2.2.2)
            else
              if p2 = 6 then
                if inb ((3 * (p1 - 6)) + 2) 18 = true then
                  some ((r2.2.2 33 ((3 * (p1 - 6)) + 2).toNatClampNeg), 0, r2.2.2)
                else
                  none
              else
                some ((-13), 0, r2.2.2)
          else
            some ((-11), 0, r2.2.2) := (unr_R [] nM_taken k 400 0 _ _ _).trans rfl
end
section
/-! EQUATIONS of the methods 185 .. 185 -/
-- L_law
set_option maxRecDepth 1000000 in
theorem eL_law_10 (k : Nat) (v3 : Int32) (σ : Sto) : R nL_law k 10 [.ref 99, .ref 0, .ref 30, .int v3] [] σ =
  if ((σ 98 0) - 7) < v3 then
    some (1, 0, σ)
  else
    if inb v3 (σ 98 0).toNatClampNeg = true then
      if ((σ 99 v3.toNatClampNeg) &&& 63) = 0 then
        R nL_law k 22 [.ref 99, .ref 0, .ref 30, .int v3] [] σ
      else
        if ((σ 99 v3.toNatClampNeg) &&& 63) = 1 then
          R nL_law k 39 [.ref 99, .ref 0, .ref 30, .int v3] [] σ
        else
          if ((σ 99 v3.toNatClampNeg) &&& 63) = 2 then
            R nL_law k 66 [.ref 99, .ref 0, .ref 30, .int v3] [] σ
          else
            if ((σ 99 v3.toNatClampNeg) &&& 63) = 3 then
              R nL_law k 83 [.ref 99, .ref 0, .ref 30, .int v3] [] σ
            else
              if ((σ 99 v3.toNatClampNeg) &&& 63) = 4 then
                R nL_law k 150 [.ref 99, .ref 0, .ref 30, .int v3] [] σ
              else
                if ((σ 99 v3.toNatClampNeg) &&& 63) = 5 then
                  R nL_law k 157 [.ref 99, .ref 0, .ref 30, .int v3] [] σ
                else
                  if ((σ 99 v3.toNatClampNeg) &&& 63) = 6 then
                    R nL_law k 174 [.ref 99, .ref 0, .ref 30, .int v3] [] σ
                  else
                    if ((σ 99 v3.toNatClampNeg) &&& 63) = 7 then
                      R nL_law k 201 [.ref 99, .ref 0, .ref 30, .int v3] [] σ
                    else
                      if ((σ 99 v3.toNatClampNeg) &&& 63) = 8 then
                        R nL_law k 228 [.ref 99, .ref 0, .ref 30, .int v3] [] σ
                      else
                        if ((σ 99 v3.toNatClampNeg) &&& 63) = 9 then
                          R nL_law k 265 [.ref 99, .ref 0, .ref 30, .int v3] [] σ
                        else
                          if ((σ 99 v3.toNatClampNeg) &&& 63) = 10 then
                            R nL_law k 292 [.ref 99, .ref 0, .ref 30, .int v3] [] σ
                          else
                            if ((σ 99 v3.toNatClampNeg) &&& 63) = 11 then
                              R nL_law k 299 [.ref 99, .ref 0, .ref 30, .int v3] [] σ
                            else
                              if ((σ 99 v3.toNatClampNeg) &&& 63) = 12 then
                                R nL_law k 326 [.ref 99, .ref 0, .ref 30, .int v3] [] σ
                              else
                                if ((σ 99 v3.toNatClampNeg) &&& 63) = 13 then
                                  R nL_law k 353 [.ref 99, .ref 0, .ref 30, .int v3] [] σ
                                else
                                  if ((σ 99 v3.toNatClampNeg) &&& 63) = 14 then
                                    R nL_law k 380 [.ref 99, .ref 0, .ref 30, .int v3] [] σ
                                  else
                                    if ((σ 99 v3.toNatClampNeg) &&& 63) = 15 then
                                      R nL_law k 407 [.ref 99, .ref 0, .ref 30, .int v3] [] σ
                                    else
                                      if ((σ 99 v3.toNatClampNeg) &&& 63) = 16 then
                                        R nL_law k 434 [.ref 99, .ref 0, .ref 30, .int v3] [] σ
                                      else
                                        if ((σ 99 v3.toNatClampNeg) &&& 63) = 17 then
                                          R nL_law k 461 [.ref 99, .ref 0, .ref 30, .int v3] [] σ
                                        else
                                          if ((σ 99 v3.toNatClampNeg) &&& 63) = 18 then
                                            R nL_law k 478 [.ref 99, .ref 0, .ref 30, .int v3] [] σ
                                          else
                                            if ((σ 99 v3.toNatClampNeg) &&& 63) = 19 then
                                              R nL_law k 495 [.ref 99, .ref 0, .ref 30, .int v3] [] σ
                                            else
                                              if ((σ 99 v3.toNatClampNeg) &&& 63) = 20 then
                                                R nL_law k 513 [.ref 99, .ref 0, .ref 30, .int v3] [] σ
                                              else
                                                if ((σ 99 v3.toNatClampNeg) &&& 63) = 21 then
                                                  R nL_law k 530 [.ref 99, .ref 0, .ref 30, .int v3] [] σ
                                                else
                                                  if ((σ 99 v3.toNatClampNeg) &&& 63) = 22 then
                                                    R nL_law k 567 [.ref 99, .ref 0, .ref 30, .int v3] [] σ
                                                  else
                                                    if ((σ 99 v3.toNatClampNeg) &&& 63) = 23 then
                                                      R nL_law k 595 [.ref 99, .ref 0, .ref 30, .int v3] [] σ
                                                    else
                                                      if ((σ 99 v3.toNatClampNeg) &&& 63) = 24 then
                                                        R nL_law k 612 [.ref 99, .ref 0, .ref 30, .int v3] [] σ
                                                      else
                                                        if ((σ 99 v3.toNatClampNeg) &&& 63) = 25 then
                                                          R nL_law k 649 [.ref 99, .ref 0, .ref 30, .int v3] [] σ
                                                        else
                                                          if ((σ 99 v3.toNatClampNeg) &&& 63) = 26 then
                                                            R nL_law k 666 [.ref 99, .ref 0, .ref 30, .int v3] [] σ
                                                          else
                                                            if ((σ 99 v3.toNatClampNeg) &&& 63) = 27 then
                                                              R nL_law k 693 [.ref 99, .ref 0, .ref 30, .int v3] [] σ
                                                            else
                                                              if ((σ 99 v3.toNatClampNeg) &&& 63) = 28 then
                                                                R nL_law k 720 [.ref 99, .ref 0, .ref 30, .int v3] [] σ
                                                              else
                                                                if ((σ 99 v3.toNatClampNeg) &&& 63) = 29 then
                                                                  R nL_law k 768 [.ref 99, .ref 0, .ref 30, .int v3] [] σ
                                                                else
                                                                  if ((σ 99 v3.toNatClampNeg) &&& 63) = 30 then
                                                                    R nL_law k 775 [.ref 99, .ref 0, .ref 30, .int v3] [] σ
                                                                  else
                                                                    if ((σ 99 v3.toNatClampNeg) &&& 63) = 31 then
                                                                      R nL_law k 782 [.ref 99, .ref 0, .ref 30, .int v3] [] σ
                                                                    else
                                                                      if ((σ 99 v3.toNatClampNeg) &&& 63) = 32 then
                                                                        R nL_law k 819 [.ref 99, .ref 0, .ref 30, .int v3] [] σ
                                                                      else
                                                                        if ((σ 99 v3.toNatClampNeg) &&& 63) = 33 then
                                                                          R nL_law k 856 [.ref 99, .ref 0, .ref 30, .int v3] [] σ
                                                                        else
                                                                          if ((σ 99 v3.toNatClampNeg) &&& 63) = 34 then
                                                                            R nL_law k 913 [.ref 99, .ref 0, .ref 30, .int v3] [] σ
                                                                          else
                                                                            if ((σ 99 v3.toNatClampNeg) &&& 63) = 35 then
                                                                              R nL_law k 960 [.ref 99, .ref 0, .ref 30, .int v3] [] σ
                                                                            else
                                                                              R nL_law k 987 [.ref 99, .ref 0, .ref 30, .int v3] [] σ
    else
      none := (unr_R [10, 22, 39, 66, 83, 150, 157, 174, 201, 228, 265, 292, 299, 326, 353, 380, 407, 434, 461, 478, 495, 513, 530, 567, 595, 612, 649, 666, 693, 720, 768, 775, 782, 819, 856, 913, 960, 987] nL_law k 400 10 _ _ _).trans rfl
theorem eL_law_22 (k : Nat) (v3 : Int32) (σ : Sto) : R nL_law k 22 [.ref 99, .ref 0, .ref 30, .int v3] [] σ =
  if inb (v3 + 1) (σ 98 0).toNatClampNeg = true then
    (C nF_count k [.ref 0, .int (σ 99 (v3 + 1).toNatClampNeg)] σ).bind fun r1 =>
      if inb (v3 + 1) (r1.2.2 98 0).toNatClampNeg = true then
        (C nM_count k [.ref 30, .int (r1.2.2 99 (v3 + 1).toNatClampNeg)] r1.2.2).bind fun r2 =>
          if r1.1 = r2.1 then
            R nL_law k 987 [.ref 99, .ref 0, .ref 30, .int v3] [] r2.2.2
          else
            some (0, 0, r2.2.2)
      else
        none
  else
    none := (unr_R [10, 22, 39, 66, 83, 150, 157, 174, 201, 228, 265, 292, 299, 326, 353, 380, 407, 434, 461, 478, 495, 513, 530, 567, 595, 612, 649, 666, 693, 720, 768, 775, 782, 819, 856, 913, 960, 987] nL_law k 400 22 _ _ _).trans rfl
theorem eL_law_39 (k : Nat) (v3 : Int32) (σ : Sto) : R nL_law k 39 [.ref 99, .ref 0, .ref 30, .int v3] [] σ =
  if inb (v3 + 1) (σ 98 0).toNatClampNeg = true then
    if inb (v3 + 2) (σ 98 0).toNatClampNeg = true then
      (C nF_bay k [.ref 0, .int (σ 99 (v3 + 1).toNatClampNeg), .int (σ 99 (v3 + 2).toNatClampNeg)] σ).bind fun r1 =>
        if inb (v3 + 1) (r1.2.2 98 0).toNatClampNeg = true then
          if inb (v3 + 2) (r1.2.2 98 0).toNatClampNeg = true then
            (C nM_bay k [.ref 30, .int (r1.2.2 99 (v3 + 1).toNatClampNeg), .int (r1.2.2 99 (v3 + 2).toNatClampNeg)] r1.2.2).bind fun r2 =>
              if r1.1 = r2.1 then
                R nL_law k 987 [.ref 99, .ref 0, .ref 30, .int v3] [] r2.2.2
              else
                some (0, 0, r2.2.2)
          else
            none
        else
          none
    else
      none
  else
    none := (unr_R [10, 22, 39, 66, 83, 150, 157, 174, 201, 228, 265, 292, 299, 326, 353, 380, 407, 434, 461, 478, 495, 513, 530, 567, 595, 612, 649, 666, 693, 720, 768, 775, 782, 819, 856, 913, 960, 987] nL_law k 400 39 _ _ _).trans rfl
theorem eL_law_66 (k : Nat) (v3 : Int32) (σ : Sto) : R nL_law k 66 [.ref 99, .ref 0, .ref 30, .int v3] [] σ =
  if inb (v3 + 1) (σ 98 0).toNatClampNeg = true then
    (C nF_ferry k [.ref 0, .int (σ 99 (v3 + 1).toNatClampNeg)] σ).bind fun r1 =>
      if inb (v3 + 1) (r1.2.2 98 0).toNatClampNeg = true then
        (C nM_ferry k [.ref 30, .int (r1.2.2 99 (v3 + 1).toNatClampNeg)] r1.2.2).bind fun r2 =>
          if r1.1 = r2.1 then
            R nL_law k 987 [.ref 99, .ref 0, .ref 30, .int v3] [] r2.2.2
          else
            some (0, 0, r2.2.2)
      else
        none
  else
    none := (unr_R [10, 22, 39, 66, 83, 150, 157, 174, 201, 228, 265, 292, 299, 326, 353, 380, 407, 434, 461, 478, 495, 513, 530, 567, 595, 612, 649, 666, 693, 720, 768, 775, 782, 819, 856, 913, 960, 987] nL_law k 400 66 _ _ _).trans rfl
set_option maxRecDepth 1000000 in
theorem eL_law_83 (k : Nat) (v3 : Int32) (σ : Sto) : R nL_law k 83 [.ref 99, .ref 0, .ref 30, .int v3] [] σ =
  if inb (v3 + 1) (σ 98 0).toNatClampNeg = true then
    if inb (v3 + 2) (σ 98 0).toNatClampNeg = true then
      if inb (v3 + 3) (σ 98 0).toNatClampNeg = true then
        if inb (v3 + 4) (σ 98 0).toNatClampNeg = true then
          if inb (v3 + 5) (σ 98 0).toNatClampNeg = true then
            if inb (v3 + 6) (σ 98 0).toNatClampNeg = true then
              (C nF_feed k [.ref 0, .int (σ 99 (v3 + 1).toNatClampNeg), .int (σ 99 (v3 + 2).toNatClampNeg), .int (σ 99 (v3 + 3).toNatClampNeg), .int (σ 99 (v3 + 4).toNatClampNeg), .int (σ 99 (v3 + 5).toNatClampNeg), .int (σ 99 (v3 + 6).toNatClampNeg)] σ).bind fun r1 =>
                if inb (v3 + 1) (r1.2.2 98 0).toNatClampNeg = true then
                  if inb (v3 + 2) (r1.2.2 98 0).toNatClampNeg = true then
                    if inb (v3 + 3) (r1.2.2 98 0).toNatClampNeg = true then
                      if inb (v3 + 4) (r1.2.2 98 0).toNatClampNeg = true then
                        if inb (v3 + 5) (r1.2.2 98 0).toNatClampNeg = true then
                          if inb (v3 + 6) (r1.2.2 98 0).toNatClampNeg = true then
                            (C nM_feed k [.ref 30, .int (r1.2.2 99 (v3 + 1).toNatClampNeg), .int (r1.2.2 99 (v3 + 2).toNatClampNeg), .int (r1.2.2 99 (v3 + 3).toNatClampNeg), .int (r1.2.2 99 (v3 + 4).toNatClampNeg), .int (r1.2.2 99 (v3 + 5).toNatClampNeg), .int (r1.2.2 99 (v3 + 6).toNatClampNeg)] r1.2.2).bind fun r2 =>
                              if r1.1 = r2.1 then
                                R nL_law k 987 [.ref 99, .ref 0, .ref 30, .int v3] [] r2.2.2
                              else
                                some (0, 0, r2.2.2)
                          else
                            none
                        else
                          none
                      else
                        none
                    else
                      none
                  else
                    none
                else
                  none
            else
              none
          else
            none
        else
          none
      else
        none
    else
      none
  else
    none := (unr_R [10, 22, 39, 66, 83, 150, 157, 174, 201, 228, 265, 292, 299, 326, 353, 380, 407, 434, 461, 478, 495, 513, 530, 567, 595, 612, 649, 666, 693, 720, 768, 775, 782, 819, 856, 913, 960, 987] nL_law k 400 83 _ _ _).trans rfl
theorem eL_law_150 (k : Nat) (v3 : Int32) (σ : Sto) : R nL_law k 150 [.ref 99, .ref 0, .ref 30, .int v3] [] σ =
  (C nF_text k [.ref 0] σ).bind fun r1 =>
    (C nM_text k [.ref 30] r1.2.2).bind fun r2 =>
      if r1.1 = r2.1 then
        R nL_law k 987 [.ref 99, .ref 0, .ref 30, .int v3] [] r2.2.2
      else
        some (0, 0, r2.2.2) := (unr_R [10, 22, 39, 66, 83, 150, 157, 174, 201, 228, 265, 292, 299, 326, 353, 380, 407, 434, 461, 478, 495, 513, 530, 567, 595, 612, 649, 666, 693, 720, 768, 775, 782, 819, 856, 913, 960, 987] nL_law k 400 150 _ _ _).trans rfl
theorem eL_law_157 (k : Nat) (v3 : Int32) (σ : Sto) : R nL_law k 157 [.ref 99, .ref 0, .ref 30, .int v3] [] σ =
  if inb (v3 + 1) (σ 98 0).toNatClampNeg = true then
    (C nF_force k [.ref 0, .int (σ 99 (v3 + 1).toNatClampNeg)] σ).bind fun r1 =>
      if inb (v3 + 1) (r1.2.2 98 0).toNatClampNeg = true then
        (C nM_force k [.ref 30, .int (r1.2.2 99 (v3 + 1).toNatClampNeg)] r1.2.2).bind fun r2 =>
          if r1.1 = r2.1 then
            R nL_law k 987 [.ref 99, .ref 0, .ref 30, .int v3] [] r2.2.2
          else
            some (0, 0, r2.2.2)
      else
        none
  else
    none := (unr_R [10, 22, 39, 66, 83, 150, 157, 174, 201, 228, 265, 292, 299, 326, 353, 380, 407, 434, 461, 478, 495, 513, 530, 567, 595, 612, 649, 666, 693, 720, 768, 775, 782, 819, 856, 913, 960, 987] nL_law k 400 157 _ _ _).trans rfl
theorem eL_law_174 (k : Nat) (v3 : Int32) (σ : Sto) : R nL_law k 174 [.ref 99, .ref 0, .ref 30, .int v3] [] σ =
  if inb (v3 + 1) (σ 98 0).toNatClampNeg = true then
    if inb (v3 + 2) (σ 98 0).toNatClampNeg = true then
      (C nF_asks k [.ref 0, .int (σ 99 (v3 + 1).toNatClampNeg), .int (σ 99 (v3 + 2).toNatClampNeg)] σ).bind fun r1 =>
        if inb (v3 + 1) (r1.2.2 98 0).toNatClampNeg = true then
          if inb (v3 + 2) (r1.2.2 98 0).toNatClampNeg = true then
            (C nM_asks k [.ref 30, .int (r1.2.2 99 (v3 + 1).toNatClampNeg), .int (r1.2.2 99 (v3 + 2).toNatClampNeg)] r1.2.2).bind fun r2 =>
              if r1.1 = r2.1 then
                R nL_law k 987 [.ref 99, .ref 0, .ref 30, .int v3] [] r2.2.2
              else
                some (0, 0, r2.2.2)
          else
            none
        else
          none
    else
      none
  else
    none := (unr_R [10, 22, 39, 66, 83, 150, 157, 174, 201, 228, 265, 292, 299, 326, 353, 380, 407, 434, 461, 478, 495, 513, 530, 567, 595, 612, 649, 666, 693, 720, 768, 775, 782, 819, 856, 913, 960, 987] nL_law k 400 174 _ _ _).trans rfl
theorem eL_law_201 (k : Nat) (v3 : Int32) (σ : Sto) : R nL_law k 201 [.ref 99, .ref 0, .ref 30, .int v3] [] σ =
  if inb (v3 + 1) (σ 98 0).toNatClampNeg = true then
    if inb (v3 + 2) (σ 98 0).toNatClampNeg = true then
      (C nF_traveller k [.ref 0, .int (σ 99 (v3 + 1).toNatClampNeg), .int (σ 99 (v3 + 2).toNatClampNeg)] σ).bind fun r1 =>
        if inb (v3 + 1) (r1.2.2 98 0).toNatClampNeg = true then
          if inb (v3 + 2) (r1.2.2 98 0).toNatClampNeg = true then
            (C nM_traveller k [.ref 30, .int (r1.2.2 99 (v3 + 1).toNatClampNeg), .int (r1.2.2 99 (v3 + 2).toNatClampNeg)] r1.2.2).bind fun r2 =>
              if r1.1 = r2.1 then
                R nL_law k 987 [.ref 99, .ref 0, .ref 30, .int v3] [] r2.2.2
              else
                some (0, 0, r2.2.2)
          else
            none
        else
          none
    else
      none
  else
    none := (unr_R [10, 22, 39, 66, 83, 150, 157, 174, 201, 228, 265, 292, 299, 326, 353, 380, 407, 434, 461, 478, 495, 513, 530, 567, 595, 612, 649, 666, 693, 720, 768, 775, 782, 819, 856, 913, 960, 987] nL_law k 400 201 _ _ _).trans rfl
theorem eL_law_228 (k : Nat) (v3 : Int32) (σ : Sto) : R nL_law k 228 [.ref 99, .ref 0, .ref 30, .int v3] [] σ =
  if inb (v3 + 1) (σ 98 0).toNatClampNeg = true then
    if inb (v3 + 2) (σ 98 0).toNatClampNeg = true then
      if inb (v3 + 3) (σ 98 0).toNatClampNeg = true then
        (C nF_put k [.ref 0, .int (σ 99 (v3 + 1).toNatClampNeg), .int (σ 99 (v3 + 2).toNatClampNeg), .int (σ 99 (v3 + 3).toNatClampNeg)] σ).bind fun r1 =>
          if inb (v3 + 1) (r1.2.2 98 0).toNatClampNeg = true then
            if inb (v3 + 2) (r1.2.2 98 0).toNatClampNeg = true then
              if inb (v3 + 3) (r1.2.2 98 0).toNatClampNeg = true then
                (C nM_put k [.ref 30, .int (r1.2.2 99 (v3 + 1).toNatClampNeg), .int (r1.2.2 99 (v3 + 2).toNatClampNeg), .int (r1.2.2 99 (v3 + 3).toNatClampNeg)] r1.2.2).bind fun r2 =>
                  if r1.1 = r2.1 then
                    R nL_law k 987 [.ref 99, .ref 0, .ref 30, .int v3] [] r2.2.2
                  else
                    some (0, 0, r2.2.2)
              else
                none
            else
              none
          else
            none
      else
        none
    else
      none
  else
    none := (unr_R [10, 22, 39, 66, 83, 150, 157, 174, 201, 228, 265, 292, 299, 326, 353, 380, 407, 434, 461, 478, 495, 513, 530, 567, 595, 612, 649, 666, 693, 720, 768, 775, 782, 819, 856, 913, 960, 987] nL_law k 400 228 _ _ _).trans rfl
theorem eL_law_265 (k : Nat) (v3 : Int32) (σ : Sto) : R nL_law k 265 [.ref 99, .ref 0, .ref 30, .int v3] [] σ =
  if inb (v3 + 1) (σ 98 0).toNatClampNeg = true then
    if inb (v3 + 2) (σ 98 0).toNatClampNeg = true then
      (C nF_told k [.ref 0, .int (σ 99 (v3 + 1).toNatClampNeg), .int (σ 99 (v3 + 2).toNatClampNeg)] σ).bind fun r1 =>
        if inb (v3 + 1) (r1.2.2 98 0).toNatClampNeg = true then
          if inb (v3 + 2) (r1.2.2 98 0).toNatClampNeg = true then
            (C nM_told k [.ref 30, .int (r1.2.2 99 (v3 + 1).toNatClampNeg), .int (r1.2.2 99 (v3 + 2).toNatClampNeg)] r1.2.2).bind fun r2 =>
              if r1.1 = r2.1 then
                R nL_law k 987 [.ref 99, .ref 0, .ref 30, .int v3] [] r2.2.2
              else
                some (0, 0, r2.2.2)
          else
            none
        else
          none
    else
      none
  else
    none := (unr_R [10, 22, 39, 66, 83, 150, 157, 174, 201, 228, 265, 292, 299, 326, 353, 380, 407, 434, 461, 478, 495, 513, 530, 567, 595, 612, 649, 666, 693, 720, 768, 775, 782, 819, 856, 913, 960, 987] nL_law k 400 265 _ _ _).trans rfl
theorem eL_law_292 (k : Nat) (v3 : Int32) (σ : Sto) : R nL_law k 292 [.ref 99, .ref 0, .ref 30, .int v3] [] σ =
  (C nF_hour k [.ref 0] σ).bind fun r1 =>
    (C nM_hour k [.ref 30] r1.2.2).bind fun r2 =>
      if r1.1 = r2.1 then
        R nL_law k 987 [.ref 99, .ref 0, .ref 30, .int v3] [] r2.2.2
      else
        some (0, 0, r2.2.2) := (unr_R [10, 22, 39, 66, 83, 150, 157, 174, 201, 228, 265, 292, 299, 326, 353, 380, 407, 434, 461, 478, 495, 513, 530, 567, 595, 612, 649, 666, 693, 720, 768, 775, 782, 819, 856, 913, 960, 987] nL_law k 400 292 _ _ _).trans rfl
theorem eL_law_299 (k : Nat) (v3 : Int32) (σ : Sto) : R nL_law k 299 [.ref 99, .ref 0, .ref 30, .int v3] [] σ =
  if inb (v3 + 1) (σ 98 0).toNatClampNeg = true then
    if inb (v3 + 2) (σ 98 0).toNatClampNeg = true then
      (C nF_walk k [.ref 0, .int (σ 99 (v3 + 1).toNatClampNeg), .int (σ 99 (v3 + 2).toNatClampNeg)] σ).bind fun r1 =>
        if inb (v3 + 1) (r1.2.2 98 0).toNatClampNeg = true then
          if inb (v3 + 2) (r1.2.2 98 0).toNatClampNeg = true then
            (C nM_walk k [.ref 30, .int (r1.2.2 99 (v3 + 1).toNatClampNeg), .int (r1.2.2 99 (v3 + 2).toNatClampNeg)] r1.2.2).bind fun r2 =>
              if r1.1 = r2.1 then
                R nL_law k 987 [.ref 99, .ref 0, .ref 30, .int v3] [] r2.2.2
              else
                some (0, 0, r2.2.2)
          else
            none
        else
          none
    else
      none
  else
    none := (unr_R [10, 22, 39, 66, 83, 150, 157, 174, 201, 228, 265, 292, 299, 326, 353, 380, 407, 434, 461, 478, 495, 513, 530, 567, 595, 612, 649, 666, 693, 720, 768, 775, 782, 819, 856, 913, 960, 987] nL_law k 400 299 _ _ _).trans rfl
theorem eL_law_326 (k : Nat) (v3 : Int32) (σ : Sto) : R nL_law k 326 [.ref 99, .ref 0, .ref 30, .int v3] [] σ =
  if inb (v3 + 1) (σ 98 0).toNatClampNeg = true then
    if inb (v3 + 2) (σ 98 0).toNatClampNeg = true then
      (C nF_run k [.ref 0, .int (σ 99 (v3 + 1).toNatClampNeg), .int (σ 99 (v3 + 2).toNatClampNeg)] σ).bind fun r1 =>
        if inb (v3 + 1) (r1.2.2 98 0).toNatClampNeg = true then
          if inb (v3 + 2) (r1.2.2 98 0).toNatClampNeg = true then
            (C nM_run k [.ref 30, .int (r1.2.2 99 (v3 + 1).toNatClampNeg), .int (r1.2.2 99 (v3 + 2).toNatClampNeg)] r1.2.2).bind fun r2 =>
              if r1.1 = r2.1 then
                R nL_law k 987 [.ref 99, .ref 0, .ref 30, .int v3] [] r2.2.2
              else
                some (0, 0, r2.2.2)
          else
            none
        else
          none
    else
      none
  else
    none := (unr_R [10, 22, 39, 66, 83, 150, 157, 174, 201, 228, 265, 292, 299, 326, 353, 380, 407, 434, 461, 478, 495, 513, 530, 567, 595, 612, 649, 666, 693, 720, 768, 775, 782, 819, 856, 913, 960, 987] nL_law k 400 326 _ _ _).trans rfl
theorem eL_law_353 (k : Nat) (v3 : Int32) (σ : Sto) : R nL_law k 353 [.ref 99, .ref 0, .ref 30, .int v3] [] σ =
  if inb (v3 + 1) (σ 98 0).toNatClampNeg = true then
    if inb (v3 + 2) (σ 98 0).toNatClampNeg = true then
      (C nF_when k [.ref 0, .int (σ 99 (v3 + 1).toNatClampNeg), .int (σ 99 (v3 + 2).toNatClampNeg)] σ).bind fun r1 =>
        if inb (v3 + 1) (r1.2.2 98 0).toNatClampNeg = true then
          if inb (v3 + 2) (r1.2.2 98 0).toNatClampNeg = true then
            (C nM_when k [.ref 30, .int (r1.2.2 99 (v3 + 1).toNatClampNeg), .int (r1.2.2 99 (v3 + 2).toNatClampNeg)] r1.2.2).bind fun r2 =>
              if r1.1 = r2.1 then
                R nL_law k 987 [.ref 99, .ref 0, .ref 30, .int v3] [] r2.2.2
              else
                some (0, 0, r2.2.2)
          else
            none
        else
          none
    else
      none
  else
    none := (unr_R [10, 22, 39, 66, 83, 150, 157, 174, 201, 228, 265, 292, 299, 326, 353, 380, 407, 434, 461, 478, 495, 513, 530, 567, 595, 612, 649, 666, 693, 720, 768, 775, 782, 819, 856, 913, 960, 987] nL_law k 400 353 _ _ _).trans rfl
theorem eL_law_380 (k : Nat) (v3 : Int32) (σ : Sto) : R nL_law k 380 [.ref 99, .ref 0, .ref 30, .int v3] [] σ =
  if inb (v3 + 1) (σ 98 0).toNatClampNeg = true then
    if inb (v3 + 2) (σ 98 0).toNatClampNeg = true then
      (C nF_hide k [.ref 0, .int (σ 99 (v3 + 1).toNatClampNeg), .int (σ 99 (v3 + 2).toNatClampNeg)] σ).bind fun r1 =>
        if inb (v3 + 1) (r1.2.2 98 0).toNatClampNeg = true then
          if inb (v3 + 2) (r1.2.2 98 0).toNatClampNeg = true then
            (C nM_hide k [.ref 30, .int (r1.2.2 99 (v3 + 1).toNatClampNeg), .int (r1.2.2 99 (v3 + 2).toNatClampNeg)] r1.2.2).bind fun r2 =>
              if r1.1 = r2.1 then
                R nL_law k 987 [.ref 99, .ref 0, .ref 30, .int v3] [] r2.2.2
              else
                some (0, 0, r2.2.2)
          else
            none
        else
          none
    else
      none
  else
    none := (unr_R [10, 22, 39, 66, 83, 150, 157, 174, 201, 228, 265, 292, 299, 326, 353, 380, 407, 434, 461, 478, 495, 513, 530, 567, 595, 612, 649, 666, 693, 720, 768, 775, 782, 819, 856, 913, 960, 987] nL_law k 400 380 _ _ _).trans rfl
theorem eL_law_407 (k : Nat) (v3 : Int32) (σ : Sto) : R nL_law k 407 [.ref 99, .ref 0, .ref 30, .int v3] [] σ =
  if inb (v3 + 1) (σ 98 0).toNatClampNeg = true then
    if inb (v3 + 2) (σ 98 0).toNatClampNeg = true then
      (C nF_stand k [.ref 0, .int (σ 99 (v3 + 1).toNatClampNeg), .int (σ 99 (v3 + 2).toNatClampNeg)] σ).bind fun r1 =>
        if inb (v3 + 1) (r1.2.2 98 0).toNatClampNeg = true then
          if inb (v3 + 2) (r1.2.2 98 0).toNatClampNeg = true then
            (C nM_stand k [.ref 30, .int (r1.2.2 99 (v3 + 1).toNatClampNeg), .int (r1.2.2 99 (v3 + 2).toNatClampNeg)] r1.2.2).bind fun r2 =>
              if r1.1 = r2.1 then
                R nL_law k 987 [.ref 99, .ref 0, .ref 30, .int v3] [] r2.2.2
              else
                some (0, 0, r2.2.2)
          else
            none
        else
          none
    else
      none
  else
    none := (unr_R [10, 22, 39, 66, 83, 150, 157, 174, 201, 228, 265, 292, 299, 326, 353, 380, 407, 434, 461, 478, 495, 513, 530, 567, 595, 612, 649, 666, 693, 720, 768, 775, 782, 819, 856, 913, 960, 987] nL_law k 400 407 _ _ _).trans rfl
theorem eL_law_434 (k : Nat) (v3 : Int32) (σ : Sto) : R nL_law k 434 [.ref 99, .ref 0, .ref 30, .int v3] [] σ =
  if inb (v3 + 1) (σ 98 0).toNatClampNeg = true then
    if inb (v3 + 2) (σ 98 0).toNatClampNeg = true then
      (C nF_apart k [.ref 0, .int (σ 99 (v3 + 1).toNatClampNeg), .int (σ 99 (v3 + 2).toNatClampNeg)] σ).bind fun r1 =>
        if inb (v3 + 1) (r1.2.2 98 0).toNatClampNeg = true then
          if inb (v3 + 2) (r1.2.2 98 0).toNatClampNeg = true then
            (C nM_apart k [.ref 30, .int (r1.2.2 99 (v3 + 1).toNatClampNeg), .int (r1.2.2 99 (v3 + 2).toNatClampNeg)] r1.2.2).bind fun r2 =>
              if r1.1 = r2.1 then
                R nL_law k 987 [.ref 99, .ref 0, .ref 30, .int v3] [] r2.2.2
              else
                some (0, 0, r2.2.2)
          else
            none
        else
          none
    else
      none
  else
    none := (unr_R [10, 22, 39, 66, 83, 150, 157, 174, 201, 228, 265, 292, 299, 326, 353, 380, 407, 434, 461, 478, 495, 513, 530, 567, 595, 612, 649, 666, 693, 720, 768, 775, 782, 819, 856, 913, 960, 987] nL_law k 400 434 _ _ _).trans rfl
theorem eL_law_461 (k : Nat) (v3 : Int32) (σ : Sto) : R nL_law k 461 [.ref 99, .ref 0, .ref 30, .int v3] [] σ =
  if inb (v3 + 1) (σ 98 0).toNatClampNeg = true then
    (C nF_breakwater k [.ref 0, .int (σ 99 (v3 + 1).toNatClampNeg)] σ).bind fun r1 =>
      if inb (v3 + 1) (r1.2.2 98 0).toNatClampNeg = true then
        (C nM_breakwater k [.ref 30, .int (r1.2.2 99 (v3 + 1).toNatClampNeg)] r1.2.2).bind fun r2 =>
          if r1.1 = r2.1 then
            R nL_law k 987 [.ref 99, .ref 0, .ref 30, .int v3] [] r2.2.2
          else
            some (0, 0, r2.2.2)
      else
        none
  else
    none := (unr_R [10, 22, 39, 66, 83, 150, 157, 174, 201, 228, 265, 292, 299, 326, 353, 380, 407, 434, 461, 478, 495, 513, 530, 567, 595, 612, 649, 666, 693, 720, 768, 775, 782, 819, 856, 913, 960, 987] nL_law k 400 461 _ _ _).trans rfl
theorem eL_law_478 (k : Nat) (v3 : Int32) (σ : Sto) : R nL_law k 478 [.ref 99, .ref 0, .ref 30, .int v3] [] σ =
  if inb (v3 + 1) (σ 98 0).toNatClampNeg = true then
    (C nF_gap k [.ref 0, .int (σ 99 (v3 + 1).toNatClampNeg)] σ).bind fun r1 =>
      if inb (v3 + 1) (r1.2.2 98 0).toNatClampNeg = true then
        (C nM_gap k [.ref 30, .int (r1.2.2 99 (v3 + 1).toNatClampNeg)] r1.2.2).bind fun r2 =>
          if r1.1 = r2.1 then
            R nL_law k 987 [.ref 99, .ref 0, .ref 30, .int v3] [] r2.2.2
          else
            some (0, 0, r2.2.2)
      else
        none
  else
    none := (unr_R [10, 22, 39, 66, 83, 150, 157, 174, 201, 228, 265, 292, 299, 326, 353, 380, 407, 434, 461, 478, 495, 513, 530, 567, 595, 612, 649, 666, 693, 720, 768, 775, 782, 819, 856, 913, 960, 987] nL_law k 400 478 _ _ _).trans rfl
theorem eL_law_495 (k : Nat) (v3 : Int32) (σ : Sto) : R nL_law k 495 [.ref 99, .ref 0, .ref 30, .int v3] [] σ =
  if inb (v3 + 1) (σ 98 0).toNatClampNeg = true then
    (C nF_middle k [.ref 0, .int (σ 99 (v3 + 1).toNatClampNeg)] σ).bind fun r1 =>
      if inb (v3 + 1) (r1.2.2 98 0).toNatClampNeg = true then
        (C nM_middle k [.ref 30, .int (r1.2.2 99 (v3 + 1).toNatClampNeg)] r1.2.2).bind fun r2 =>
          if (lg_cmp r1.2.1 r2.2.1) = 0 then
            R nL_law k 987 [.ref 99, .ref 0, .ref 30, .int v3] [] r2.2.2
          else
            some (0, 0, r2.2.2)
      else
        none
  else
    none := (unr_R [10, 22, 39, 66, 83, 150, 157, 174, 201, 228, 265, 292, 299, 326, 353, 380, 407, 434, 461, 478, 495, 513, 530, 567, 595, 612, 649, 666, 693, 720, 768, 775, 782, 819, 856, 913, 960, 987] nL_law k 400 495 _ _ _).trans rfl
theorem eL_law_513 (k : Nat) (v3 : Int32) (σ : Sto) : R nL_law k 513 [.ref 99, .ref 0, .ref 30, .int v3] [] σ =
  if inb (v3 + 1) (σ 98 0).toNatClampNeg = true then
    (C nF_judge k [.ref 0, .int (σ 99 (v3 + 1).toNatClampNeg)] σ).bind fun r1 =>
      if inb (v3 + 1) (r1.2.2 98 0).toNatClampNeg = true then
        (C nM_judge k [.ref 30, .int (r1.2.2 99 (v3 + 1).toNatClampNeg)] r1.2.2).bind fun r2 =>
          if r1.1 = r2.1 then
            R nL_law k 987 [.ref 99, .ref 0, .ref 30, .int v3] [] r2.2.2
          else
            some (0, 0, r2.2.2)
      else
        none
  else
    none := (unr_R [10, 22, 39, 66, 83, 150, 157, 174, 201, 228, 265, 292, 299, 326, 353, 380, 407, 434, 461, 478, 495, 513, 530, 567, 595, 612, 649, 666, 693, 720, 768, 775, 782, 819, 856, 913, 960, 987] nL_law k 400 513 _ _ _).trans rfl
theorem eL_law_530 (k : Nat) (v3 : Int32) (σ : Sto) : R nL_law k 530 [.ref 99, .ref 0, .ref 30, .int v3] [] σ =
  if inb (v3 + 1) (σ 98 0).toNatClampNeg = true then
    if inb (v3 + 2) (σ 98 0).toNatClampNeg = true then
      if inb (v3 + 3) (σ 98 0).toNatClampNeg = true then
        (C nF_kinds k [.ref 0, .int (σ 99 (v3 + 1).toNatClampNeg), .int (σ 99 (v3 + 2).toNatClampNeg), .int (σ 99 (v3 + 3).toNatClampNeg)] σ).bind fun r1 =>
          if inb (v3 + 1) (r1.2.2 98 0).toNatClampNeg = true then
            if inb (v3 + 2) (r1.2.2 98 0).toNatClampNeg = true then
              if inb (v3 + 3) (r1.2.2 98 0).toNatClampNeg = true then
                (C nM_kinds k [.ref 30, .int (r1.2.2 99 (v3 + 1).toNatClampNeg), .int (r1.2.2 99 (v3 + 2).toNatClampNeg), .int (r1.2.2 99 (v3 + 3).toNatClampNeg)] r1.2.2).bind fun r2 =>
                  if r1.1 = r2.1 then
                    R nL_law k 987 [.ref 99, .ref 0, .ref 30, .int v3] [] r2.2.2
                  else
                    some (0, 0, r2.2.2)
              else
                none
            else
              none
          else
            none
      else
        none
    else
      none
  else
    none := (unr_R [10, 22, 39, 66, 83, 150, 157, 174, 201, 228, 265, 292, 299, 326, 353, 380, 407, 434, 461, 478, 495, 513, 530, 567, 595, 612, 649, 666, 693, 720, 768, 775, 782, 819, 856, 913, 960, 987] nL_law k 400 530 _ _ _).trans rfl
theorem eL_law_567 (k : Nat) (v3 : Int32) (σ : Sto) : R nL_law k 567 [.ref 99, .ref 0, .ref 30, .int v3] [] σ =
  if inb (v3 + 1) (σ 98 0).toNatClampNeg = true then
    if inb (v3 + 2) (σ 98 0).toNatClampNeg = true then
      (C nF_places k [.ref 0, .int (σ 99 (v3 + 1).toNatClampNeg), .int (σ 99 (v3 + 2).toNatClampNeg)] σ).bind fun r1 =>
        if inb (v3 + 1) (r1.2.2 98 0).toNatClampNeg = true then
          if inb (v3 + 2) (r1.2.2 98 0).toNatClampNeg = true then
            (C nM_places k [.ref 30, .int (r1.2.2 99 (v3 + 1).toNatClampNeg), .int (r1.2.2 99 (v3 + 2).toNatClampNeg)] r1.2.2).bind fun r2 =>
              if (lg_cmp r1.2.1 r2.2.1) = 0 then
                R nL_law k 987 [.ref 99, .ref 0, .ref 30, .int v3] [] r2.2.2
              else
                some (0, 0, r2.2.2)
          else
            none
        else
          none
    else
      none
  else
    none := (unr_R [10, 22, 39, 66, 83, 150, 157, 174, 201, 228, 265, 292, 299, 326, 353, 380, 407, 434, 461, 478, 495, 513, 530, 567, 595, 612, 649, 666, 693, 720, 768, 775, 782, 819, 856, 913, 960, 987] nL_law k 400 567 _ _ _).trans rfl
theorem eL_law_595 (k : Nat) (v3 : Int32) (σ : Sto) : R nL_law k 595 [.ref 99, .ref 0, .ref 30, .int v3] [] σ =
  if inb (v3 + 1) (σ 98 0).toNatClampNeg = true then
    (C nF_turned k [.ref 0, .int (σ 99 (v3 + 1).toNatClampNeg)] σ).bind fun r1 =>
      if inb (v3 + 1) (r1.2.2 98 0).toNatClampNeg = true then
        (C nM_turned k [.ref 30, .int (r1.2.2 99 (v3 + 1).toNatClampNeg)] r1.2.2).bind fun r2 =>
          if r1.1 = r2.1 then
            R nL_law k 987 [.ref 99, .ref 0, .ref 30, .int v3] [] r2.2.2
          else
            some (0, 0, r2.2.2)
      else
        none
  else
    none := (unr_R [10, 22, 39, 66, 83, 150, 157, 174, 201, 228, 265, 292, 299, 326, 353, 380, 407, 434, 461, 478, 495, 513, 530, 567, 595, 612, 649, 666, 693, 720, 768, 775, 782, 819, 856, 913, 960, 987] nL_law k 400 595 _ _ _).trans rfl
theorem eL_law_612 (k : Nat) (v3 : Int32) (σ : Sto) : R nL_law k 612 [.ref 99, .ref 0, .ref 30, .int v3] [] σ =
  if inb (v3 + 1) (σ 98 0).toNatClampNeg = true then
    if inb (v3 + 2) (σ 98 0).toNatClampNeg = true then
      if inb (v3 + 3) (σ 98 0).toNatClampNeg = true then
        (C nF_waits k [.ref 0, .int (σ 99 (v3 + 1).toNatClampNeg), .int (σ 99 (v3 + 2).toNatClampNeg), .int (σ 99 (v3 + 3).toNatClampNeg)] σ).bind fun r1 =>
          if inb (v3 + 1) (r1.2.2 98 0).toNatClampNeg = true then
            if inb (v3 + 2) (r1.2.2 98 0).toNatClampNeg = true then
              if inb (v3 + 3) (r1.2.2 98 0).toNatClampNeg = true then
                (C nM_waits k [.ref 30, .int (r1.2.2 99 (v3 + 1).toNatClampNeg), .int (r1.2.2 99 (v3 + 2).toNatClampNeg), .int (r1.2.2 99 (v3 + 3).toNatClampNeg)] r1.2.2).bind fun r2 =>
                  if r1.1 = r2.1 then
                    R nL_law k 987 [.ref 99, .ref 0, .ref 30, .int v3] [] r2.2.2
                  else
                    some (0, 0, r2.2.2)
              else
                none
            else
              none
          else
            none
      else
        none
    else
      none
  else
    none := (unr_R [10, 22, 39, 66, 83, 150, 157, 174, 201, 228, 265, 292, 299, 326, 353, 380, 407, 434, 461, 478, 495, 513, 530, 567, 595, 612, 649, 666, 693, 720, 768, 775, 782, 819, 856, 913, 960, 987] nL_law k 400 612 _ _ _).trans rfl
theorem eL_law_649 (k : Nat) (v3 : Int32) (σ : Sto) : R nL_law k 649 [.ref 99, .ref 0, .ref 30, .int v3] [] σ =
  if inb (v3 + 1) (σ 98 0).toNatClampNeg = true then
    (C nF_laws k [.ref 0, .int (σ 99 (v3 + 1).toNatClampNeg)] σ).bind fun r1 =>
      if inb (v3 + 1) (r1.2.2 98 0).toNatClampNeg = true then
        (C nM_laws k [.ref 30, .int (r1.2.2 99 (v3 + 1).toNatClampNeg)] r1.2.2).bind fun r2 =>
          if r1.1 = r2.1 then
            R nL_law k 987 [.ref 99, .ref 0, .ref 30, .int v3] [] r2.2.2
          else
            some (0, 0, r2.2.2)
      else
        none
  else
    none := (unr_R [10, 22, 39, 66, 83, 150, 157, 174, 201, 228, 265, 292, 299, 326, 353, 380, 407, 434, 461, 478, 495, 513, 530, 567, 595, 612, 649, 666, 693, 720, 768, 775, 782, 819, 856, 913, 960, 987] nL_law k 400 649 _ _ _).trans rfl
theorem eL_law_666 (k : Nat) (v3 : Int32) (σ : Sto) : R nL_law k 666 [.ref 99, .ref 0, .ref 30, .int v3] [] σ =
  if inb (v3 + 1) (σ 98 0).toNatClampNeg = true then
    if inb (v3 + 2) (σ 98 0).toNatClampNeg = true then
      (C nF_film k [.ref 0, .int (σ 99 (v3 + 1).toNatClampNeg), .int (σ 99 (v3 + 2).toNatClampNeg)] σ).bind fun r1 =>
        if inb (v3 + 1) (r1.2.2 98 0).toNatClampNeg = true then
          if inb (v3 + 2) (r1.2.2 98 0).toNatClampNeg = true then
            (C nM_film k [.ref 30, .int (r1.2.2 99 (v3 + 1).toNatClampNeg), .int (r1.2.2 99 (v3 + 2).toNatClampNeg)] r1.2.2).bind fun r2 =>
              if r1.1 = r2.1 then
                R nL_law k 987 [.ref 99, .ref 0, .ref 30, .int v3] [] r2.2.2
              else
                some (0, 0, r2.2.2)
          else
            none
        else
          none
    else
      none
  else
    none := (unr_R [10, 22, 39, 66, 83, 150, 157, 174, 201, 228, 265, 292, 299, 326, 353, 380, 407, 434, 461, 478, 495, 513, 530, 567, 595, 612, 649, 666, 693, 720, 768, 775, 782, 819, 856, 913, 960, 987] nL_law k 400 666 _ _ _).trans rfl
theorem eL_law_693 (k : Nat) (v3 : Int32) (σ : Sto) : R nL_law k 693 [.ref 99, .ref 0, .ref 30, .int v3] [] σ =
  if inb (v3 + 1) (σ 98 0).toNatClampNeg = true then
    if inb (v3 + 2) (σ 98 0).toNatClampNeg = true then
      (C nF_drawn k [.ref 0, .int (σ 99 (v3 + 1).toNatClampNeg), .int (σ 99 (v3 + 2).toNatClampNeg)] σ).bind fun r1 =>
        if inb (v3 + 1) (r1.2.2 98 0).toNatClampNeg = true then
          if inb (v3 + 2) (r1.2.2 98 0).toNatClampNeg = true then
            (C nM_drawn k [.ref 30, .int (r1.2.2 99 (v3 + 1).toNatClampNeg), .int (r1.2.2 99 (v3 + 2).toNatClampNeg)] r1.2.2).bind fun r2 =>
              if r1.1 = r2.1 then
                R nL_law k 987 [.ref 99, .ref 0, .ref 30, .int v3] [] r2.2.2
              else
                some (0, 0, r2.2.2)
          else
            none
        else
          none
    else
      none
  else
    none := (unr_R [10, 22, 39, 66, 83, 150, 157, 174, 201, 228, 265, 292, 299, 326, 353, 380, 407, 434, 461, 478, 495, 513, 530, 567, 595, 612, 649, 666, 693, 720, 768, 775, 782, 819, 856, 913, 960, 987] nL_law k 400 693 _ _ _).trans rfl
theorem eL_law_720 (k : Nat) (v3 : Int32) (σ : Sto) : R nL_law k 720 [.ref 99, .ref 0, .ref 30, .int v3] [] σ =
  if inb (v3 + 1) (σ 98 0).toNatClampNeg = true then
    if inb (v3 + 2) (σ 98 0).toNatClampNeg = true then
      if inb (v3 + 3) (σ 98 0).toNatClampNeg = true then
        if inb (v3 + 4) (σ 98 0).toNatClampNeg = true then
          (C nF_odds k [.ref 0, .int (σ 99 (v3 + 1).toNatClampNeg), .int (σ 99 (v3 + 2).toNatClampNeg), .int (σ 99 (v3 + 3).toNatClampNeg), .int (σ 99 (v3 + 4).toNatClampNeg)] σ).bind fun r1 =>
            if inb (v3 + 1) (r1.2.2 98 0).toNatClampNeg = true then
              if inb (v3 + 2) (r1.2.2 98 0).toNatClampNeg = true then
                if inb (v3 + 3) (r1.2.2 98 0).toNatClampNeg = true then
                  if inb (v3 + 4) (r1.2.2 98 0).toNatClampNeg = true then
                    (C nM_odds k [.ref 30, .int (r1.2.2 99 (v3 + 1).toNatClampNeg), .int (r1.2.2 99 (v3 + 2).toNatClampNeg), .int (r1.2.2 99 (v3 + 3).toNatClampNeg), .int (r1.2.2 99 (v3 + 4).toNatClampNeg)] r1.2.2).bind fun r2 =>
                      if (lg_cmp r1.2.1 r2.2.1) = 0 then
                        R nL_law k 987 [.ref 99, .ref 0, .ref 30, .int v3] [] r2.2.2
                      else
                        some (0, 0, r2.2.2)
                  else
                    none
                else
                  none
              else
                none
            else
              none
        else
          none
      else
        none
    else
      none
  else
    none := (unr_R [10, 22, 39, 66, 83, 150, 157, 174, 201, 228, 265, 292, 299, 326, 353, 380, 407, 434, 461, 478, 495, 513, 530, 567, 595, 612, 649, 666, 693, 720, 768, 775, 782, 819, 856, 913, 960, 987] nL_law k 400 720 _ _ _).trans rfl
theorem eL_law_768 (k : Nat) (v3 : Int32) (σ : Sto) : R nL_law k 768 [.ref 99, .ref 0, .ref 30, .int v3] [] σ =
  (C nF_image k [.ref 0] σ).bind fun r1 =>
    (C nM_image k [.ref 30] r1.2.2).bind fun r2 =>
      if r1.1 = r2.1 then
        R nL_law k 987 [.ref 99, .ref 0, .ref 30, .int v3] [] r2.2.2
      else
        some (0, 0, r2.2.2) := (unr_R [10, 22, 39, 66, 83, 150, 157, 174, 201, 228, 265, 292, 299, 326, 353, 380, 407, 434, 461, 478, 495, 513, 530, 567, 595, 612, 649, 666, 693, 720, 768, 775, 782, 819, 856, 913, 960, 987] nL_law k 400 768 _ _ _).trans rfl
theorem eL_law_775 (k : Nat) (v3 : Int32) (σ : Sto) : R nL_law k 775 [.ref 99, .ref 0, .ref 30, .int v3] [] σ =
  (C nF_back k [.ref 0] σ).bind fun r1 =>
    (C nM_back k [.ref 30] r1.2.2).bind fun r2 =>
      if r1.1 = r2.1 then
        R nL_law k 987 [.ref 99, .ref 0, .ref 30, .int v3] [] r2.2.2
      else
        some (0, 0, r2.2.2) := (unr_R [10, 22, 39, 66, 83, 150, 157, 174, 201, 228, 265, 292, 299, 326, 353, 380, 407, 434, 461, 478, 495, 513, 530, 567, 595, 612, 649, 666, 693, 720, 768, 775, 782, 819, 856, 913, 960, 987] nL_law k 400 775 _ _ _).trans rfl
theorem eL_law_782 (k : Nat) (v3 : Int32) (σ : Sto) : R nL_law k 782 [.ref 99, .ref 0, .ref 30, .int v3] [] σ =
  if inb (v3 + 1) (σ 98 0).toNatClampNeg = true then
    if inb (v3 + 2) (σ 98 0).toNatClampNeg = true then
      if inb (v3 + 3) (σ 98 0).toNatClampNeg = true then
        (C nF_sheet k [.ref 0, .int (σ 99 (v3 + 1).toNatClampNeg), .int (σ 99 (v3 + 2).toNatClampNeg), .int (σ 99 (v3 + 3).toNatClampNeg)] σ).bind fun r1 =>
          if inb (v3 + 1) (r1.2.2 98 0).toNatClampNeg = true then
            if inb (v3 + 2) (r1.2.2 98 0).toNatClampNeg = true then
              if inb (v3 + 3) (r1.2.2 98 0).toNatClampNeg = true then
                (C nM_sheet k [.ref 30, .int (r1.2.2 99 (v3 + 1).toNatClampNeg), .int (r1.2.2 99 (v3 + 2).toNatClampNeg), .int (r1.2.2 99 (v3 + 3).toNatClampNeg)] r1.2.2).bind fun r2 =>
                  if r1.1 = r2.1 then
                    R nL_law k 987 [.ref 99, .ref 0, .ref 30, .int v3] [] r2.2.2
                  else
                    some (0, 0, r2.2.2)
              else
                none
            else
              none
          else
            none
      else
        none
    else
      none
  else
    none := (unr_R [10, 22, 39, 66, 83, 150, 157, 174, 201, 228, 265, 292, 299, 326, 353, 380, 407, 434, 461, 478, 495, 513, 530, 567, 595, 612, 649, 666, 693, 720, 768, 775, 782, 819, 856, 913, 960, 987] nL_law k 400 782 _ _ _).trans rfl
theorem eL_law_819 (k : Nat) (v3 : Int32) (σ : Sto) : R nL_law k 819 [.ref 99, .ref 0, .ref 30, .int v3] [] σ =
  if inb (v3 + 1) (σ 98 0).toNatClampNeg = true then
    if inb (v3 + 2) (σ 98 0).toNatClampNeg = true then
      if inb (v3 + 3) (σ 98 0).toNatClampNeg = true then
        (C nF_cell k [.ref 0, .int (σ 99 (v3 + 1).toNatClampNeg), .int (σ 99 (v3 + 2).toNatClampNeg), .int (σ 99 (v3 + 3).toNatClampNeg)] σ).bind fun r1 =>
          if inb (v3 + 1) (r1.2.2 98 0).toNatClampNeg = true then
            if inb (v3 + 2) (r1.2.2 98 0).toNatClampNeg = true then
              if inb (v3 + 3) (r1.2.2 98 0).toNatClampNeg = true then
                (C nM_cell k [.ref 30, .int (r1.2.2 99 (v3 + 1).toNatClampNeg), .int (r1.2.2 99 (v3 + 2).toNatClampNeg), .int (r1.2.2 99 (v3 + 3).toNatClampNeg)] r1.2.2).bind fun r2 =>
                  if r1.1 = r2.1 then
                    R nL_law k 987 [.ref 99, .ref 0, .ref 30, .int v3] [] r2.2.2
                  else
                    some (0, 0, r2.2.2)
              else
                none
            else
              none
          else
            none
      else
        none
    else
      none
  else
    none := (unr_R [10, 22, 39, 66, 83, 150, 157, 174, 201, 228, 265, 292, 299, 326, 353, 380, 407, 434, 461, 478, 495, 513, 530, 567, 595, 612, 649, 666, 693, 720, 768, 775, 782, 819, 856, 913, 960, 987] nL_law k 400 819 _ _ _).trans rfl
set_option maxRecDepth 1000000 in
theorem eL_law_856 (k : Nat) (v3 : Int32) (σ : Sto) : R nL_law k 856 [.ref 99, .ref 0, .ref 30, .int v3] [] σ =
  if inb (v3 + 1) (σ 98 0).toNatClampNeg = true then
    if inb (v3 + 2) (σ 98 0).toNatClampNeg = true then
      if inb (v3 + 3) (σ 98 0).toNatClampNeg = true then
        if inb (v3 + 4) (σ 98 0).toNatClampNeg = true then
          if inb (v3 + 5) (σ 98 0).toNatClampNeg = true then
            (C nF_copy k [.ref 0, .int (σ 99 (v3 + 1).toNatClampNeg), .int (σ 99 (v3 + 2).toNatClampNeg), .int (σ 99 (v3 + 3).toNatClampNeg), .int (σ 99 (v3 + 4).toNatClampNeg), .int (σ 99 (v3 + 5).toNatClampNeg)] σ).bind fun r1 =>
              if inb (v3 + 1) (r1.2.2 98 0).toNatClampNeg = true then
                if inb (v3 + 2) (r1.2.2 98 0).toNatClampNeg = true then
                  if inb (v3 + 3) (r1.2.2 98 0).toNatClampNeg = true then
                    if inb (v3 + 4) (r1.2.2 98 0).toNatClampNeg = true then
                      if inb (v3 + 5) (r1.2.2 98 0).toNatClampNeg = true then
                        (C nM_copy k [.ref 30, .int (r1.2.2 99 (v3 + 1).toNatClampNeg), .int (r1.2.2 99 (v3 + 2).toNatClampNeg), .int (r1.2.2 99 (v3 + 3).toNatClampNeg), .int (r1.2.2 99 (v3 + 4).toNatClampNeg), .int (r1.2.2 99 (v3 + 5).toNatClampNeg)] r1.2.2).bind fun r2 =>
                          if r1.1 = r2.1 then
                            R nL_law k 987 [.ref 99, .ref 0, .ref 30, .int v3] [] r2.2.2
                          else
                            some (0, 0, r2.2.2)
                      else
                        none
                    else
                      none
                  else
                    none
                else
                  none
              else
                none
          else
            none
        else
          none
      else
        none
    else
      none
  else
    none := (unr_R [10, 22, 39, 66, 83, 150, 157, 174, 201, 228, 265, 292, 299, 326, 353, 380, 407, 434, 461, 478, 495, 513, 530, 567, 595, 612, 649, 666, 693, 720, 768, 775, 782, 819, 856, 913, 960, 987] nL_law k 400 856 _ _ _).trans rfl
theorem eL_law_913 (k : Nat) (v3 : Int32) (σ : Sto) : R nL_law k 913 [.ref 99, .ref 0, .ref 30, .int v3] [] σ =
  if inb (v3 + 1) (σ 98 0).toNatClampNeg = true then
    if inb (v3 + 2) (σ 98 0).toNatClampNeg = true then
      if inb (v3 + 3) (σ 98 0).toNatClampNeg = true then
        if inb (v3 + 4) (σ 98 0).toNatClampNeg = true then
          (C nF_peopleBy k [.ref 0, .int (σ 99 (v3 + 1).toNatClampNeg), .int (σ 99 (v3 + 2).toNatClampNeg), .int (σ 99 (v3 + 3).toNatClampNeg), .int (σ 99 (v3 + 4).toNatClampNeg)] σ).bind fun r1 =>
            if inb (v3 + 1) (r1.2.2 98 0).toNatClampNeg = true then
              if inb (v3 + 2) (r1.2.2 98 0).toNatClampNeg = true then
                if inb (v3 + 3) (r1.2.2 98 0).toNatClampNeg = true then
                  if inb (v3 + 4) (r1.2.2 98 0).toNatClampNeg = true then
                    (C nM_peopleBy k [.ref 30, .int (r1.2.2 99 (v3 + 1).toNatClampNeg), .int (r1.2.2 99 (v3 + 2).toNatClampNeg), .int (r1.2.2 99 (v3 + 3).toNatClampNeg), .int (r1.2.2 99 (v3 + 4).toNatClampNeg)] r1.2.2).bind fun r2 =>
                      if r1.1 = r2.1 then
                        R nL_law k 987 [.ref 99, .ref 0, .ref 30, .int v3] [] r2.2.2
                      else
                        some (0, 0, r2.2.2)
                  else
                    none
                else
                  none
              else
                none
            else
              none
        else
          none
      else
        none
    else
      none
  else
    none := (unr_R [10, 22, 39, 66, 83, 150, 157, 174, 201, 228, 265, 292, 299, 326, 353, 380, 407, 434, 461, 478, 495, 513, 530, 567, 595, 612, 649, 666, 693, 720, 768, 775, 782, 819, 856, 913, 960, 987] nL_law k 400 913 _ _ _).trans rfl
theorem eL_law_960 (k : Nat) (v3 : Int32) (σ : Sto) : R nL_law k 960 [.ref 99, .ref 0, .ref 30, .int v3] [] σ =
  if inb (v3 + 1) (σ 98 0).toNatClampNeg = true then
    if inb (v3 + 2) (σ 98 0).toNatClampNeg = true then
      (C nF_taken k [.ref 0, .int (σ 99 (v3 + 1).toNatClampNeg), .int (σ 99 (v3 + 2).toNatClampNeg)] σ).bind fun r1 =>
        if inb (v3 + 1) (r1.2.2 98 0).toNatClampNeg = true then
          if inb (v3 + 2) (r1.2.2 98 0).toNatClampNeg = true then
            (C nM_taken k [.ref 30, .int (r1.2.2 99 (v3 + 1).toNatClampNeg), .int (r1.2.2 99 (v3 + 2).toNatClampNeg)] r1.2.2).bind fun r2 =>
              if r1.1 = r2.1 then
                R nL_law k 987 [.ref 99, .ref 0, .ref 30, .int v3] [] r2.2.2
              else
                some (0, 0, r2.2.2)
          else
            none
        else
          none
    else
      none
  else
    none := (unr_R [10, 22, 39, 66, 83, 150, 157, 174, 201, 228, 265, 292, 299, 326, 353, 380, 407, 434, 461, 478, 495, 513, 530, 567, 595, 612, 649, 666, 693, 720, 768, 775, 782, 819, 856, 913, 960, 987] nL_law k 400 960 _ _ _).trans rfl
theorem eL_law_987 (k : Nat) (v3 : Int32) (σ : Sto) : R nL_law k 987 [.ref 99, .ref 0, .ref 30, .int v3] [] σ =
  R nL_law k 10 [.ref 99, .ref 0, .ref 30, .int (v3 + 7)] [] σ := (unr_R [10, 22, 39, 66, 83, 150, 157, 174, 201, 228, 265, 292, 299, 326, 353, 380, 407, 434, 461, 478, 495, 513, 530, 567, 595, 612, 649, 666, 693, 720, 768, 775, 782, 819, 856, 913, 960, 987] nL_law k 400 987 _ _ _).trans rfl
end
section
/-! the checks, by evaluation -/
theorem ck185_0 : chkR 185 0 160 = true := by decide +kernel
theorem ck185_160 : chkR 185 160 160 = true := by decide +kernel
theorem ck185_320 : chkR 185 320 160 = true := by decide +kernel
theorem ck185_480 : chkR 185 480 160 = true := by decide +kernel
theorem ck185_640 : chkR 185 640 160 = true := by decide +kernel
theorem ck185_800 : chkR 185 800 160 = true := by decide +kernel
theorem ck185_960 : chkR 185 960 32 = true := by decide +kernel
end
section
/-! the checks, by evaluation -/
theorem ck119_0 : chkR 119 0 160 = true := by decide +kernel
theorem ck119_160 : chkR 119 160 64 = true := by decide +kernel
theorem ck158_0 : chkR 158 0 96 = true := by decide +kernel
theorem ck182_0 : chkR 182 0 96 = true := by decide +kernel
theorem ck63_0 : chkR 63 0 96 = true := by decide +kernel
theorem ck151_0 : chkR 151 0 96 = true := by decide +kernel
theorem ck18_0 : chkR 18 0 96 = true := by decide +kernel
theorem ck69_0 : chkR 69 0 96 = true := by decide +kernel
theorem ck70_0 : chkR 70 0 96 = true := by decide +kernel
theorem ck39_0 : chkR 39 0 96 = true := by decide +kernel
theorem ck134_0 : chkR 134 0 96 = true := by decide +kernel
theorem ck143_0 : chkR 143 0 64 = true := by decide +kernel
theorem ck135_0 : chkR 135 0 96 = true := by decide +kernel
theorem ck45_0 : chkR 45 0 64 = true := by decide +kernel
theorem ck42_0 : chkR 42 0 64 = true := by decide +kernel
theorem ck89_0 : chkR 89 0 64 = true := by decide +kernel
theorem ck118_0 : chkR 118 0 64 = true := by decide +kernel
theorem ck184_0 : chkR 184 0 64 = true := by decide +kernel
theorem ck53_0 : chkR 53 0 64 = true := by decide +kernel
theorem ck173_0 : chkR 173 0 64 = true := by decide +kernel
theorem ck176_0 : chkR 176 0 64 = true := by decide +kernel
theorem ck178_0 : chkR 178 0 64 = true := by decide +kernel
theorem ck22_0 : chkR 22 0 64 = true := by decide +kernel
theorem ck80_0 : chkR 80 0 64 = true := by decide +kernel
theorem ck142_0 : chkR 142 0 64 = true := by decide +kernel
theorem ck79_0 : chkR 79 0 64 = true := by decide +kernel
theorem ck40_0 : chkR 40 0 64 = true := by decide +kernel
theorem ck161_0 : chkR 161 0 64 = true := by decide +kernel
theorem ck55_0 : chkR 55 0 64 = true := by decide +kernel
theorem ck25_0 : chkR 25 0 32 = true := by decide +kernel
theorem ck86_0 : chkR 86 0 64 = true := by decide +kernel
theorem ck65_0 : chkR 65 0 64 = true := by decide +kernel
theorem ck125_0 : chkR 125 0 64 = true := by decide +kernel
theorem ck113_0 : chkR 113 0 32 = true := by decide +kernel
theorem ck148_0 : chkR 148 0 64 = true := by decide +kernel
theorem ck16_0 : chkR 16 0 32 = true := by decide +kernel
theorem ck115_0 : chkR 115 0 32 = true := by decide +kernel
theorem ck154_0 : chkR 154 0 32 = true := by decide +kernel
theorem ck14_0 : chkR 14 0 32 = true := by decide +kernel
theorem ck165_0 : chkR 165 0 32 = true := by decide +kernel
theorem ck13_0 : chkR 13 0 32 = true := by decide +kernel
theorem ck96_0 : chkR 96 0 32 = true := by decide +kernel
theorem ck141_0 : chkR 141 0 32 = true := by decide +kernel
theorem ck140_0 : chkR 140 0 32 = true := by decide +kernel
theorem ck49_0 : chkR 49 0 32 = true := by decide +kernel
theorem ck11_0 : chkR 11 0 32 = true := by decide +kernel
theorem ck121_0 : chkR 121 0 32 = true := by decide +kernel
theorem ck95_0 : chkR 95 0 32 = true := by decide +kernel
theorem ck106_0 : chkR 106 0 32 = true := by decide +kernel
theorem ck109_0 : chkR 109 0 32 = true := by decide +kernel
theorem ck44_0 : chkR 44 0 32 = true := by decide +kernel
theorem ck33_0 : chkR 33 0 32 = true := by decide +kernel
theorem ck123_0 : chkR 123 0 32 = true := by decide +kernel
theorem ck105_0 : chkR 105 0 32 = true := by decide +kernel
theorem ck108_0 : chkR 108 0 32 = true := by decide +kernel
theorem ck24_0 : chkR 24 0 32 = true := by decide +kernel
theorem ck90_0 : chkR 90 0 32 = true := by decide +kernel
theorem ck26_0 : chkR 26 0 32 = true := by decide +kernel
theorem ck107_0 : chkR 107 0 32 = true := by decide +kernel
theorem ck61_0 : chkR 61 0 32 = true := by decide +kernel
theorem ck91_0 : chkR 91 0 32 = true := by decide +kernel
end
section
/-! the checks, by evaluation -/
theorem ck127_0 : chkR 127 0 160 = true := by decide +kernel
theorem ck181_0 : chkR 181 0 128 = true := by decide +kernel
theorem ck162_0 : chkR 162 0 128 = true := by decide +kernel
theorem ck128_0 : chkR 128 0 128 = true := by decide +kernel
theorem ck171_0 : chkR 171 0 96 = true := by decide +kernel
theorem ck157_0 : chkR 157 0 96 = true := by decide +kernel
theorem ck88_0 : chkR 88 0 96 = true := by decide +kernel
theorem ck117_0 : chkR 117 0 96 = true := by decide +kernel
theorem ck159_0 : chkR 159 0 96 = true := by decide +kernel
theorem ck87_0 : chkR 87 0 96 = true := by decide +kernel
theorem ck32_0 : chkR 32 0 96 = true := by decide +kernel
theorem ck67_0 : chkR 67 0 96 = true := by decide +kernel
theorem ck68_0 : chkR 68 0 96 = true := by decide +kernel
theorem ck132_0 : chkR 132 0 96 = true := by decide +kernel
theorem ck41_0 : chkR 41 0 64 = true := by decide +kernel
theorem ck170_0 : chkR 170 0 96 = true := by decide +kernel
theorem ck78_0 : chkR 78 0 64 = true := by decide +kernel
theorem ck169_0 : chkR 169 0 64 = true := by decide +kernel
theorem ck34_0 : chkR 34 0 64 = true := by decide +kernel
theorem ck139_0 : chkR 139 0 64 = true := by decide +kernel
theorem ck164_0 : chkR 164 0 64 = true := by decide +kernel
theorem ck71_0 : chkR 71 0 64 = true := by decide +kernel
theorem ck129_0 : chkR 129 0 64 = true := by decide +kernel
theorem ck126_0 : chkR 126 0 64 = true := by decide +kernel
theorem ck144_0 : chkR 144 0 64 = true := by decide +kernel
theorem ck38_0 : chkR 38 0 64 = true := by decide +kernel
theorem ck172_0 : chkR 172 0 64 = true := by decide +kernel
theorem ck147_0 : chkR 147 0 64 = true := by decide +kernel
theorem ck37_0 : chkR 37 0 64 = true := by decide +kernel
theorem ck85_0 : chkR 85 0 64 = true := by decide +kernel
theorem ck73_0 : chkR 73 0 64 = true := by decide +kernel
theorem ck54_0 : chkR 54 0 32 = true := by decide +kernel
theorem ck166_0 : chkR 166 0 64 = true := by decide +kernel
theorem ck0_0 : chkR 0 0 64 = true := by decide +kernel
theorem ck114_0 : chkR 114 0 64 = true := by decide +kernel
theorem ck149_0 : chkR 149 0 64 = true := by decide +kernel
theorem ck43_0 : chkR 43 0 32 = true := by decide +kernel
theorem ck30_0 : chkR 30 0 32 = true := by decide +kernel
theorem ck153_0 : chkR 153 0 32 = true := by decide +kernel
theorem ck28_0 : chkR 28 0 32 = true := by decide +kernel
theorem ck12_0 : chkR 12 0 32 = true := by decide +kernel
theorem ck175_0 : chkR 175 0 32 = true := by decide +kernel
theorem ck112_0 : chkR 112 0 32 = true := by decide +kernel
theorem ck59_0 : chkR 59 0 32 = true := by decide +kernel
theorem ck47_0 : chkR 47 0 32 = true := by decide +kernel
theorem ck94_0 : chkR 94 0 32 = true := by decide +kernel
theorem ck97_0 : chkR 97 0 32 = true := by decide +kernel
theorem ck93_0 : chkR 93 0 32 = true := by decide +kernel
theorem ck131_0 : chkR 131 0 32 = true := by decide +kernel
theorem ck31_0 : chkR 31 0 32 = true := by decide +kernel
theorem ck84_0 : chkR 84 0 32 = true := by decide +kernel
theorem ck35_0 : chkR 35 0 32 = true := by decide +kernel
theorem ck111_0 : chkR 111 0 32 = true := by decide +kernel
theorem ck9_0 : chkR 9 0 32 = true := by decide +kernel
theorem ck146_0 : chkR 146 0 32 = true := by decide +kernel
theorem ck7_0 : chkR 7 0 32 = true := by decide +kernel
theorem ck23_0 : chkR 23 0 32 = true := by decide +kernel
theorem ck6_0 : chkR 6 0 32 = true := by decide +kernel
theorem ck155_0 : chkR 155 0 32 = true := by decide +kernel
theorem ck2_0 : chkR 2 0 32 = true := by decide +kernel
theorem ck5_0 : chkR 5 0 32 = true := by decide +kernel
theorem ck92_0 : chkR 92 0 32 = true := by decide +kernel
theorem ck116_0 : chkR 116 0 32 = true := by decide +kernel
end
section
/-! the checks, by evaluation -/
theorem ck52_0 : chkR 52 0 128 = true := by decide +kernel
theorem ck130_0 : chkR 130 0 128 = true := by decide +kernel
theorem ck20_0 : chkR 20 0 96 = true := by decide +kernel
theorem ck66_0 : chkR 66 0 128 = true := by decide +kernel
theorem ck145_0 : chkR 145 0 128 = true := by decide +kernel
theorem ck168_0 : chkR 168 0 96 = true := by decide +kernel
theorem ck62_0 : chkR 62 0 96 = true := by decide +kernel
theorem ck19_0 : chkR 19 0 96 = true := by decide +kernel
theorem ck72_0 : chkR 72 0 96 = true := by decide +kernel
theorem ck75_0 : chkR 75 0 96 = true := by decide +kernel
theorem ck156_0 : chkR 156 0 96 = true := by decide +kernel
theorem ck174_0 : chkR 174 0 96 = true := by decide +kernel
theorem ck160_0 : chkR 160 0 96 = true := by decide +kernel
theorem ck8_0 : chkR 8 0 96 = true := by decide +kernel
theorem ck50_0 : chkR 50 0 64 = true := by decide +kernel
theorem ck57_0 : chkR 57 0 64 = true := by decide +kernel
theorem ck101_0 : chkR 101 0 64 = true := by decide +kernel
theorem ck138_0 : chkR 138 0 64 = true := by decide +kernel
theorem ck179_0 : chkR 179 0 64 = true := by decide +kernel
theorem ck137_0 : chkR 137 0 64 = true := by decide +kernel
theorem ck76_0 : chkR 76 0 64 = true := by decide +kernel
theorem ck180_0 : chkR 180 0 64 = true := by decide +kernel
theorem ck77_0 : chkR 77 0 64 = true := by decide +kernel
theorem ck103_0 : chkR 103 0 64 = true := by decide +kernel
theorem ck177_0 : chkR 177 0 64 = true := by decide +kernel
theorem ck122_0 : chkR 122 0 64 = true := by decide +kernel
theorem ck82_0 : chkR 82 0 64 = true := by decide +kernel
theorem ck150_0 : chkR 150 0 64 = true := by decide +kernel
theorem ck136_0 : chkR 136 0 64 = true := by decide +kernel
theorem ck98_0 : chkR 98 0 64 = true := by decide +kernel
theorem ck120_0 : chkR 120 0 64 = true := by decide +kernel
theorem ck56_0 : chkR 56 0 32 = true := by decide +kernel
theorem ck58_0 : chkR 58 0 64 = true := by decide +kernel
theorem ck51_0 : chkR 51 0 64 = true := by decide +kernel
theorem ck46_0 : chkR 46 0 64 = true := by decide +kernel
theorem ck21_0 : chkR 21 0 64 = true := by decide +kernel
theorem ck163_0 : chkR 163 0 32 = true := by decide +kernel
theorem ck99_0 : chkR 99 0 32 = true := by decide +kernel
theorem ck100_0 : chkR 100 0 32 = true := by decide +kernel
theorem ck152_0 : chkR 152 0 32 = true := by decide +kernel
theorem ck81_0 : chkR 81 0 32 = true := by decide +kernel
theorem ck17_0 : chkR 17 0 32 = true := by decide +kernel
theorem ck110_0 : chkR 110 0 32 = true := by decide +kernel
theorem ck60_0 : chkR 60 0 32 = true := by decide +kernel
theorem ck15_0 : chkR 15 0 32 = true := by decide +kernel
theorem ck48_0 : chkR 48 0 32 = true := by decide +kernel
theorem ck183_0 : chkR 183 0 32 = true := by decide +kernel
theorem ck27_0 : chkR 27 0 32 = true := by decide +kernel
theorem ck74_0 : chkR 74 0 32 = true := by decide +kernel
theorem ck133_0 : chkR 133 0 32 = true := by decide +kernel
theorem ck124_0 : chkR 124 0 32 = true := by decide +kernel
theorem ck36_0 : chkR 36 0 32 = true := by decide +kernel
theorem ck4_0 : chkR 4 0 32 = true := by decide +kernel
theorem ck83_0 : chkR 83 0 32 = true := by decide +kernel
theorem ck64_0 : chkR 64 0 32 = true := by decide +kernel
theorem ck167_0 : chkR 167 0 32 = true := by decide +kernel
theorem ck10_0 : chkR 10 0 32 = true := by decide +kernel
theorem ck3_0 : chkR 3 0 32 = true := by decide +kernel
theorem ck104_0 : chkR 104 0 32 = true := by decide +kernel
theorem ck29_0 : chkR 29 0 32 = true := by decide +kernel
theorem ck1_0 : chkR 1 0 32 = true := by decide +kernel
theorem ck102_0 : chkR 102 0 32 = true := by decide +kernel
end
section
/-! all that is checked, in one -/
theorem chkR_at {y : Nat} : ∀ (n lo : Nat), chkR y lo n = true → ∀ i, lo ≤ i → i < lo + n → chk y i = true := by
  intro n
  induction n with
  | zero => intro lo _ i h1 h2; omega
  | succ n ih =>
    intro lo h i h1 h2
    unfold chkR at h
    rw [Bool.and_eq_true] at h
    by_cases hi : i = lo
    · rw [hi]; exact h.1
    · exact ih (lo + 1) h.2 i (by omega) (by omega)
def chunksOf (y : Nat) : Nat := match fet0 (nth mtab (y / 16)) (y % 16) with
  | some m => m.length
  | none => 0
theorem fetch_lt {y i : Nat} {r : RI} (h : fetch y i = some r) : i < 32 * chunksOf y := by
  unfold fetch at h
  unfold chunksOf
  cases hm : fet0 (nth mtab (y / 16)) (y % 16) with
  | none => rw [hm] at h; cases h
  | some m =>
    rw [hm] at h
    unfold fet1 at h
    cases hc : nth m (i / 32) with
    | none => simp only [hc] at h; cases h
    | some c =>
      have := nth_lt _ _ _ hc
      show i < 32 * m.length
      omega
theorem chk_none {y i : Nat} (h : fetch y i = none) : chk y i = true := by
  unfold chk
  cases mi? y with
  | none => rfl
  | some t => rw [h]
theorem chk_of {y n : Nat} (hn : chunksOf y = n) (h : ∀ i, i < 32 * n → chk y i = true) : ∀ i, chk y i = true := by
  intro i
  cases hf : fetch y i with
  | none => exact chk_none hf
  | some r => exact h i (by rw [← hn]; exact fetch_lt hf)
theorem cy0 : ∀ i, chk 0 i = true := chk_of (n := 2) (by decide +kernel) (fun i h => chkR_at _ _ ck0_0 i (Nat.zero_le _) (by omega))
theorem cy1 : ∀ i, chk 1 i = true := chk_of (n := 1) (by decide +kernel) (fun i h => chkR_at _ _ ck1_0 i (Nat.zero_le _) (by omega))
theorem cy2 : ∀ i, chk 2 i = true := chk_of (n := 1) (by decide +kernel) (fun i h => chkR_at _ _ ck2_0 i (Nat.zero_le _) (by omega))
theorem cy3 : ∀ i, chk 3 i = true := chk_of (n := 1) (by decide +kernel) (fun i h => chkR_at _ _ ck3_0 i (Nat.zero_le _) (by omega))
theorem cy4 : ∀ i, chk 4 i = true := chk_of (n := 1) (by decide +kernel) (fun i h => chkR_at _ _ ck4_0 i (Nat.zero_le _) (by omega))
theorem cy5 : ∀ i, chk 5 i = true := chk_of (n := 1) (by decide +kernel) (fun i h => chkR_at _ _ ck5_0 i (Nat.zero_le _) (by omega))
theorem cy6 : ∀ i, chk 6 i = true := chk_of (n := 1) (by decide +kernel) (fun i h => chkR_at _ _ ck6_0 i (Nat.zero_le _) (by omega))
theorem cy7 : ∀ i, chk 7 i = true := chk_of (n := 1) (by decide +kernel) (fun i h => chkR_at _ _ ck7_0 i (Nat.zero_le _) (by omega))
theorem cy8 : ∀ i, chk 8 i = true := chk_of (n := 3) (by decide +kernel) (fun i h => chkR_at _ _ ck8_0 i (Nat.zero_le _) (by omega))
theorem cy9 : ∀ i, chk 9 i = true := chk_of (n := 1) (by decide +kernel) (fun i h => chkR_at _ _ ck9_0 i (Nat.zero_le _) (by omega))
theorem cy10 : ∀ i, chk 10 i = true := chk_of (n := 1) (by decide +kernel) (fun i h => chkR_at _ _ ck10_0 i (Nat.zero_le _) (by omega))
theorem cy11 : ∀ i, chk 11 i = true := chk_of (n := 1) (by decide +kernel) (fun i h => chkR_at _ _ ck11_0 i (Nat.zero_le _) (by omega))
theorem cy12 : ∀ i, chk 12 i = true := chk_of (n := 1) (by decide +kernel) (fun i h => chkR_at _ _ ck12_0 i (Nat.zero_le _) (by omega))
theorem cy13 : ∀ i, chk 13 i = true := chk_of (n := 1) (by decide +kernel) (fun i h => chkR_at _ _ ck13_0 i (Nat.zero_le _) (by omega))
theorem cy14 : ∀ i, chk 14 i = true := chk_of (n := 1) (by decide +kernel) (fun i h => chkR_at _ _ ck14_0 i (Nat.zero_le _) (by omega))
theorem cy15 : ∀ i, chk 15 i = true := chk_of (n := 1) (by decide +kernel) (fun i h => chkR_at _ _ ck15_0 i (Nat.zero_le _) (by omega))
theorem cy16 : ∀ i, chk 16 i = true := chk_of (n := 1) (by decide +kernel) (fun i h => chkR_at _ _ ck16_0 i (Nat.zero_le _) (by omega))
theorem cy17 : ∀ i, chk 17 i = true := chk_of (n := 1) (by decide +kernel) (fun i h => chkR_at _ _ ck17_0 i (Nat.zero_le _) (by omega))
theorem cy18 : ∀ i, chk 18 i = true := chk_of (n := 3) (by decide +kernel) (fun i h => chkR_at _ _ ck18_0 i (Nat.zero_le _) (by omega))
theorem cy19 : ∀ i, chk 19 i = true := chk_of (n := 3) (by decide +kernel) (fun i h => chkR_at _ _ ck19_0 i (Nat.zero_le _) (by omega))
theorem cy20 : ∀ i, chk 20 i = true := chk_of (n := 3) (by decide +kernel) (fun i h => chkR_at _ _ ck20_0 i (Nat.zero_le _) (by omega))
theorem cy21 : ∀ i, chk 21 i = true := chk_of (n := 2) (by decide +kernel) (fun i h => chkR_at _ _ ck21_0 i (Nat.zero_le _) (by omega))
theorem cy22 : ∀ i, chk 22 i = true := chk_of (n := 2) (by decide +kernel) (fun i h => chkR_at _ _ ck22_0 i (Nat.zero_le _) (by omega))
theorem cy23 : ∀ i, chk 23 i = true := chk_of (n := 1) (by decide +kernel) (fun i h => chkR_at _ _ ck23_0 i (Nat.zero_le _) (by omega))
theorem cy24 : ∀ i, chk 24 i = true := chk_of (n := 1) (by decide +kernel) (fun i h => chkR_at _ _ ck24_0 i (Nat.zero_le _) (by omega))
theorem cy25 : ∀ i, chk 25 i = true := chk_of (n := 1) (by decide +kernel) (fun i h => chkR_at _ _ ck25_0 i (Nat.zero_le _) (by omega))
theorem cy26 : ∀ i, chk 26 i = true := chk_of (n := 1) (by decide +kernel) (fun i h => chkR_at _ _ ck26_0 i (Nat.zero_le _) (by omega))
theorem cy27 : ∀ i, chk 27 i = true := chk_of (n := 1) (by decide +kernel) (fun i h => chkR_at _ _ ck27_0 i (Nat.zero_le _) (by omega))
theorem cy28 : ∀ i, chk 28 i = true := chk_of (n := 1) (by decide +kernel) (fun i h => chkR_at _ _ ck28_0 i (Nat.zero_le _) (by omega))
theorem cy29 : ∀ i, chk 29 i = true := chk_of (n := 1) (by decide +kernel) (fun i h => chkR_at _ _ ck29_0 i (Nat.zero_le _) (by omega))
theorem cy30 : ∀ i, chk 30 i = true := chk_of (n := 1) (by decide +kernel) (fun i h => chkR_at _ _ ck30_0 i (Nat.zero_le _) (by omega))
theorem cy31 : ∀ i, chk 31 i = true := chk_of (n := 1) (by decide +kernel) (fun i h => chkR_at _ _ ck31_0 i (Nat.zero_le _) (by omega))
theorem cy32 : ∀ i, chk 32 i = true := chk_of (n := 3) (by decide +kernel) (fun i h => chkR_at _ _ ck32_0 i (Nat.zero_le _) (by omega))
theorem cy33 : ∀ i, chk 33 i = true := chk_of (n := 1) (by decide +kernel) (fun i h => chkR_at _ _ ck33_0 i (Nat.zero_le _) (by omega))
theorem cy34 : ∀ i, chk 34 i = true := chk_of (n := 2) (by decide +kernel) (fun i h => chkR_at _ _ ck34_0 i (Nat.zero_le _) (by omega))
theorem cy35 : ∀ i, chk 35 i = true := chk_of (n := 1) (by decide +kernel) (fun i h => chkR_at _ _ ck35_0 i (Nat.zero_le _) (by omega))
theorem cy36 : ∀ i, chk 36 i = true := chk_of (n := 1) (by decide +kernel) (fun i h => chkR_at _ _ ck36_0 i (Nat.zero_le _) (by omega))
theorem cy37 : ∀ i, chk 37 i = true := chk_of (n := 2) (by decide +kernel) (fun i h => chkR_at _ _ ck37_0 i (Nat.zero_le _) (by omega))
theorem cy38 : ∀ i, chk 38 i = true := chk_of (n := 2) (by decide +kernel) (fun i h => chkR_at _ _ ck38_0 i (Nat.zero_le _) (by omega))
theorem cy39 : ∀ i, chk 39 i = true := chk_of (n := 3) (by decide +kernel) (fun i h => chkR_at _ _ ck39_0 i (Nat.zero_le _) (by omega))
theorem cy40 : ∀ i, chk 40 i = true := chk_of (n := 2) (by decide +kernel) (fun i h => chkR_at _ _ ck40_0 i (Nat.zero_le _) (by omega))
theorem cy41 : ∀ i, chk 41 i = true := chk_of (n := 2) (by decide +kernel) (fun i h => chkR_at _ _ ck41_0 i (Nat.zero_le _) (by omega))
theorem cy42 : ∀ i, chk 42 i = true := chk_of (n := 2) (by decide +kernel) (fun i h => chkR_at _ _ ck42_0 i (Nat.zero_le _) (by omega))
theorem cy43 : ∀ i, chk 43 i = true := chk_of (n := 1) (by decide +kernel) (fun i h => chkR_at _ _ ck43_0 i (Nat.zero_le _) (by omega))
theorem cy44 : ∀ i, chk 44 i = true := chk_of (n := 1) (by decide +kernel) (fun i h => chkR_at _ _ ck44_0 i (Nat.zero_le _) (by omega))
theorem cy45 : ∀ i, chk 45 i = true := chk_of (n := 2) (by decide +kernel) (fun i h => chkR_at _ _ ck45_0 i (Nat.zero_le _) (by omega))
theorem cy46 : ∀ i, chk 46 i = true := chk_of (n := 2) (by decide +kernel) (fun i h => chkR_at _ _ ck46_0 i (Nat.zero_le _) (by omega))
theorem cy47 : ∀ i, chk 47 i = true := chk_of (n := 1) (by decide +kernel) (fun i h => chkR_at _ _ ck47_0 i (Nat.zero_le _) (by omega))
theorem cy48 : ∀ i, chk 48 i = true := chk_of (n := 1) (by decide +kernel) (fun i h => chkR_at _ _ ck48_0 i (Nat.zero_le _) (by omega))
theorem cy49 : ∀ i, chk 49 i = true := chk_of (n := 1) (by decide +kernel) (fun i h => chkR_at _ _ ck49_0 i (Nat.zero_le _) (by omega))
theorem cy50 : ∀ i, chk 50 i = true := chk_of (n := 2) (by decide +kernel) (fun i h => chkR_at _ _ ck50_0 i (Nat.zero_le _) (by omega))
theorem cy51 : ∀ i, chk 51 i = true := chk_of (n := 2) (by decide +kernel) (fun i h => chkR_at _ _ ck51_0 i (Nat.zero_le _) (by omega))
theorem cy52 : ∀ i, chk 52 i = true := chk_of (n := 4) (by decide +kernel) (fun i h => chkR_at _ _ ck52_0 i (Nat.zero_le _) (by omega))
theorem cy53 : ∀ i, chk 53 i = true := chk_of (n := 2) (by decide +kernel) (fun i h => chkR_at _ _ ck53_0 i (Nat.zero_le _) (by omega))
theorem cy54 : ∀ i, chk 54 i = true := chk_of (n := 1) (by decide +kernel) (fun i h => chkR_at _ _ ck54_0 i (Nat.zero_le _) (by omega))
theorem cy55 : ∀ i, chk 55 i = true := chk_of (n := 2) (by decide +kernel) (fun i h => chkR_at _ _ ck55_0 i (Nat.zero_le _) (by omega))
theorem cy56 : ∀ i, chk 56 i = true := chk_of (n := 1) (by decide +kernel) (fun i h => chkR_at _ _ ck56_0 i (Nat.zero_le _) (by omega))
theorem cy57 : ∀ i, chk 57 i = true := chk_of (n := 2) (by decide +kernel) (fun i h => chkR_at _ _ ck57_0 i (Nat.zero_le _) (by omega))
theorem cy58 : ∀ i, chk 58 i = true := chk_of (n := 2) (by decide +kernel) (fun i h => chkR_at _ _ ck58_0 i (Nat.zero_le _) (by omega))
theorem cy59 : ∀ i, chk 59 i = true := chk_of (n := 1) (by decide +kernel) (fun i h => chkR_at _ _ ck59_0 i (Nat.zero_le _) (by omega))
theorem cy60 : ∀ i, chk 60 i = true := chk_of (n := 1) (by decide +kernel) (fun i h => chkR_at _ _ ck60_0 i (Nat.zero_le _) (by omega))
theorem cy61 : ∀ i, chk 61 i = true := chk_of (n := 1) (by decide +kernel) (fun i h => chkR_at _ _ ck61_0 i (Nat.zero_le _) (by omega))
theorem cy62 : ∀ i, chk 62 i = true := chk_of (n := 3) (by decide +kernel) (fun i h => chkR_at _ _ ck62_0 i (Nat.zero_le _) (by omega))
theorem cy63 : ∀ i, chk 63 i = true := chk_of (n := 3) (by decide +kernel) (fun i h => chkR_at _ _ ck63_0 i (Nat.zero_le _) (by omega))
theorem cy64 : ∀ i, chk 64 i = true := chk_of (n := 1) (by decide +kernel) (fun i h => chkR_at _ _ ck64_0 i (Nat.zero_le _) (by omega))
theorem cy65 : ∀ i, chk 65 i = true := chk_of (n := 2) (by decide +kernel) (fun i h => chkR_at _ _ ck65_0 i (Nat.zero_le _) (by omega))
theorem cy66 : ∀ i, chk 66 i = true := chk_of (n := 4) (by decide +kernel) (fun i h => chkR_at _ _ ck66_0 i (Nat.zero_le _) (by omega))
theorem cy67 : ∀ i, chk 67 i = true := chk_of (n := 3) (by decide +kernel) (fun i h => chkR_at _ _ ck67_0 i (Nat.zero_le _) (by omega))
theorem cy68 : ∀ i, chk 68 i = true := chk_of (n := 3) (by decide +kernel) (fun i h => chkR_at _ _ ck68_0 i (Nat.zero_le _) (by omega))
theorem cy69 : ∀ i, chk 69 i = true := chk_of (n := 3) (by decide +kernel) (fun i h => chkR_at _ _ ck69_0 i (Nat.zero_le _) (by omega))
theorem cy70 : ∀ i, chk 70 i = true := chk_of (n := 3) (by decide +kernel) (fun i h => chkR_at _ _ ck70_0 i (Nat.zero_le _) (by omega))
theorem cy71 : ∀ i, chk 71 i = true := chk_of (n := 2) (by decide +kernel) (fun i h => chkR_at _ _ ck71_0 i (Nat.zero_le _) (by omega))
theorem cy72 : ∀ i, chk 72 i = true := chk_of (n := 3) (by decide +kernel) (fun i h => chkR_at _ _ ck72_0 i (Nat.zero_le _) (by omega))
theorem cy73 : ∀ i, chk 73 i = true := chk_of (n := 2) (by decide +kernel) (fun i h => chkR_at _ _ ck73_0 i (Nat.zero_le _) (by omega))
theorem cy74 : ∀ i, chk 74 i = true := chk_of (n := 1) (by decide +kernel) (fun i h => chkR_at _ _ ck74_0 i (Nat.zero_le _) (by omega))
theorem cy75 : ∀ i, chk 75 i = true := chk_of (n := 3) (by decide +kernel) (fun i h => chkR_at _ _ ck75_0 i (Nat.zero_le _) (by omega))
theorem cy76 : ∀ i, chk 76 i = true := chk_of (n := 2) (by decide +kernel) (fun i h => chkR_at _ _ ck76_0 i (Nat.zero_le _) (by omega))
theorem cy77 : ∀ i, chk 77 i = true := chk_of (n := 2) (by decide +kernel) (fun i h => chkR_at _ _ ck77_0 i (Nat.zero_le _) (by omega))
theorem cy78 : ∀ i, chk 78 i = true := chk_of (n := 2) (by decide +kernel) (fun i h => chkR_at _ _ ck78_0 i (Nat.zero_le _) (by omega))
theorem cy79 : ∀ i, chk 79 i = true := chk_of (n := 2) (by decide +kernel) (fun i h => chkR_at _ _ ck79_0 i (Nat.zero_le _) (by omega))
theorem cy80 : ∀ i, chk 80 i = true := chk_of (n := 2) (by decide +kernel) (fun i h => chkR_at _ _ ck80_0 i (Nat.zero_le _) (by omega))
theorem cy81 : ∀ i, chk 81 i = true := chk_of (n := 1) (by decide +kernel) (fun i h => chkR_at _ _ ck81_0 i (Nat.zero_le _) (by omega))
theorem cy82 : ∀ i, chk 82 i = true := chk_of (n := 2) (by decide +kernel) (fun i h => chkR_at _ _ ck82_0 i (Nat.zero_le _) (by omega))
theorem cy83 : ∀ i, chk 83 i = true := chk_of (n := 1) (by decide +kernel) (fun i h => chkR_at _ _ ck83_0 i (Nat.zero_le _) (by omega))
theorem cy84 : ∀ i, chk 84 i = true := chk_of (n := 1) (by decide +kernel) (fun i h => chkR_at _ _ ck84_0 i (Nat.zero_le _) (by omega))
theorem cy85 : ∀ i, chk 85 i = true := chk_of (n := 2) (by decide +kernel) (fun i h => chkR_at _ _ ck85_0 i (Nat.zero_le _) (by omega))
theorem cy86 : ∀ i, chk 86 i = true := chk_of (n := 2) (by decide +kernel) (fun i h => chkR_at _ _ ck86_0 i (Nat.zero_le _) (by omega))
theorem cy87 : ∀ i, chk 87 i = true := chk_of (n := 3) (by decide +kernel) (fun i h => chkR_at _ _ ck87_0 i (Nat.zero_le _) (by omega))
theorem cy88 : ∀ i, chk 88 i = true := chk_of (n := 3) (by decide +kernel) (fun i h => chkR_at _ _ ck88_0 i (Nat.zero_le _) (by omega))
theorem cy89 : ∀ i, chk 89 i = true := chk_of (n := 2) (by decide +kernel) (fun i h => chkR_at _ _ ck89_0 i (Nat.zero_le _) (by omega))
theorem cy90 : ∀ i, chk 90 i = true := chk_of (n := 1) (by decide +kernel) (fun i h => chkR_at _ _ ck90_0 i (Nat.zero_le _) (by omega))
theorem cy91 : ∀ i, chk 91 i = true := chk_of (n := 1) (by decide +kernel) (fun i h => chkR_at _ _ ck91_0 i (Nat.zero_le _) (by omega))
theorem cy92 : ∀ i, chk 92 i = true := chk_of (n := 1) (by decide +kernel) (fun i h => chkR_at _ _ ck92_0 i (Nat.zero_le _) (by omega))
theorem cy93 : ∀ i, chk 93 i = true := chk_of (n := 1) (by decide +kernel) (fun i h => chkR_at _ _ ck93_0 i (Nat.zero_le _) (by omega))
theorem cy94 : ∀ i, chk 94 i = true := chk_of (n := 1) (by decide +kernel) (fun i h => chkR_at _ _ ck94_0 i (Nat.zero_le _) (by omega))
theorem cy95 : ∀ i, chk 95 i = true := chk_of (n := 1) (by decide +kernel) (fun i h => chkR_at _ _ ck95_0 i (Nat.zero_le _) (by omega))
theorem cy96 : ∀ i, chk 96 i = true := chk_of (n := 1) (by decide +kernel) (fun i h => chkR_at _ _ ck96_0 i (Nat.zero_le _) (by omega))
theorem cy97 : ∀ i, chk 97 i = true := chk_of (n := 1) (by decide +kernel) (fun i h => chkR_at _ _ ck97_0 i (Nat.zero_le _) (by omega))
theorem cy98 : ∀ i, chk 98 i = true := chk_of (n := 2) (by decide +kernel) (fun i h => chkR_at _ _ ck98_0 i (Nat.zero_le _) (by omega))
theorem cy99 : ∀ i, chk 99 i = true := chk_of (n := 1) (by decide +kernel) (fun i h => chkR_at _ _ ck99_0 i (Nat.zero_le _) (by omega))
theorem cy100 : ∀ i, chk 100 i = true := chk_of (n := 1) (by decide +kernel) (fun i h => chkR_at _ _ ck100_0 i (Nat.zero_le _) (by omega))
theorem cy101 : ∀ i, chk 101 i = true := chk_of (n := 2) (by decide +kernel) (fun i h => chkR_at _ _ ck101_0 i (Nat.zero_le _) (by omega))
theorem cy102 : ∀ i, chk 102 i = true := chk_of (n := 1) (by decide +kernel) (fun i h => chkR_at _ _ ck102_0 i (Nat.zero_le _) (by omega))
theorem cy103 : ∀ i, chk 103 i = true := chk_of (n := 2) (by decide +kernel) (fun i h => chkR_at _ _ ck103_0 i (Nat.zero_le _) (by omega))
theorem cy104 : ∀ i, chk 104 i = true := chk_of (n := 1) (by decide +kernel) (fun i h => chkR_at _ _ ck104_0 i (Nat.zero_le _) (by omega))
theorem cy105 : ∀ i, chk 105 i = true := chk_of (n := 1) (by decide +kernel) (fun i h => chkR_at _ _ ck105_0 i (Nat.zero_le _) (by omega))
theorem cy106 : ∀ i, chk 106 i = true := chk_of (n := 1) (by decide +kernel) (fun i h => chkR_at _ _ ck106_0 i (Nat.zero_le _) (by omega))
theorem cy107 : ∀ i, chk 107 i = true := chk_of (n := 1) (by decide +kernel) (fun i h => chkR_at _ _ ck107_0 i (Nat.zero_le _) (by omega))
theorem cy108 : ∀ i, chk 108 i = true := chk_of (n := 1) (by decide +kernel) (fun i h => chkR_at _ _ ck108_0 i (Nat.zero_le _) (by omega))
theorem cy109 : ∀ i, chk 109 i = true := chk_of (n := 1) (by decide +kernel) (fun i h => chkR_at _ _ ck109_0 i (Nat.zero_le _) (by omega))
theorem cy110 : ∀ i, chk 110 i = true := chk_of (n := 1) (by decide +kernel) (fun i h => chkR_at _ _ ck110_0 i (Nat.zero_le _) (by omega))
theorem cy111 : ∀ i, chk 111 i = true := chk_of (n := 1) (by decide +kernel) (fun i h => chkR_at _ _ ck111_0 i (Nat.zero_le _) (by omega))
theorem cy112 : ∀ i, chk 112 i = true := chk_of (n := 1) (by decide +kernel) (fun i h => chkR_at _ _ ck112_0 i (Nat.zero_le _) (by omega))
theorem cy113 : ∀ i, chk 113 i = true := chk_of (n := 1) (by decide +kernel) (fun i h => chkR_at _ _ ck113_0 i (Nat.zero_le _) (by omega))
theorem cy114 : ∀ i, chk 114 i = true := chk_of (n := 2) (by decide +kernel) (fun i h => chkR_at _ _ ck114_0 i (Nat.zero_le _) (by omega))
theorem cy115 : ∀ i, chk 115 i = true := chk_of (n := 1) (by decide +kernel) (fun i h => chkR_at _ _ ck115_0 i (Nat.zero_le _) (by omega))
theorem cy116 : ∀ i, chk 116 i = true := chk_of (n := 1) (by decide +kernel) (fun i h => chkR_at _ _ ck116_0 i (Nat.zero_le _) (by omega))
theorem cy117 : ∀ i, chk 117 i = true := chk_of (n := 3) (by decide +kernel) (fun i h => chkR_at _ _ ck117_0 i (Nat.zero_le _) (by omega))
theorem cy118 : ∀ i, chk 118 i = true := chk_of (n := 2) (by decide +kernel) (fun i h => chkR_at _ _ ck118_0 i (Nat.zero_le _) (by omega))
theorem cy119 : ∀ i, chk 119 i = true := chk_of (n := 7) (by decide +kernel) (fun i h => by
  by_cases h0 : i < 160
  · exact chkR_at _ _ ck119_0 i (by omega) (by omega)
  by_cases h1 : i < 224
  · exact chkR_at _ _ ck119_160 i (by omega) (by omega)
  omega)
theorem cy120 : ∀ i, chk 120 i = true := chk_of (n := 2) (by decide +kernel) (fun i h => chkR_at _ _ ck120_0 i (Nat.zero_le _) (by omega))
theorem cy121 : ∀ i, chk 121 i = true := chk_of (n := 1) (by decide +kernel) (fun i h => chkR_at _ _ ck121_0 i (Nat.zero_le _) (by omega))
theorem cy122 : ∀ i, chk 122 i = true := chk_of (n := 2) (by decide +kernel) (fun i h => chkR_at _ _ ck122_0 i (Nat.zero_le _) (by omega))
theorem cy123 : ∀ i, chk 123 i = true := chk_of (n := 1) (by decide +kernel) (fun i h => chkR_at _ _ ck123_0 i (Nat.zero_le _) (by omega))
theorem cy124 : ∀ i, chk 124 i = true := chk_of (n := 1) (by decide +kernel) (fun i h => chkR_at _ _ ck124_0 i (Nat.zero_le _) (by omega))
theorem cy125 : ∀ i, chk 125 i = true := chk_of (n := 2) (by decide +kernel) (fun i h => chkR_at _ _ ck125_0 i (Nat.zero_le _) (by omega))
theorem cy126 : ∀ i, chk 126 i = true := chk_of (n := 2) (by decide +kernel) (fun i h => chkR_at _ _ ck126_0 i (Nat.zero_le _) (by omega))
theorem cy127 : ∀ i, chk 127 i = true := chk_of (n := 5) (by decide +kernel) (fun i h => chkR_at _ _ ck127_0 i (Nat.zero_le _) (by omega))
theorem cy128 : ∀ i, chk 128 i = true := chk_of (n := 4) (by decide +kernel) (fun i h => chkR_at _ _ ck128_0 i (Nat.zero_le _) (by omega))
theorem cy129 : ∀ i, chk 129 i = true := chk_of (n := 2) (by decide +kernel) (fun i h => chkR_at _ _ ck129_0 i (Nat.zero_le _) (by omega))
theorem cy130 : ∀ i, chk 130 i = true := chk_of (n := 4) (by decide +kernel) (fun i h => chkR_at _ _ ck130_0 i (Nat.zero_le _) (by omega))
theorem cy131 : ∀ i, chk 131 i = true := chk_of (n := 1) (by decide +kernel) (fun i h => chkR_at _ _ ck131_0 i (Nat.zero_le _) (by omega))
theorem cy132 : ∀ i, chk 132 i = true := chk_of (n := 3) (by decide +kernel) (fun i h => chkR_at _ _ ck132_0 i (Nat.zero_le _) (by omega))
theorem cy133 : ∀ i, chk 133 i = true := chk_of (n := 1) (by decide +kernel) (fun i h => chkR_at _ _ ck133_0 i (Nat.zero_le _) (by omega))
theorem cy134 : ∀ i, chk 134 i = true := chk_of (n := 3) (by decide +kernel) (fun i h => chkR_at _ _ ck134_0 i (Nat.zero_le _) (by omega))
theorem cy135 : ∀ i, chk 135 i = true := chk_of (n := 3) (by decide +kernel) (fun i h => chkR_at _ _ ck135_0 i (Nat.zero_le _) (by omega))
theorem cy136 : ∀ i, chk 136 i = true := chk_of (n := 2) (by decide +kernel) (fun i h => chkR_at _ _ ck136_0 i (Nat.zero_le _) (by omega))
theorem cy137 : ∀ i, chk 137 i = true := chk_of (n := 2) (by decide +kernel) (fun i h => chkR_at _ _ ck137_0 i (Nat.zero_le _) (by omega))
theorem cy138 : ∀ i, chk 138 i = true := chk_of (n := 2) (by decide +kernel) (fun i h => chkR_at _ _ ck138_0 i (Nat.zero_le _) (by omega))
theorem cy139 : ∀ i, chk 139 i = true := chk_of (n := 2) (by decide +kernel) (fun i h => chkR_at _ _ ck139_0 i (Nat.zero_le _) (by omega))
theorem cy140 : ∀ i, chk 140 i = true := chk_of (n := 1) (by decide +kernel) (fun i h => chkR_at _ _ ck140_0 i (Nat.zero_le _) (by omega))
theorem cy141 : ∀ i, chk 141 i = true := chk_of (n := 1) (by decide +kernel) (fun i h => chkR_at _ _ ck141_0 i (Nat.zero_le _) (by omega))
theorem cy142 : ∀ i, chk 142 i = true := chk_of (n := 2) (by decide +kernel) (fun i h => chkR_at _ _ ck142_0 i (Nat.zero_le _) (by omega))
theorem cy143 : ∀ i, chk 143 i = true := chk_of (n := 2) (by decide +kernel) (fun i h => chkR_at _ _ ck143_0 i (Nat.zero_le _) (by omega))
theorem cy144 : ∀ i, chk 144 i = true := chk_of (n := 2) (by decide +kernel) (fun i h => chkR_at _ _ ck144_0 i (Nat.zero_le _) (by omega))
theorem cy145 : ∀ i, chk 145 i = true := chk_of (n := 4) (by decide +kernel) (fun i h => chkR_at _ _ ck145_0 i (Nat.zero_le _) (by omega))
theorem cy146 : ∀ i, chk 146 i = true := chk_of (n := 1) (by decide +kernel) (fun i h => chkR_at _ _ ck146_0 i (Nat.zero_le _) (by omega))
theorem cy147 : ∀ i, chk 147 i = true := chk_of (n := 2) (by decide +kernel) (fun i h => chkR_at _ _ ck147_0 i (Nat.zero_le _) (by omega))
theorem cy148 : ∀ i, chk 148 i = true := chk_of (n := 2) (by decide +kernel) (fun i h => chkR_at _ _ ck148_0 i (Nat.zero_le _) (by omega))
theorem cy149 : ∀ i, chk 149 i = true := chk_of (n := 2) (by decide +kernel) (fun i h => chkR_at _ _ ck149_0 i (Nat.zero_le _) (by omega))
theorem cy150 : ∀ i, chk 150 i = true := chk_of (n := 2) (by decide +kernel) (fun i h => chkR_at _ _ ck150_0 i (Nat.zero_le _) (by omega))
theorem cy151 : ∀ i, chk 151 i = true := chk_of (n := 3) (by decide +kernel) (fun i h => chkR_at _ _ ck151_0 i (Nat.zero_le _) (by omega))
theorem cy152 : ∀ i, chk 152 i = true := chk_of (n := 1) (by decide +kernel) (fun i h => chkR_at _ _ ck152_0 i (Nat.zero_le _) (by omega))
theorem cy153 : ∀ i, chk 153 i = true := chk_of (n := 1) (by decide +kernel) (fun i h => chkR_at _ _ ck153_0 i (Nat.zero_le _) (by omega))
theorem cy154 : ∀ i, chk 154 i = true := chk_of (n := 1) (by decide +kernel) (fun i h => chkR_at _ _ ck154_0 i (Nat.zero_le _) (by omega))
theorem cy155 : ∀ i, chk 155 i = true := chk_of (n := 1) (by decide +kernel) (fun i h => chkR_at _ _ ck155_0 i (Nat.zero_le _) (by omega))
theorem cy156 : ∀ i, chk 156 i = true := chk_of (n := 3) (by decide +kernel) (fun i h => chkR_at _ _ ck156_0 i (Nat.zero_le _) (by omega))
theorem cy157 : ∀ i, chk 157 i = true := chk_of (n := 3) (by decide +kernel) (fun i h => chkR_at _ _ ck157_0 i (Nat.zero_le _) (by omega))
theorem cy158 : ∀ i, chk 158 i = true := chk_of (n := 3) (by decide +kernel) (fun i h => chkR_at _ _ ck158_0 i (Nat.zero_le _) (by omega))
theorem cy159 : ∀ i, chk 159 i = true := chk_of (n := 3) (by decide +kernel) (fun i h => chkR_at _ _ ck159_0 i (Nat.zero_le _) (by omega))
theorem cy160 : ∀ i, chk 160 i = true := chk_of (n := 3) (by decide +kernel) (fun i h => chkR_at _ _ ck160_0 i (Nat.zero_le _) (by omega))
theorem cy161 : ∀ i, chk 161 i = true := chk_of (n := 2) (by decide +kernel) (fun i h => chkR_at _ _ ck161_0 i (Nat.zero_le _) (by omega))
theorem cy162 : ∀ i, chk 162 i = true := chk_of (n := 4) (by decide +kernel) (fun i h => chkR_at _ _ ck162_0 i (Nat.zero_le _) (by omega))
theorem cy163 : ∀ i, chk 163 i = true := chk_of (n := 1) (by decide +kernel) (fun i h => chkR_at _ _ ck163_0 i (Nat.zero_le _) (by omega))
theorem cy164 : ∀ i, chk 164 i = true := chk_of (n := 2) (by decide +kernel) (fun i h => chkR_at _ _ ck164_0 i (Nat.zero_le _) (by omega))
theorem cy165 : ∀ i, chk 165 i = true := chk_of (n := 1) (by decide +kernel) (fun i h => chkR_at _ _ ck165_0 i (Nat.zero_le _) (by omega))
theorem cy166 : ∀ i, chk 166 i = true := chk_of (n := 2) (by decide +kernel) (fun i h => chkR_at _ _ ck166_0 i (Nat.zero_le _) (by omega))
theorem cy167 : ∀ i, chk 167 i = true := chk_of (n := 1) (by decide +kernel) (fun i h => chkR_at _ _ ck167_0 i (Nat.zero_le _) (by omega))
theorem cy168 : ∀ i, chk 168 i = true := chk_of (n := 3) (by decide +kernel) (fun i h => chkR_at _ _ ck168_0 i (Nat.zero_le _) (by omega))
theorem cy169 : ∀ i, chk 169 i = true := chk_of (n := 2) (by decide +kernel) (fun i h => chkR_at _ _ ck169_0 i (Nat.zero_le _) (by omega))
theorem cy170 : ∀ i, chk 170 i = true := chk_of (n := 3) (by decide +kernel) (fun i h => chkR_at _ _ ck170_0 i (Nat.zero_le _) (by omega))
theorem cy171 : ∀ i, chk 171 i = true := chk_of (n := 3) (by decide +kernel) (fun i h => chkR_at _ _ ck171_0 i (Nat.zero_le _) (by omega))
theorem cy172 : ∀ i, chk 172 i = true := chk_of (n := 2) (by decide +kernel) (fun i h => chkR_at _ _ ck172_0 i (Nat.zero_le _) (by omega))
theorem cy173 : ∀ i, chk 173 i = true := chk_of (n := 2) (by decide +kernel) (fun i h => chkR_at _ _ ck173_0 i (Nat.zero_le _) (by omega))
theorem cy174 : ∀ i, chk 174 i = true := chk_of (n := 3) (by decide +kernel) (fun i h => chkR_at _ _ ck174_0 i (Nat.zero_le _) (by omega))
theorem cy175 : ∀ i, chk 175 i = true := chk_of (n := 1) (by decide +kernel) (fun i h => chkR_at _ _ ck175_0 i (Nat.zero_le _) (by omega))
theorem cy176 : ∀ i, chk 176 i = true := chk_of (n := 2) (by decide +kernel) (fun i h => chkR_at _ _ ck176_0 i (Nat.zero_le _) (by omega))
theorem cy177 : ∀ i, chk 177 i = true := chk_of (n := 2) (by decide +kernel) (fun i h => chkR_at _ _ ck177_0 i (Nat.zero_le _) (by omega))
theorem cy178 : ∀ i, chk 178 i = true := chk_of (n := 2) (by decide +kernel) (fun i h => chkR_at _ _ ck178_0 i (Nat.zero_le _) (by omega))
theorem cy179 : ∀ i, chk 179 i = true := chk_of (n := 2) (by decide +kernel) (fun i h => chkR_at _ _ ck179_0 i (Nat.zero_le _) (by omega))
theorem cy180 : ∀ i, chk 180 i = true := chk_of (n := 2) (by decide +kernel) (fun i h => chkR_at _ _ ck180_0 i (Nat.zero_le _) (by omega))
theorem cy181 : ∀ i, chk 181 i = true := chk_of (n := 4) (by decide +kernel) (fun i h => chkR_at _ _ ck181_0 i (Nat.zero_le _) (by omega))
theorem cy182 : ∀ i, chk 182 i = true := chk_of (n := 3) (by decide +kernel) (fun i h => chkR_at _ _ ck182_0 i (Nat.zero_le _) (by omega))
theorem cy183 : ∀ i, chk 183 i = true := chk_of (n := 1) (by decide +kernel) (fun i h => chkR_at _ _ ck183_0 i (Nat.zero_le _) (by omega))
theorem cy184 : ∀ i, chk 184 i = true := chk_of (n := 2) (by decide +kernel) (fun i h => chkR_at _ _ ck184_0 i (Nat.zero_le _) (by omega))
theorem cy185 : ∀ i, chk 185 i = true := chk_of (n := 31) (by decide +kernel) (fun i h => by
  by_cases h0 : i < 160
  · exact chkR_at _ _ ck185_0 i (by omega) (by omega)
  by_cases h1 : i < 320
  · exact chkR_at _ _ ck185_160 i (by omega) (by omega)
  by_cases h2 : i < 480
  · exact chkR_at _ _ ck185_320 i (by omega) (by omega)
  by_cases h3 : i < 640
  · exact chkR_at _ _ ck185_480 i (by omega) (by omega)
  by_cases h4 : i < 800
  · exact chkR_at _ _ ck185_640 i (by omega) (by omega)
  by_cases h5 : i < 960
  · exact chkR_at _ _ ck185_800 i (by omega) (by omega)
  by_cases h6 : i < 992
  · exact chkR_at _ _ ck185_960 i (by omega) (by omega)
  omega)
theorem cz0 : ∀ y, y < 1 → ∀ i, chk y i = true := lt_s lt_0 cy0
theorem cz1 : ∀ y, y < 2 → ∀ i, chk y i = true := lt_s cz0 cy1
theorem cz2 : ∀ y, y < 3 → ∀ i, chk y i = true := lt_s cz1 cy2
theorem cz3 : ∀ y, y < 4 → ∀ i, chk y i = true := lt_s cz2 cy3
theorem cz4 : ∀ y, y < 5 → ∀ i, chk y i = true := lt_s cz3 cy4
theorem cz5 : ∀ y, y < 6 → ∀ i, chk y i = true := lt_s cz4 cy5
theorem cz6 : ∀ y, y < 7 → ∀ i, chk y i = true := lt_s cz5 cy6
theorem cz7 : ∀ y, y < 8 → ∀ i, chk y i = true := lt_s cz6 cy7
theorem cz8 : ∀ y, y < 9 → ∀ i, chk y i = true := lt_s cz7 cy8
theorem cz9 : ∀ y, y < 10 → ∀ i, chk y i = true := lt_s cz8 cy9
theorem cz10 : ∀ y, y < 11 → ∀ i, chk y i = true := lt_s cz9 cy10
theorem cz11 : ∀ y, y < 12 → ∀ i, chk y i = true := lt_s cz10 cy11
theorem cz12 : ∀ y, y < 13 → ∀ i, chk y i = true := lt_s cz11 cy12
theorem cz13 : ∀ y, y < 14 → ∀ i, chk y i = true := lt_s cz12 cy13
theorem cz14 : ∀ y, y < 15 → ∀ i, chk y i = true := lt_s cz13 cy14
theorem cz15 : ∀ y, y < 16 → ∀ i, chk y i = true := lt_s cz14 cy15
theorem cz16 : ∀ y, y < 17 → ∀ i, chk y i = true := lt_s cz15 cy16
theorem cz17 : ∀ y, y < 18 → ∀ i, chk y i = true := lt_s cz16 cy17
theorem cz18 : ∀ y, y < 19 → ∀ i, chk y i = true := lt_s cz17 cy18
theorem cz19 : ∀ y, y < 20 → ∀ i, chk y i = true := lt_s cz18 cy19
theorem cz20 : ∀ y, y < 21 → ∀ i, chk y i = true := lt_s cz19 cy20
theorem cz21 : ∀ y, y < 22 → ∀ i, chk y i = true := lt_s cz20 cy21
theorem cz22 : ∀ y, y < 23 → ∀ i, chk y i = true := lt_s cz21 cy22
theorem cz23 : ∀ y, y < 24 → ∀ i, chk y i = true := lt_s cz22 cy23
theorem cz24 : ∀ y, y < 25 → ∀ i, chk y i = true := lt_s cz23 cy24
theorem cz25 : ∀ y, y < 26 → ∀ i, chk y i = true := lt_s cz24 cy25
theorem cz26 : ∀ y, y < 27 → ∀ i, chk y i = true := lt_s cz25 cy26
theorem cz27 : ∀ y, y < 28 → ∀ i, chk y i = true := lt_s cz26 cy27
theorem cz28 : ∀ y, y < 29 → ∀ i, chk y i = true := lt_s cz27 cy28
theorem cz29 : ∀ y, y < 30 → ∀ i, chk y i = true := lt_s cz28 cy29
theorem cz30 : ∀ y, y < 31 → ∀ i, chk y i = true := lt_s cz29 cy30
theorem cz31 : ∀ y, y < 32 → ∀ i, chk y i = true := lt_s cz30 cy31
theorem cz32 : ∀ y, y < 33 → ∀ i, chk y i = true := lt_s cz31 cy32
theorem cz33 : ∀ y, y < 34 → ∀ i, chk y i = true := lt_s cz32 cy33
theorem cz34 : ∀ y, y < 35 → ∀ i, chk y i = true := lt_s cz33 cy34
theorem cz35 : ∀ y, y < 36 → ∀ i, chk y i = true := lt_s cz34 cy35
theorem cz36 : ∀ y, y < 37 → ∀ i, chk y i = true := lt_s cz35 cy36
theorem cz37 : ∀ y, y < 38 → ∀ i, chk y i = true := lt_s cz36 cy37
theorem cz38 : ∀ y, y < 39 → ∀ i, chk y i = true := lt_s cz37 cy38
theorem cz39 : ∀ y, y < 40 → ∀ i, chk y i = true := lt_s cz38 cy39
theorem cz40 : ∀ y, y < 41 → ∀ i, chk y i = true := lt_s cz39 cy40
theorem cz41 : ∀ y, y < 42 → ∀ i, chk y i = true := lt_s cz40 cy41
theorem cz42 : ∀ y, y < 43 → ∀ i, chk y i = true := lt_s cz41 cy42
theorem cz43 : ∀ y, y < 44 → ∀ i, chk y i = true := lt_s cz42 cy43
theorem cz44 : ∀ y, y < 45 → ∀ i, chk y i = true := lt_s cz43 cy44
theorem cz45 : ∀ y, y < 46 → ∀ i, chk y i = true := lt_s cz44 cy45
theorem cz46 : ∀ y, y < 47 → ∀ i, chk y i = true := lt_s cz45 cy46
theorem cz47 : ∀ y, y < 48 → ∀ i, chk y i = true := lt_s cz46 cy47
theorem cz48 : ∀ y, y < 49 → ∀ i, chk y i = true := lt_s cz47 cy48
theorem cz49 : ∀ y, y < 50 → ∀ i, chk y i = true := lt_s cz48 cy49
theorem cz50 : ∀ y, y < 51 → ∀ i, chk y i = true := lt_s cz49 cy50
theorem cz51 : ∀ y, y < 52 → ∀ i, chk y i = true := lt_s cz50 cy51
theorem cz52 : ∀ y, y < 53 → ∀ i, chk y i = true := lt_s cz51 cy52
theorem cz53 : ∀ y, y < 54 → ∀ i, chk y i = true := lt_s cz52 cy53
theorem cz54 : ∀ y, y < 55 → ∀ i, chk y i = true := lt_s cz53 cy54
theorem cz55 : ∀ y, y < 56 → ∀ i, chk y i = true := lt_s cz54 cy55
theorem cz56 : ∀ y, y < 57 → ∀ i, chk y i = true := lt_s cz55 cy56
theorem cz57 : ∀ y, y < 58 → ∀ i, chk y i = true := lt_s cz56 cy57
theorem cz58 : ∀ y, y < 59 → ∀ i, chk y i = true := lt_s cz57 cy58
theorem cz59 : ∀ y, y < 60 → ∀ i, chk y i = true := lt_s cz58 cy59
theorem cz60 : ∀ y, y < 61 → ∀ i, chk y i = true := lt_s cz59 cy60
theorem cz61 : ∀ y, y < 62 → ∀ i, chk y i = true := lt_s cz60 cy61
theorem cz62 : ∀ y, y < 63 → ∀ i, chk y i = true := lt_s cz61 cy62
theorem cz63 : ∀ y, y < 64 → ∀ i, chk y i = true := lt_s cz62 cy63
theorem cz64 : ∀ y, y < 65 → ∀ i, chk y i = true := lt_s cz63 cy64
theorem cz65 : ∀ y, y < 66 → ∀ i, chk y i = true := lt_s cz64 cy65
theorem cz66 : ∀ y, y < 67 → ∀ i, chk y i = true := lt_s cz65 cy66
theorem cz67 : ∀ y, y < 68 → ∀ i, chk y i = true := lt_s cz66 cy67
theorem cz68 : ∀ y, y < 69 → ∀ i, chk y i = true := lt_s cz67 cy68
theorem cz69 : ∀ y, y < 70 → ∀ i, chk y i = true := lt_s cz68 cy69
theorem cz70 : ∀ y, y < 71 → ∀ i, chk y i = true := lt_s cz69 cy70
theorem cz71 : ∀ y, y < 72 → ∀ i, chk y i = true := lt_s cz70 cy71
theorem cz72 : ∀ y, y < 73 → ∀ i, chk y i = true := lt_s cz71 cy72
theorem cz73 : ∀ y, y < 74 → ∀ i, chk y i = true := lt_s cz72 cy73
theorem cz74 : ∀ y, y < 75 → ∀ i, chk y i = true := lt_s cz73 cy74
theorem cz75 : ∀ y, y < 76 → ∀ i, chk y i = true := lt_s cz74 cy75
theorem cz76 : ∀ y, y < 77 → ∀ i, chk y i = true := lt_s cz75 cy76
theorem cz77 : ∀ y, y < 78 → ∀ i, chk y i = true := lt_s cz76 cy77
theorem cz78 : ∀ y, y < 79 → ∀ i, chk y i = true := lt_s cz77 cy78
theorem cz79 : ∀ y, y < 80 → ∀ i, chk y i = true := lt_s cz78 cy79
theorem cz80 : ∀ y, y < 81 → ∀ i, chk y i = true := lt_s cz79 cy80
theorem cz81 : ∀ y, y < 82 → ∀ i, chk y i = true := lt_s cz80 cy81
theorem cz82 : ∀ y, y < 83 → ∀ i, chk y i = true := lt_s cz81 cy82
theorem cz83 : ∀ y, y < 84 → ∀ i, chk y i = true := lt_s cz82 cy83
theorem cz84 : ∀ y, y < 85 → ∀ i, chk y i = true := lt_s cz83 cy84
theorem cz85 : ∀ y, y < 86 → ∀ i, chk y i = true := lt_s cz84 cy85
theorem cz86 : ∀ y, y < 87 → ∀ i, chk y i = true := lt_s cz85 cy86
theorem cz87 : ∀ y, y < 88 → ∀ i, chk y i = true := lt_s cz86 cy87
theorem cz88 : ∀ y, y < 89 → ∀ i, chk y i = true := lt_s cz87 cy88
theorem cz89 : ∀ y, y < 90 → ∀ i, chk y i = true := lt_s cz88 cy89
theorem cz90 : ∀ y, y < 91 → ∀ i, chk y i = true := lt_s cz89 cy90
theorem cz91 : ∀ y, y < 92 → ∀ i, chk y i = true := lt_s cz90 cy91
theorem cz92 : ∀ y, y < 93 → ∀ i, chk y i = true := lt_s cz91 cy92
theorem cz93 : ∀ y, y < 94 → ∀ i, chk y i = true := lt_s cz92 cy93
theorem cz94 : ∀ y, y < 95 → ∀ i, chk y i = true := lt_s cz93 cy94
theorem cz95 : ∀ y, y < 96 → ∀ i, chk y i = true := lt_s cz94 cy95
theorem cz96 : ∀ y, y < 97 → ∀ i, chk y i = true := lt_s cz95 cy96
theorem cz97 : ∀ y, y < 98 → ∀ i, chk y i = true := lt_s cz96 cy97
theorem cz98 : ∀ y, y < 99 → ∀ i, chk y i = true := lt_s cz97 cy98
theorem cz99 : ∀ y, y < 100 → ∀ i, chk y i = true := lt_s cz98 cy99
theorem cz100 : ∀ y, y < 101 → ∀ i, chk y i = true := lt_s cz99 cy100
theorem cz101 : ∀ y, y < 102 → ∀ i, chk y i = true := lt_s cz100 cy101
theorem cz102 : ∀ y, y < 103 → ∀ i, chk y i = true := lt_s cz101 cy102
theorem cz103 : ∀ y, y < 104 → ∀ i, chk y i = true := lt_s cz102 cy103
theorem cz104 : ∀ y, y < 105 → ∀ i, chk y i = true := lt_s cz103 cy104
theorem cz105 : ∀ y, y < 106 → ∀ i, chk y i = true := lt_s cz104 cy105
theorem cz106 : ∀ y, y < 107 → ∀ i, chk y i = true := lt_s cz105 cy106
theorem cz107 : ∀ y, y < 108 → ∀ i, chk y i = true := lt_s cz106 cy107
theorem cz108 : ∀ y, y < 109 → ∀ i, chk y i = true := lt_s cz107 cy108
theorem cz109 : ∀ y, y < 110 → ∀ i, chk y i = true := lt_s cz108 cy109
theorem cz110 : ∀ y, y < 111 → ∀ i, chk y i = true := lt_s cz109 cy110
theorem cz111 : ∀ y, y < 112 → ∀ i, chk y i = true := lt_s cz110 cy111
theorem cz112 : ∀ y, y < 113 → ∀ i, chk y i = true := lt_s cz111 cy112
theorem cz113 : ∀ y, y < 114 → ∀ i, chk y i = true := lt_s cz112 cy113
theorem cz114 : ∀ y, y < 115 → ∀ i, chk y i = true := lt_s cz113 cy114
theorem cz115 : ∀ y, y < 116 → ∀ i, chk y i = true := lt_s cz114 cy115
theorem cz116 : ∀ y, y < 117 → ∀ i, chk y i = true := lt_s cz115 cy116
theorem cz117 : ∀ y, y < 118 → ∀ i, chk y i = true := lt_s cz116 cy117
theorem cz118 : ∀ y, y < 119 → ∀ i, chk y i = true := lt_s cz117 cy118
theorem cz119 : ∀ y, y < 120 → ∀ i, chk y i = true := lt_s cz118 cy119
theorem cz120 : ∀ y, y < 121 → ∀ i, chk y i = true := lt_s cz119 cy120
theorem cz121 : ∀ y, y < 122 → ∀ i, chk y i = true := lt_s cz120 cy121
theorem cz122 : ∀ y, y < 123 → ∀ i, chk y i = true := lt_s cz121 cy122
theorem cz123 : ∀ y, y < 124 → ∀ i, chk y i = true := lt_s cz122 cy123
theorem cz124 : ∀ y, y < 125 → ∀ i, chk y i = true := lt_s cz123 cy124
theorem cz125 : ∀ y, y < 126 → ∀ i, chk y i = true := lt_s cz124 cy125
theorem cz126 : ∀ y, y < 127 → ∀ i, chk y i = true := lt_s cz125 cy126
theorem cz127 : ∀ y, y < 128 → ∀ i, chk y i = true := lt_s cz126 cy127
theorem cz128 : ∀ y, y < 129 → ∀ i, chk y i = true := lt_s cz127 cy128
theorem cz129 : ∀ y, y < 130 → ∀ i, chk y i = true := lt_s cz128 cy129
theorem cz130 : ∀ y, y < 131 → ∀ i, chk y i = true := lt_s cz129 cy130
theorem cz131 : ∀ y, y < 132 → ∀ i, chk y i = true := lt_s cz130 cy131
theorem cz132 : ∀ y, y < 133 → ∀ i, chk y i = true := lt_s cz131 cy132
theorem cz133 : ∀ y, y < 134 → ∀ i, chk y i = true := lt_s cz132 cy133
theorem cz134 : ∀ y, y < 135 → ∀ i, chk y i = true := lt_s cz133 cy134
theorem cz135 : ∀ y, y < 136 → ∀ i, chk y i = true := lt_s cz134 cy135
theorem cz136 : ∀ y, y < 137 → ∀ i, chk y i = true := lt_s cz135 cy136
theorem cz137 : ∀ y, y < 138 → ∀ i, chk y i = true := lt_s cz136 cy137
theorem cz138 : ∀ y, y < 139 → ∀ i, chk y i = true := lt_s cz137 cy138
theorem cz139 : ∀ y, y < 140 → ∀ i, chk y i = true := lt_s cz138 cy139
theorem cz140 : ∀ y, y < 141 → ∀ i, chk y i = true := lt_s cz139 cy140
theorem cz141 : ∀ y, y < 142 → ∀ i, chk y i = true := lt_s cz140 cy141
theorem cz142 : ∀ y, y < 143 → ∀ i, chk y i = true := lt_s cz141 cy142
theorem cz143 : ∀ y, y < 144 → ∀ i, chk y i = true := lt_s cz142 cy143
theorem cz144 : ∀ y, y < 145 → ∀ i, chk y i = true := lt_s cz143 cy144
theorem cz145 : ∀ y, y < 146 → ∀ i, chk y i = true := lt_s cz144 cy145
theorem cz146 : ∀ y, y < 147 → ∀ i, chk y i = true := lt_s cz145 cy146
theorem cz147 : ∀ y, y < 148 → ∀ i, chk y i = true := lt_s cz146 cy147
theorem cz148 : ∀ y, y < 149 → ∀ i, chk y i = true := lt_s cz147 cy148
theorem cz149 : ∀ y, y < 150 → ∀ i, chk y i = true := lt_s cz148 cy149
theorem cz150 : ∀ y, y < 151 → ∀ i, chk y i = true := lt_s cz149 cy150
theorem cz151 : ∀ y, y < 152 → ∀ i, chk y i = true := lt_s cz150 cy151
theorem cz152 : ∀ y, y < 153 → ∀ i, chk y i = true := lt_s cz151 cy152
theorem cz153 : ∀ y, y < 154 → ∀ i, chk y i = true := lt_s cz152 cy153
theorem cz154 : ∀ y, y < 155 → ∀ i, chk y i = true := lt_s cz153 cy154
theorem cz155 : ∀ y, y < 156 → ∀ i, chk y i = true := lt_s cz154 cy155
theorem cz156 : ∀ y, y < 157 → ∀ i, chk y i = true := lt_s cz155 cy156
theorem cz157 : ∀ y, y < 158 → ∀ i, chk y i = true := lt_s cz156 cy157
theorem cz158 : ∀ y, y < 159 → ∀ i, chk y i = true := lt_s cz157 cy158
theorem cz159 : ∀ y, y < 160 → ∀ i, chk y i = true := lt_s cz158 cy159
theorem cz160 : ∀ y, y < 161 → ∀ i, chk y i = true := lt_s cz159 cy160
theorem cz161 : ∀ y, y < 162 → ∀ i, chk y i = true := lt_s cz160 cy161
theorem cz162 : ∀ y, y < 163 → ∀ i, chk y i = true := lt_s cz161 cy162
theorem cz163 : ∀ y, y < 164 → ∀ i, chk y i = true := lt_s cz162 cy163
theorem cz164 : ∀ y, y < 165 → ∀ i, chk y i = true := lt_s cz163 cy164
theorem cz165 : ∀ y, y < 166 → ∀ i, chk y i = true := lt_s cz164 cy165
theorem cz166 : ∀ y, y < 167 → ∀ i, chk y i = true := lt_s cz165 cy166
theorem cz167 : ∀ y, y < 168 → ∀ i, chk y i = true := lt_s cz166 cy167
theorem cz168 : ∀ y, y < 169 → ∀ i, chk y i = true := lt_s cz167 cy168
theorem cz169 : ∀ y, y < 170 → ∀ i, chk y i = true := lt_s cz168 cy169
theorem cz170 : ∀ y, y < 171 → ∀ i, chk y i = true := lt_s cz169 cy170
theorem cz171 : ∀ y, y < 172 → ∀ i, chk y i = true := lt_s cz170 cy171
theorem cz172 : ∀ y, y < 173 → ∀ i, chk y i = true := lt_s cz171 cy172
theorem cz173 : ∀ y, y < 174 → ∀ i, chk y i = true := lt_s cz172 cy173
theorem cz174 : ∀ y, y < 175 → ∀ i, chk y i = true := lt_s cz173 cy174
theorem cz175 : ∀ y, y < 176 → ∀ i, chk y i = true := lt_s cz174 cy175
theorem cz176 : ∀ y, y < 177 → ∀ i, chk y i = true := lt_s cz175 cy176
theorem cz177 : ∀ y, y < 178 → ∀ i, chk y i = true := lt_s cz176 cy177
theorem cz178 : ∀ y, y < 179 → ∀ i, chk y i = true := lt_s cz177 cy178
theorem cz179 : ∀ y, y < 180 → ∀ i, chk y i = true := lt_s cz178 cy179
theorem cz180 : ∀ y, y < 181 → ∀ i, chk y i = true := lt_s cz179 cy180
theorem cz181 : ∀ y, y < 182 → ∀ i, chk y i = true := lt_s cz180 cy181
theorem cz182 : ∀ y, y < 183 → ∀ i, chk y i = true := lt_s cz181 cy182
theorem cz183 : ∀ y, y < 184 → ∀ i, chk y i = true := lt_s cz182 cy183
theorem cz184 : ∀ y, y < 185 → ∀ i, chk y i = true := lt_s cz183 cy184
theorem cz185 : ∀ y, y < 186 → ∀ i, chk y i = true := lt_s cz184 cy185
theorem nth_ge {α : Type} : ∀ (l : List α) (n : Nat), l.length ≤ n → nth l n = none := by
  intro l
  induction l with
  | nil => intro n _; rfl
  | cons a l ih =>
    intro n h
    cases n with
    | zero => simp at h
    | succ n => exact ih n (by simpa using h)
theorem mi_hi {y : Nat} (h : 186 ≤ y) : mi? y = none := by
  unfold mi?
  by_cases h2 : y / 16 = 11
  · rw [h2]
    have h3 : y % 16 = 10 ∨ y % 16 = 11 ∨ y % 16 = 12 ∨ y % 16 = 13 ∨ y % 16 = 14 ∨ y % 16 = 15 := by omega
    rcases h3 with h3 | h3 | h3 | h3 | h3 | h3 <;> rw [h3] <;> rfl
  · rw [nth_ge mis (y / 16) (by show 12 ≤ _; omega)]
    rfl
theorem fetch_hi {y : Nat} (h : 186 ≤ y) (i : Nat) : fetch y i = none := by
  unfold fetch
  by_cases h2 : y / 16 = 11
  · rw [h2]
    have h3 : y % 16 = 10 ∨ y % 16 = 11 ∨ y % 16 = 12 ∨ y % 16 = 13 ∨ y % 16 = 14 ∨ y % 16 = 15 := by omega
    rcases h3 with h3 | h3 | h3 | h3 | h3 | h3 <;> rw [h3] <;> rfl
  · rw [nth_ge mtab (y / 16) (by show 12 ≤ _; omega)]
    rfl
theorem chk_all (y i : Nat) : chk y i = true := by
  rcases Nat.lt_or_ge y 186 with h | h
  · exact cz185 y h i
  · exact chk_none (fetch_hi h i)
theorem qo_all (y : Nat) : qo y 0 = 0 := by
  rcases Nat.lt_or_ge y 186 with h | h
  · have h1 : ∀ y, y < 186 → qo y 0 = 0 := by decide +kernel
    exact h1 y h
  · unfold qo
    rw [fetch_hi h]
def rkOf : Option MI → Nat
  | none => 1
  | some t => t.2.2.2.2.2.2.1
theorem rk_all (y : Nat) (t : MI) (ht : mi? y = some t) : 1 ≤ t.2.2.2.2.2.2.1 := by
  rcases Nat.lt_or_ge y 186 with h | h
  · have h1 : ∀ y, y < 186 → 1 ≤ rkOf (mi? y) := by decide +kernel
    have h2 := h1 y h
    rw [ht] at h2
    exact h2
  · rw [mi_hi h] at ht; cases ht
theorem cls_all : clsP := by
  intro a C T N h
  match a, h with
  | 0, h => cases h; exact ⟨by decide +kernel, qy0, by decide +kernel, by decide +kernel⟩
  | 1, h => cases h; exact ⟨by decide +kernel, qy1, by decide +kernel, by decide +kernel⟩
  | 2, h => cases h; exact ⟨by decide +kernel, qy2, by decide +kernel, by decide +kernel⟩
  | 3, h => cases h; exact ⟨by decide +kernel, qy3, by decide +kernel, by decide +kernel⟩
  | 4, h => cases h; exact ⟨by decide +kernel, qy4, by decide +kernel, by decide +kernel⟩
  | 5, h => cases h; exact ⟨by decide +kernel, qy5, by decide +kernel, by decide +kernel⟩
  | n + 6, h => cases h
end
section
/-! the words of the methods that are called -/
set_option maxRecDepth 50000 in
theorem mo0 : mokP mi0_ := ⟨inTT (p := 581) rfl rfl, (fun _ => inTT (p := 580) rfl rfl), (fun h => absurd h (by decide)), inTT (p := 71) rfl rfl, by decide, by decide, by decide +kernel, by decide +kernel, by decide⟩
set_option maxRecDepth 50000 in
theorem mo1 : mokP mi1 := ⟨inTT (p := 359) rfl rfl, (fun h => absurd h (by decide)), (fun _ => ⟨inTT (p := 357) rfl rfl, inTT (p := 358) rfl rfl⟩), inTT (p := 67) rfl rfl, by decide, by decide, by decide +kernel, by decide +kernel, by decide⟩
set_option maxRecDepth 50000 in
theorem mo2 : mokP mi2 := ⟨inTT (p := 363) rfl rfl, (fun h => absurd h (by decide)), (fun _ => ⟨inTT (p := 361) rfl rfl, inTT (p := 362) rfl rfl⟩), inTT (p := 67) rfl rfl, by decide, by decide, by decide +kernel, by decide +kernel, by decide⟩
set_option maxRecDepth 50000 in
theorem mo3 : mokP mi3 := ⟨inTT (p := 373) rfl rfl, (fun h => absurd h (by decide)), (fun _ => ⟨inTT (p := 371) rfl rfl, inTT (p := 372) rfl rfl⟩), inTT (p := 67) rfl rfl, by decide, by decide, by decide +kernel, by decide +kernel, by decide⟩
set_option maxRecDepth 50000 in
theorem mo4 : mokP mi4 := ⟨inTT (p := 369) rfl rfl, (fun h => absurd h (by decide)), (fun _ => ⟨inTT (p := 367) rfl rfl, inTT (p := 368) rfl rfl⟩), inTT (p := 67) rfl rfl, by decide, by decide, by decide +kernel, by decide +kernel, by decide⟩
set_option maxRecDepth 50000 in
theorem mo5 : mokP mi5 := ⟨inTT (p := 379) rfl rfl, (fun _ => inTT (p := 378) rfl rfl), (fun h => absurd h (by decide)), inTT (p := 67) rfl rfl, by decide, by decide, by decide +kernel, by decide +kernel, by decide⟩
set_option maxRecDepth 50000 in
theorem mo6 : mokP mi6 := ⟨inTT (p := 376) rfl rfl, (fun _ => inTT (p := 375) rfl rfl), (fun h => absurd h (by decide)), inTT (p := 68) rfl rfl, by decide, by decide, by decide +kernel, by decide +kernel, by decide⟩
set_option maxRecDepth 50000 in
theorem mo7 : mokP mi7 := ⟨inTT (p := 384) rfl rfl, (fun _ => inTT (p := 383) rfl rfl), (fun h => absurd h (by decide)), inTT (p := 69) rfl rfl, by decide, by decide, by decide +kernel, by decide +kernel, by decide⟩
set_option maxRecDepth 50000 in
theorem mo8 : mokP mi8 := ⟨inTT (p := 338) rfl rfl, (fun h => absurd h (by decide)), (fun _ => ⟨inTT (p := 336) rfl rfl, inTT (p := 337) rfl rfl⟩), inTT (p := 62) rfl rfl, by decide, by decide, by decide +kernel, by decide +kernel, by decide⟩
set_option maxRecDepth 50000 in
theorem mo9 : mokP mi9 := ⟨inTT (p := 432) rfl rfl, (fun h => absurd h (by decide)), (fun _ => ⟨inTT (p := 431) rfl rfl, inTT (p := 6) rfl rfl⟩), inTT (p := 62) rfl rfl, by decide, by decide, by decide +kernel, by decide +kernel, by decide⟩
set_option maxRecDepth 50000 in
theorem mo10 : mokP mi10 := ⟨inTT (p := 428) rfl rfl, (fun h => absurd h (by decide)), (fun _ => ⟨inTT (p := 427) rfl rfl, inTT (p := 5) rfl rfl⟩), inTT (p := 62) rfl rfl, by decide, by decide, by decide +kernel, by decide +kernel, by decide⟩
set_option maxRecDepth 50000 in
theorem mo11 : mokP mi11 := ⟨inTT (p := 464) rfl rfl, (fun h => absurd h (by decide)), (fun _ => ⟨inTT (p := 463) rfl rfl, inTT (p := 14) rfl rfl⟩), inTT (p := 62) rfl rfl, by decide, by decide, by decide +kernel, by decide +kernel, by decide⟩
set_option maxRecDepth 50000 in
theorem mo12 : mokP mi12 := ⟨inTT (p := 436) rfl rfl, (fun h => absurd h (by decide)), (fun _ => ⟨inTT (p := 435) rfl rfl, inTT (p := 7) rfl rfl⟩), inTT (p := 62) rfl rfl, by decide, by decide, by decide +kernel, by decide +kernel, by decide⟩
set_option maxRecDepth 50000 in
theorem mo13 : mokP mi13 := ⟨inTT (p := 440) rfl rfl, (fun h => absurd h (by decide)), (fun _ => ⟨inTT (p := 439) rfl rfl, inTT (p := 8) rfl rfl⟩), inTT (p := 62) rfl rfl, by decide, by decide, by decide +kernel, by decide +kernel, by decide⟩
set_option maxRecDepth 50000 in
theorem mo14 : mokP mi14 := ⟨inTT (p := 444) rfl rfl, (fun h => absurd h (by decide)), (fun _ => ⟨inTT (p := 443) rfl rfl, inTT (p := 9) rfl rfl⟩), inTT (p := 62) rfl rfl, by decide, by decide, by decide +kernel, by decide +kernel, by decide⟩
set_option maxRecDepth 50000 in
theorem mo15 : mokP mi15 := ⟨inTT (p := 448) rfl rfl, (fun h => absurd h (by decide)), (fun _ => ⟨inTT (p := 447) rfl rfl, inTT (p := 10) rfl rfl⟩), inTT (p := 62) rfl rfl, by decide, by decide, by decide +kernel, by decide +kernel, by decide⟩
set_option maxRecDepth 50000 in
theorem mo16 : mokP mi16 := ⟨inTT (p := 452) rfl rfl, (fun h => absurd h (by decide)), (fun _ => ⟨inTT (p := 451) rfl rfl, inTT (p := 11) rfl rfl⟩), inTT (p := 62) rfl rfl, by decide, by decide, by decide +kernel, by decide +kernel, by decide⟩
set_option maxRecDepth 50000 in
theorem mo17 : mokP mi17 := ⟨inTT (p := 456) rfl rfl, (fun h => absurd h (by decide)), (fun _ => ⟨inTT (p := 455) rfl rfl, inTT (p := 12) rfl rfl⟩), inTT (p := 62) rfl rfl, by decide, by decide, by decide +kernel, by decide +kernel, by decide⟩
set_option maxRecDepth 50000 in
theorem mo18 : mokP mi18 := ⟨inTT (p := 460) rfl rfl, (fun h => absurd h (by decide)), (fun _ => ⟨inTT (p := 459) rfl rfl, inTT (p := 13) rfl rfl⟩), inTT (p := 62) rfl rfl, by decide, by decide, by decide +kernel, by decide +kernel, by decide⟩
set_option maxRecDepth 50000 in
theorem mo19 : mokP mi19 := ⟨inTT (p := 343) rfl rfl, (fun h => absurd h (by decide)), (fun _ => ⟨inTT (p := 342) rfl rfl, inTT (p := 1) rfl rfl⟩), inTT (p := 62) rfl rfl, by decide, by decide, by decide +kernel, by decide +kernel, by decide⟩
set_option maxRecDepth 50000 in
theorem mo20 : mokP mi20 := ⟨inTT (p := 350) rfl rfl, (fun h => absurd h (by decide)), (fun _ => ⟨inTT (p := 349) rfl rfl, inTT (p := 2) rfl rfl⟩), inTT (p := 62) rfl rfl, by decide, by decide, by decide +kernel, by decide +kernel, by decide⟩
set_option maxRecDepth 50000 in
theorem mo21 : mokP mi21 := ⟨inTT (p := 355) rfl rfl, (fun h => absurd h (by decide)), (fun _ => ⟨inTT (p := 354) rfl rfl, inTT (p := 3) rfl rfl⟩), inTT (p := 62) rfl rfl, by decide, by decide, by decide +kernel, by decide +kernel, by decide⟩
set_option maxRecDepth 50000 in
theorem mo22 : mokP mi22 := ⟨inTT (p := 421) rfl rfl, (fun h => absurd h (by decide)), (fun _ => ⟨inTT (p := 420) rfl rfl, inTT (p := 4) rfl rfl⟩), inTT (p := 62) rfl rfl, by decide, by decide, by decide +kernel, by decide +kernel, by decide⟩
set_option maxRecDepth 50000 in
theorem mo23 : mokP mi23 := ⟨inTT (p := 346) rfl rfl, (fun _ => inTT (p := 345) rfl rfl), (fun h => absurd h (by decide)), inTT (p := 62) rfl rfl, by decide, by decide, by decide +kernel, by decide +kernel, by decide⟩
set_option maxRecDepth 50000 in
theorem mo24 : mokP mi24 := ⟨inTT (p := 417) rfl rfl, (fun _ => inTT (p := 416) rfl rfl), (fun h => absurd h (by decide)), inTT (p := 62) rfl rfl, by decide, by decide, by decide +kernel, by decide +kernel, by decide⟩
set_option maxRecDepth 50000 in
theorem mo25 : mokP mi25 := ⟨inTT (p := 424) rfl rfl, (fun _ => inTT (p := 423) rfl rfl), (fun h => absurd h (by decide)), inTT (p := 62) rfl rfl, by decide, by decide, by decide +kernel, by decide +kernel, by decide⟩
set_option maxRecDepth 50000 in
theorem mo26 : mokP mi26 := ⟨inTT (p := 617) rfl rfl, (fun h => absurd h (by decide)), (fun _ => ⟨inTT (p := 615) rfl rfl, inTT (p := 616) rfl rfl⟩), inTT (p := 64) rfl rfl, by decide, by decide, by decide +kernel, by decide +kernel, by decide⟩
set_option maxRecDepth 50000 in
theorem mo27 : mokP mi27 := ⟨inTT (p := 701) rfl rfl, (fun h => absurd h (by decide)), (fun _ => ⟨inTT (p := 699) rfl rfl, inTT (p := 700) rfl rfl⟩), inTT (p := 64) rfl rfl, by decide, by decide, by decide +kernel, by decide +kernel, by decide⟩
set_option maxRecDepth 50000 in
theorem mo28 : mokP mi28 := ⟨inTT (p := 653) rfl rfl, (fun h => absurd h (by decide)), (fun _ => ⟨inTT (p := 651) rfl rfl, inTT (p := 652) rfl rfl⟩), inTT (p := 64) rfl rfl, by decide, by decide, by decide +kernel, by decide +kernel, by decide⟩
set_option maxRecDepth 50000 in
theorem mo29 : mokP mi29 := ⟨inTT (p := 625) rfl rfl, (fun h => absurd h (by decide)), (fun _ => ⟨inTT (p := 623) rfl rfl, inTT (p := 624) rfl rfl⟩), inTT (p := 64) rfl rfl, by decide, by decide, by decide +kernel, by decide +kernel, by decide⟩
set_option maxRecDepth 50000 in
theorem mo30 : mokP mi30 := ⟨inTT (p := 657) rfl rfl, (fun h => absurd h (by decide)), (fun _ => ⟨inTT (p := 655) rfl rfl, inTT (p := 656) rfl rfl⟩), inTT (p := 64) rfl rfl, by decide, by decide, by decide +kernel, by decide +kernel, by decide⟩
set_option maxRecDepth 50000 in
theorem mo31 : mokP mi31 := ⟨inTT (p := 705) rfl rfl, (fun h => absurd h (by decide)), (fun _ => ⟨inTT (p := 703) rfl rfl, inTT (p := 704) rfl rfl⟩), inTT (p := 64) rfl rfl, by decide, by decide, by decide +kernel, by decide +kernel, by decide⟩
set_option maxRecDepth 50000 in
theorem mo32 : mokP mi32 := ⟨inTT (p := 544) rfl rfl, (fun h => absurd h (by decide)), (fun _ => ⟨inTT (p := 542) rfl rfl, inTT (p := 543) rfl rfl⟩), inTT (p := 63) rfl rfl, by decide, by decide, by decide +kernel, by decide +kernel, by decide⟩
set_option maxRecDepth 50000 in
theorem mo33 : mokP mi33 := ⟨inTT (p := 477) rfl rfl, (fun h => absurd h (by decide)), (fun _ => ⟨inTT (p := 475) rfl rfl, inTT (p := 476) rfl rfl⟩), inTT (p := 63) rfl rfl, by decide, by decide, by decide +kernel, by decide +kernel, by decide⟩
set_option maxRecDepth 50000 in
theorem mo34 : mokP mi34 := ⟨inTT (p := 486) rfl rfl, (fun h => absurd h (by decide)), (fun _ => ⟨inTT (p := 484) rfl rfl, inTT (p := 485) rfl rfl⟩), inTT (p := 63) rfl rfl, by decide, by decide, by decide +kernel, by decide +kernel, by decide⟩
set_option maxRecDepth 50000 in
theorem mo35 : mokP mi35 := ⟨inTT (p := 275) rfl rfl, (fun h => absurd h (by decide)), (fun _ => ⟨inTT (p := 273) rfl rfl, inTT (p := 274) rfl rfl⟩), inTT (p := 63) rfl rfl, by decide, by decide, by decide +kernel, by decide +kernel, by decide⟩
set_option maxRecDepth 50000 in
theorem mo36 : mokP mi36 := ⟨inTT (p := 319) rfl rfl, (fun h => absurd h (by decide)), (fun _ => ⟨inTT (p := 317) rfl rfl, inTT (p := 318) rfl rfl⟩), inTT (p := 63) rfl rfl, by decide, by decide, by decide +kernel, by decide +kernel, by decide⟩
set_option maxRecDepth 50000 in
theorem mo37 : mokP mi37 := ⟨inTT (p := 271) rfl rfl, (fun h => absurd h (by decide)), (fun _ => ⟨inTT (p := 269) rfl rfl, inTT (p := 270) rfl rfl⟩), inTT (p := 63) rfl rfl, by decide, by decide, by decide +kernel, by decide +kernel, by decide⟩
set_option maxRecDepth 50000 in
theorem mo38 : mokP mi38 := ⟨inTT (p := 509) rfl rfl, (fun h => absurd h (by decide)), (fun _ => ⟨inTT (p := 507) rfl rfl, inTT (p := 508) rfl rfl⟩), inTT (p := 63) rfl rfl, by decide, by decide, by decide +kernel, by decide +kernel, by decide⟩
set_option maxRecDepth 50000 in
theorem mo39 : mokP mi39 := ⟨inTT (p := 596) rfl rfl, (fun h => absurd h (by decide)), (fun _ => ⟨inTT (p := 594) rfl rfl, inTT (p := 595) rfl rfl⟩), inTT (p := 63) rfl rfl, by decide, by decide, by decide +kernel, by decide +kernel, by decide⟩
set_option maxRecDepth 50000 in
theorem mo40 : mokP mi40 := ⟨inTT (p := 279) rfl rfl, (fun h => absurd h (by decide)), (fun _ => ⟨inTT (p := 277) rfl rfl, inTT (p := 278) rfl rfl⟩), inTT (p := 63) rfl rfl, by decide, by decide, by decide +kernel, by decide +kernel, by decide⟩
set_option maxRecDepth 50000 in
theorem mo41 : mokP mi41 := ⟨inTT (p := 303) rfl rfl, (fun h => absurd h (by decide)), (fun _ => ⟨inTT (p := 301) rfl rfl, inTT (p := 302) rfl rfl⟩), inTT (p := 63) rfl rfl, by decide, by decide, by decide +kernel, by decide +kernel, by decide⟩
set_option maxRecDepth 50000 in
theorem mo42 : mokP mi42 := ⟨inTT (p := 504) rfl rfl, (fun h => absurd h (by decide)), (fun _ => ⟨inTT (p := 502) rfl rfl, inTT (p := 503) rfl rfl⟩), inTT (p := 63) rfl rfl, by decide, by decide, by decide +kernel, by decide +kernel, by decide⟩
set_option maxRecDepth 50000 in
theorem mo43 : mokP mi43 := ⟨inTT (p := 267) rfl rfl, (fun h => absurd h (by decide)), (fun _ => ⟨inTT (p := 265) rfl rfl, inTT (p := 266) rfl rfl⟩), inTT (p := 63) rfl rfl, by decide, by decide, by decide +kernel, by decide +kernel, by decide⟩
set_option maxRecDepth 50000 in
theorem mo44 : mokP mi44 := ⟨inTT (p := 528) rfl rfl, (fun h => absurd h (by decide)), (fun _ => ⟨inTT (p := 526) rfl rfl, inTT (p := 527) rfl rfl⟩), inTT (p := 63) rfl rfl, by decide, by decide, by decide +kernel, by decide +kernel, by decide⟩
set_option maxRecDepth 50000 in
theorem mo45 : mokP mi45 := ⟨inTT (p := 518) rfl rfl, (fun h => absurd h (by decide)), (fun _ => ⟨inTT (p := 516) rfl rfl, inTT (p := 517) rfl rfl⟩), inTT (p := 63) rfl rfl, by decide, by decide, by decide +kernel, by decide +kernel, by decide⟩
set_option maxRecDepth 50000 in
theorem mo46 : mokP mi46 := ⟨inTT (p := 523) rfl rfl, (fun h => absurd h (by decide)), (fun _ => ⟨inTT (p := 521) rfl rfl, inTT (p := 522) rfl rfl⟩), inTT (p := 63) rfl rfl, by decide, by decide, by decide +kernel, by decide +kernel, by decide⟩
set_option maxRecDepth 50000 in
theorem mo47 : mokP mi47 := ⟨inTT (p := 307) rfl rfl, (fun h => absurd h (by decide)), (fun _ => ⟨inTT (p := 305) rfl rfl, inTT (p := 306) rfl rfl⟩), inTT (p := 63) rfl rfl, by decide, by decide, by decide +kernel, by decide +kernel, by decide⟩
set_option maxRecDepth 50000 in
theorem mo48 : mokP mi48 := ⟨inTT (p := 311) rfl rfl, (fun h => absurd h (by decide)), (fun _ => ⟨inTT (p := 309) rfl rfl, inTT (p := 310) rfl rfl⟩), inTT (p := 63) rfl rfl, by decide, by decide, by decide +kernel, by decide +kernel, by decide⟩
set_option maxRecDepth 50000 in
theorem mo49 : mokP mi49 := ⟨inTT (p := 315) rfl rfl, (fun h => absurd h (by decide)), (fun _ => ⟨inTT (p := 313) rfl rfl, inTT (p := 314) rfl rfl⟩), inTT (p := 63) rfl rfl, by decide, by decide, by decide +kernel, by decide +kernel, by decide⟩
set_option maxRecDepth 50000 in
theorem mo50 : mokP mi50 := ⟨inTT (p := 287) rfl rfl, (fun h => absurd h (by decide)), (fun _ => ⟨inTT (p := 285) rfl rfl, inTT (p := 286) rfl rfl⟩), inTT (p := 63) rfl rfl, by decide, by decide, by decide +kernel, by decide +kernel, by decide⟩
set_option maxRecDepth 50000 in
theorem mo51 : mokP mi51 := ⟨inTT (p := 220) rfl rfl, (fun h => absurd h (by decide)), (fun _ => ⟨inTT (p := 218) rfl rfl, inTT (p := 219) rfl rfl⟩), inTT (p := 61) rfl rfl, by decide, by decide, by decide +kernel, by decide +kernel, by decide⟩
set_option maxRecDepth 50000 in
theorem mo52 : mokP mi52 := ⟨inTT (p := 283) rfl rfl, (fun h => absurd h (by decide)), (fun _ => ⟨inTT (p := 281) rfl rfl, inTT (p := 282) rfl rfl⟩), inTT (p := 61) rfl rfl, by decide, by decide, by decide +kernel, by decide +kernel, by decide⟩
set_option maxRecDepth 50000 in
theorem mo53 : mokP mi53 := ⟨inTT (p := 290) rfl rfl, (fun _ => inTT (p := 289) rfl rfl), (fun h => absurd h (by decide)), inTT (p := 61) rfl rfl, by decide, by decide, by decide +kernel, by decide +kernel, by decide⟩
set_option maxRecDepth 50000 in
theorem mo54 : mokP mi54 := ⟨inTT (p := 252) rfl rfl, (fun h => absurd h (by decide)), (fun _ => ⟨inTT (p := 250) rfl rfl, inTT (p := 251) rfl rfl⟩), inTT (p := 60) rfl rfl, by decide, by decide, by decide +kernel, by decide +kernel, by decide⟩
set_option maxRecDepth 50000 in
theorem mo55 : mokP mi55 := ⟨inTT (p := 256) rfl rfl, (fun h => absurd h (by decide)), (fun _ => ⟨inTT (p := 254) rfl rfl, inTT (p := 255) rfl rfl⟩), inTT (p := 60) rfl rfl, by decide, by decide, by decide +kernel, by decide +kernel, by decide⟩
set_option maxRecDepth 50000 in
theorem mo56 : mokP mi56 := ⟨inTT (p := 263) rfl rfl, (fun h => absurd h (by decide)), (fun _ => ⟨inTT (p := 261) rfl rfl, inTT (p := 262) rfl rfl⟩), inTT (p := 60) rfl rfl, by decide, by decide, by decide +kernel, by decide +kernel, by decide⟩
set_option maxRecDepth 50000 in
theorem mo57 : mokP mi57 := ⟨inTT (p := 323) rfl rfl, (fun h => absurd h (by decide)), (fun _ => ⟨inTT (p := 321) rfl rfl, inTT (p := 322) rfl rfl⟩), inTT (p := 60) rfl rfl, by decide, by decide, by decide +kernel, by decide +kernel, by decide⟩
set_option maxRecDepth 50000 in
theorem mo58 : mokP mi58 := ⟨inTT (p := 334) rfl rfl, (fun h => absurd h (by decide)), (fun _ => ⟨inTT (p := 332) rfl rfl, inTT (p := 333) rfl rfl⟩), inTT (p := 60) rfl rfl, by decide, by decide, by decide +kernel, by decide +kernel, by decide⟩
set_option maxRecDepth 50000 in
theorem mo59 : mokP mi59 := ⟨inTT (p := 469) rfl rfl, (fun h => absurd h (by decide)), (fun _ => ⟨inTT (p := 467) rfl rfl, inTT (p := 468) rfl rfl⟩), inTT (p := 60) rfl rfl, by decide, by decide, by decide +kernel, by decide +kernel, by decide⟩
set_option maxRecDepth 50000 in
theorem mo60 : mokP mi60 := ⟨inTT (p := 473) rfl rfl, (fun h => absurd h (by decide)), (fun _ => ⟨inTT (p := 471) rfl rfl, inTT (p := 472) rfl rfl⟩), inTT (p := 60) rfl rfl, by decide, by decide, by decide +kernel, by decide +kernel, by decide⟩
set_option maxRecDepth 50000 in
theorem mo61 : mokP mi61 := ⟨inTT (p := 482) rfl rfl, (fun h => absurd h (by decide)), (fun _ => ⟨inTT (p := 480) rfl rfl, inTT (p := 481) rfl rfl⟩), inTT (p := 60) rfl rfl, by decide, by decide, by decide +kernel, by decide +kernel, by decide⟩
set_option maxRecDepth 50000 in
theorem mo62 : mokP mi62 := ⟨inTT (p := 491) rfl rfl, (fun h => absurd h (by decide)), (fun _ => ⟨inTT (p := 489) rfl rfl, inTT (p := 490) rfl rfl⟩), inTT (p := 60) rfl rfl, by decide, by decide, by decide +kernel, by decide +kernel, by decide⟩
set_option maxRecDepth 50000 in
theorem mo63 : mokP mi63 := ⟨inTT (p := 498) rfl rfl, (fun h => absurd h (by decide)), (fun _ => ⟨inTT (p := 496) rfl rfl, inTT (p := 497) rfl rfl⟩), inTT (p := 60) rfl rfl, by decide, by decide, by decide +kernel, by decide +kernel, by decide⟩
set_option maxRecDepth 50000 in
theorem mo64 : mokP mi64 := ⟨inTT (p := 514) rfl rfl, (fun h => absurd h (by decide)), (fun _ => ⟨inTT (p := 512) rfl rfl, inTT (p := 513) rfl rfl⟩), inTT (p := 60) rfl rfl, by decide, by decide, by decide +kernel, by decide +kernel, by decide⟩
set_option maxRecDepth 50000 in
theorem mo65 : mokP mi65 := ⟨inTT (p := 533) rfl rfl, (fun h => absurd h (by decide)), (fun _ => ⟨inTT (p := 531) rfl rfl, inTT (p := 532) rfl rfl⟩), inTT (p := 60) rfl rfl, by decide, by decide, by decide +kernel, by decide +kernel, by decide⟩
set_option maxRecDepth 50000 in
theorem mo66 : mokP mi66 := ⟨inTT (p := 538) rfl rfl, (fun h => absurd h (by decide)), (fun _ => ⟨inTT (p := 536) rfl rfl, inTT (p := 537) rfl rfl⟩), inTT (p := 60) rfl rfl, by decide, by decide, by decide +kernel, by decide +kernel, by decide⟩
set_option maxRecDepth 50000 in
theorem mo67 : mokP mi67 := ⟨inTT (p := 548) rfl rfl, (fun h => absurd h (by decide)), (fun _ => ⟨inTT (p := 546) rfl rfl, inTT (p := 547) rfl rfl⟩), inTT (p := 60) rfl rfl, by decide, by decide, by decide +kernel, by decide +kernel, by decide⟩
set_option maxRecDepth 50000 in
theorem mo68 : mokP mi68 := ⟨inTT (p := 553) rfl rfl, (fun h => absurd h (by decide)), (fun _ => ⟨inTT (p := 551) rfl rfl, inTT (p := 552) rfl rfl⟩), inTT (p := 60) rfl rfl, by decide, by decide, by decide +kernel, by decide +kernel, by decide⟩
set_option maxRecDepth 50000 in
theorem mo69 : mokP mi69 := ⟨inTT (p := 562) rfl rfl, (fun h => absurd h (by decide)), (fun _ => ⟨inTT (p := 560) rfl rfl, inTT (p := 561) rfl rfl⟩), inTT (p := 60) rfl rfl, by decide, by decide, by decide +kernel, by decide +kernel, by decide⟩
set_option maxRecDepth 50000 in
theorem mo70 : mokP mi70 := ⟨inTT (p := 570) rfl rfl, (fun h => absurd h (by decide)), (fun _ => ⟨inTT (p := 568) rfl rfl, inTT (p := 569) rfl rfl⟩), inTT (p := 60) rfl rfl, by decide, by decide, by decide +kernel, by decide +kernel, by decide⟩
set_option maxRecDepth 50000 in
theorem mo71 : mokP mi71 := ⟨inTT (p := 578) rfl rfl, (fun h => absurd h (by decide)), (fun _ => ⟨inTT (p := 576) rfl rfl, inTT (p := 577) rfl rfl⟩), inTT (p := 60) rfl rfl, by decide, by decide, by decide +kernel, by decide +kernel, by decide⟩
set_option maxRecDepth 50000 in
theorem mo72 : mokP mi72 := ⟨inTT (p := 592) rfl rfl, (fun h => absurd h (by decide)), (fun _ => ⟨inTT (p := 590) rfl rfl, inTT (p := 591) rfl rfl⟩), inTT (p := 60) rfl rfl, by decide, by decide, by decide +kernel, by decide +kernel, by decide⟩
set_option maxRecDepth 50000 in
theorem mo73 : mokP mi73 := ⟨inTT (p := 600) rfl rfl, (fun h => absurd h (by decide)), (fun _ => ⟨inTT (p := 598) rfl rfl, inTT (p := 599) rfl rfl⟩), inTT (p := 60) rfl rfl, by decide, by decide, by decide +kernel, by decide +kernel, by decide⟩
set_option maxRecDepth 50000 in
theorem mo74 : mokP mi74 := ⟨inTT (p := 609) rfl rfl, (fun h => absurd h (by decide)), (fun _ => ⟨inTT (p := 607) rfl rfl, inTT (p := 608) rfl rfl⟩), inTT (p := 60) rfl rfl, by decide, by decide, by decide +kernel, by decide +kernel, by decide⟩
set_option maxRecDepth 50000 in
theorem mo75 : mokP mi75 := ⟨inTT (p := 629) rfl rfl, (fun h => absurd h (by decide)), (fun _ => ⟨inTT (p := 627) rfl rfl, inTT (p := 628) rfl rfl⟩), inTT (p := 60) rfl rfl, by decide, by decide, by decide +kernel, by decide +kernel, by decide⟩
set_option maxRecDepth 50000 in
theorem mo76 : mokP mi76 := ⟨inTT (p := 633) rfl rfl, (fun h => absurd h (by decide)), (fun _ => ⟨inTT (p := 631) rfl rfl, inTT (p := 632) rfl rfl⟩), inTT (p := 60) rfl rfl, by decide, by decide, by decide +kernel, by decide +kernel, by decide⟩
set_option maxRecDepth 50000 in
theorem mo77 : mokP mi77 := ⟨inTT (p := 637) rfl rfl, (fun h => absurd h (by decide)), (fun _ => ⟨inTT (p := 635) rfl rfl, inTT (p := 636) rfl rfl⟩), inTT (p := 60) rfl rfl, by decide, by decide, by decide +kernel, by decide +kernel, by decide⟩
set_option maxRecDepth 50000 in
theorem mo78 : mokP mi78 := ⟨inTT (p := 641) rfl rfl, (fun h => absurd h (by decide)), (fun _ => ⟨inTT (p := 639) rfl rfl, inTT (p := 640) rfl rfl⟩), inTT (p := 60) rfl rfl, by decide, by decide, by decide +kernel, by decide +kernel, by decide⟩
set_option maxRecDepth 50000 in
theorem mo79 : mokP mi79 := ⟨inTT (p := 645) rfl rfl, (fun h => absurd h (by decide)), (fun _ => ⟨inTT (p := 643) rfl rfl, inTT (p := 644) rfl rfl⟩), inTT (p := 60) rfl rfl, by decide, by decide, by decide +kernel, by decide +kernel, by decide⟩
set_option maxRecDepth 50000 in
theorem mo80 : mokP mi80 := ⟨inTT (p := 649) rfl rfl, (fun h => absurd h (by decide)), (fun _ => ⟨inTT (p := 647) rfl rfl, inTT (p := 648) rfl rfl⟩), inTT (p := 60) rfl rfl, by decide, by decide, by decide +kernel, by decide +kernel, by decide⟩
set_option maxRecDepth 50000 in
theorem mo81 : mokP mi81 := ⟨inTT (p := 661) rfl rfl, (fun h => absurd h (by decide)), (fun _ => ⟨inTT (p := 659) rfl rfl, inTT (p := 660) rfl rfl⟩), inTT (p := 60) rfl rfl, by decide, by decide, by decide +kernel, by decide +kernel, by decide⟩
set_option maxRecDepth 50000 in
theorem mo82 : mokP mi82 := ⟨inTT (p := 677) rfl rfl, (fun h => absurd h (by decide)), (fun _ => ⟨inTT (p := 675) rfl rfl, inTT (p := 676) rfl rfl⟩), inTT (p := 60) rfl rfl, by decide, by decide, by decide +kernel, by decide +kernel, by decide⟩
set_option maxRecDepth 50000 in
theorem mo83 : mokP mi83 := ⟨inTT (p := 681) rfl rfl, (fun h => absurd h (by decide)), (fun _ => ⟨inTT (p := 679) rfl rfl, inTT (p := 680) rfl rfl⟩), inTT (p := 60) rfl rfl, by decide, by decide, by decide +kernel, by decide +kernel, by decide⟩
set_option maxRecDepth 50000 in
theorem mo84 : mokP mi84 := ⟨inTT (p := 685) rfl rfl, (fun h => absurd h (by decide)), (fun _ => ⟨inTT (p := 683) rfl rfl, inTT (p := 684) rfl rfl⟩), inTT (p := 60) rfl rfl, by decide, by decide, by decide +kernel, by decide +kernel, by decide⟩
set_option maxRecDepth 50000 in
theorem mo85 : mokP mi85 := ⟨inTT (p := 689) rfl rfl, (fun h => absurd h (by decide)), (fun _ => ⟨inTT (p := 687) rfl rfl, inTT (p := 688) rfl rfl⟩), inTT (p := 60) rfl rfl, by decide, by decide, by decide +kernel, by decide +kernel, by decide⟩
set_option maxRecDepth 50000 in
theorem mo86 : mokP mi86 := ⟨inTT (p := 693) rfl rfl, (fun h => absurd h (by decide)), (fun _ => ⟨inTT (p := 691) rfl rfl, inTT (p := 692) rfl rfl⟩), inTT (p := 60) rfl rfl, by decide, by decide, by decide +kernel, by decide +kernel, by decide⟩
set_option maxRecDepth 50000 in
theorem mo87 : mokP mi87 := ⟨inTT (p := 697) rfl rfl, (fun h => absurd h (by decide)), (fun _ => ⟨inTT (p := 695) rfl rfl, inTT (p := 696) rfl rfl⟩), inTT (p := 60) rfl rfl, by decide, by decide, by decide +kernel, by decide +kernel, by decide⟩
set_option maxRecDepth 50000 in
theorem mo88 : mokP mi88 := ⟨inTT (p := 712) rfl rfl, (fun h => absurd h (by decide)), (fun _ => ⟨inTT (p := 710) rfl rfl, inTT (p := 711) rfl rfl⟩), inTT (p := 60) rfl rfl, by decide, by decide, by decide +kernel, by decide +kernel, by decide⟩
set_option maxRecDepth 50000 in
theorem mo89 : mokP mi89 := ⟨inTT (p := 717) rfl rfl, (fun h => absurd h (by decide)), (fun _ => ⟨inTT (p := 715) rfl rfl, inTT (p := 716) rfl rfl⟩), inTT (p := 60) rfl rfl, by decide, by decide, by decide +kernel, by decide +kernel, by decide⟩
set_option maxRecDepth 50000 in
theorem mo90 : mokP mi90 := ⟨inTT (p := 259) rfl rfl, (fun _ => inTT (p := 258) rfl rfl), (fun h => absurd h (by decide)), inTT (p := 60) rfl rfl, by decide, by decide, by decide +kernel, by decide +kernel, by decide⟩
set_option maxRecDepth 50000 in
theorem mo91 : mokP mi91 := ⟨inTT (p := 326) rfl rfl, (fun _ => inTT (p := 325) rfl rfl), (fun h => absurd h (by decide)), inTT (p := 60) rfl rfl, by decide, by decide, by decide +kernel, by decide +kernel, by decide⟩
set_option maxRecDepth 50000 in
theorem mo92 : mokP mi92 := ⟨inTT (p := 494) rfl rfl, (fun _ => inTT (p := 493) rfl rfl), (fun h => absurd h (by decide)), inTT (p := 60) rfl rfl, by decide, by decide, by decide +kernel, by decide +kernel, by decide⟩
set_option maxRecDepth 50000 in
theorem mo93 : mokP mi93 := ⟨inTT (p := 330) rfl rfl, (fun h => absurd h (by decide)), (fun _ => ⟨inTT (p := 329) rfl rfl, inTT (p := 0) rfl rfl⟩), inTT (p := 60) rfl rfl, by decide, by decide, by decide +kernel, by decide +kernel, by decide⟩
set_option maxRecDepth 50000 in
theorem mo94 : mokP mi94 := ⟨inTT (p := 720) rfl rfl, (fun _ => inTT (p := 719) rfl rfl), (fun h => absurd h (by decide)), inTT (p := 60) rfl rfl, by decide, by decide, by decide +kernel, by decide +kernel, by decide⟩
set_option maxRecDepth 50000 in
theorem mo95 : mokP mi95 := ⟨inTT (p := 557) rfl rfl, (fun h => absurd h (by decide)), (fun _ => ⟨inTT (p := 556) rfl rfl, inTT (p := 15) rfl rfl⟩), inTT (p := 60) rfl rfl, by decide, by decide, by decide +kernel, by decide +kernel, by decide⟩
set_option maxRecDepth 50000 in
theorem mo96 : mokP mi96 := ⟨inTT (p := 566) rfl rfl, (fun h => absurd h (by decide)), (fun _ => ⟨inTT (p := 565) rfl rfl, inTT (p := 16) rfl rfl⟩), inTT (p := 60) rfl rfl, by decide, by decide, by decide +kernel, by decide +kernel, by decide⟩
set_option maxRecDepth 50000 in
theorem mo97 : mokP mi97 := ⟨inTT (p := 574) rfl rfl, (fun h => absurd h (by decide)), (fun _ => ⟨inTT (p := 573) rfl rfl, inTT (p := 17) rfl rfl⟩), inTT (p := 60) rfl rfl, by decide, by decide, by decide +kernel, by decide +kernel, by decide⟩
set_option maxRecDepth 50000 in
theorem mo98 : mokP mi98 := ⟨inTT (p := 588) rfl rfl, (fun h => absurd h (by decide)), (fun _ => ⟨inTT (p := 587) rfl rfl, inTT (p := 18) rfl rfl⟩), inTT (p := 60) rfl rfl, by decide, by decide, by decide +kernel, by decide +kernel, by decide⟩
set_option maxRecDepth 50000 in
theorem mo99 : mokP mi99 := ⟨inTT (p := 613) rfl rfl, (fun h => absurd h (by decide)), (fun _ => ⟨inTT (p := 612) rfl rfl, inTT (p := 19) rfl rfl⟩), inTT (p := 60) rfl rfl, by decide, by decide, by decide +kernel, by decide +kernel, by decide⟩
set_option maxRecDepth 50000 in
theorem mo100 : mokP mi100 := ⟨inTT (p := 621) rfl rfl, (fun h => absurd h (by decide)), (fun _ => ⟨inTT (p := 620) rfl rfl, inTT (p := 20) rfl rfl⟩), inTT (p := 60) rfl rfl, by decide, by decide, by decide +kernel, by decide +kernel, by decide⟩
set_option maxRecDepth 50000 in
theorem mo101 : mokP mi101 := ⟨inTT (p := 666) rfl rfl, (fun h => absurd h (by decide)), (fun _ => ⟨inTT (p := 665) rfl rfl, inTT (p := 21) rfl rfl⟩), inTT (p := 60) rfl rfl, by decide, by decide, by decide +kernel, by decide +kernel, by decide⟩
set_option maxRecDepth 50000 in
theorem mo102 : mokP mi102 := ⟨inTT (p := 669) rfl rfl, (fun _ => inTT (p := 668) rfl rfl), (fun h => absurd h (by decide)), inTT (p := 60) rfl rfl, by decide, by decide, by decide +kernel, by decide +kernel, by decide⟩
set_option maxRecDepth 50000 in
theorem mo103 : mokP mi103 := ⟨inTT (p := 603) rfl rfl, (fun _ => inTT (p := 602) rfl rfl), (fun h => absurd h (by decide)), inTT (p := 60) rfl rfl, by decide, by decide, by decide +kernel, by decide +kernel, by decide⟩
set_option maxRecDepth 50000 in
theorem mo104 : mokP mi104 := ⟨inTT (p := 737) rfl rfl, (fun _ => inTT (p := 736) rfl rfl), (fun h => absurd h (by decide)), inTT (p := 65) rfl rfl, by decide, by decide, by decide +kernel, by decide +kernel, by decide⟩
set_option maxRecDepth 50000 in
theorem mo105 : mokP mi105 := ⟨inTT (p := 927) rfl rfl, (fun _ => inTT (p := 926) rfl rfl), (fun h => absurd h (by decide)), inTT (p := 65) rfl rfl, by decide, by decide, by decide +kernel, by decide +kernel, by decide⟩
set_option maxRecDepth 50000 in
theorem mo106 : mokP mi106 := ⟨inTT (p := 917) rfl rfl, (fun _ => inTT (p := 916) rfl rfl), (fun h => absurd h (by decide)), inTT (p := 65) rfl rfl, by decide, by decide, by decide +kernel, by decide +kernel, by decide⟩
set_option maxRecDepth 50000 in
theorem mo107 : mokP mi107 := ⟨inTT (p := 963) rfl rfl, (fun h => absurd h (by decide)), (fun _ => ⟨inTT (p := 962) rfl rfl, inTT (p := 44) rfl rfl⟩), inTT (p := 65) rfl rfl, by decide, by decide, by decide +kernel, by decide +kernel, by decide⟩
set_option maxRecDepth 50000 in
theorem mo108 : mokP mi108 := ⟨inTT (p := 898) rfl rfl, (fun h => absurd h (by decide)), (fun _ => ⟨inTT (p := 897) rfl rfl, inTT (p := 34) rfl rfl⟩), inTT (p := 65) rfl rfl, by decide, by decide, by decide +kernel, by decide +kernel, by decide⟩
set_option maxRecDepth 50000 in
theorem mo109 : mokP mi109 := ⟨inTT (p := 894) rfl rfl, (fun h => absurd h (by decide)), (fun _ => ⟨inTT (p := 893) rfl rfl, inTT (p := 33) rfl rfl⟩), inTT (p := 65) rfl rfl, by decide, by decide, by decide +kernel, by decide +kernel, by decide⟩
set_option maxRecDepth 50000 in
theorem mo110 : mokP mi110 := ⟨inTT (p := 914) rfl rfl, (fun h => absurd h (by decide)), (fun _ => ⟨inTT (p := 913) rfl rfl, inTT (p := 38) rfl rfl⟩), inTT (p := 65) rfl rfl, by decide, by decide, by decide +kernel, by decide +kernel, by decide⟩
set_option maxRecDepth 50000 in
theorem mo111 : mokP mi111 := ⟨inTT (p := 943) rfl rfl, (fun h => absurd h (by decide)), (fun _ => ⟨inTT (p := 942) rfl rfl, inTT (p := 43) rfl rfl⟩), inTT (p := 65) rfl rfl, by decide, by decide, by decide +kernel, by decide +kernel, by decide⟩
set_option maxRecDepth 50000 in
theorem mo112 : mokP mi112 := ⟨inTT (p := 939) rfl rfl, (fun h => absurd h (by decide)), (fun _ => ⟨inTT (p := 938) rfl rfl, inTT (p := 42) rfl rfl⟩), inTT (p := 65) rfl rfl, by decide, by decide, by decide +kernel, by decide +kernel, by decide⟩
set_option maxRecDepth 50000 in
theorem mo113 : mokP mi113 := ⟨inTT (p := 874) rfl rfl, (fun h => absurd h (by decide)), (fun _ => ⟨inTT (p := 872) rfl rfl, inTT (p := 873) rfl rfl⟩), inTT (p := 65) rfl rfl, by decide, by decide, by decide +kernel, by decide +kernel, by decide⟩
set_option maxRecDepth 50000 in
theorem mo114 : mokP mi114 := ⟨inTT (p := 878) rfl rfl, (fun h => absurd h (by decide)), (fun _ => ⟨inTT (p := 876) rfl rfl, inTT (p := 877) rfl rfl⟩), inTT (p := 65) rfl rfl, by decide, by decide, by decide +kernel, by decide +kernel, by decide⟩
set_option maxRecDepth 50000 in
theorem mo115 : mokP mi115 := ⟨inTT (p := 882) rfl rfl, (fun h => absurd h (by decide)), (fun _ => ⟨inTT (p := 880) rfl rfl, inTT (p := 881) rfl rfl⟩), inTT (p := 65) rfl rfl, by decide, by decide, by decide +kernel, by decide +kernel, by decide⟩
set_option maxRecDepth 50000 in
theorem mo116 : mokP mi116 := ⟨inTT (p := 950) rfl rfl, (fun _ => inTT (p := 949) rfl rfl), (fun h => absurd h (by decide)), inTT (p := 65) rfl rfl, by decide, by decide, by decide +kernel, by decide +kernel, by decide⟩
set_option maxRecDepth 50000 in
theorem mo117 : mokP mi117 := ⟨inTT (p := 947) rfl rfl, (fun h => absurd h (by decide)), (fun _ => ⟨inTT (p := 945) rfl rfl, inTT (p := 946) rfl rfl⟩), inTT (p := 65) rfl rfl, by decide, by decide, by decide +kernel, by decide +kernel, by decide⟩
set_option maxRecDepth 50000 in
theorem mo118 : mokP mi118 := ⟨inTT (p := 741) rfl rfl, (fun h => absurd h (by decide)), (fun _ => ⟨inTT (p := 740) rfl rfl, inTT (p := 23) rfl rfl⟩), inTT (p := 65) rfl rfl, by decide, by decide, by decide +kernel, by decide +kernel, by decide⟩
set_option maxRecDepth 50000 in
theorem mo119 : mokP mi119 := ⟨inTT (p := 734) rfl rfl, (fun h => absurd h (by decide)), (fun _ => ⟨inTT (p := 733) rfl rfl, inTT (p := 22) rfl rfl⟩), inTT (p := 65) rfl rfl, by decide, by decide, by decide +kernel, by decide +kernel, by decide⟩
set_option maxRecDepth 50000 in
theorem mo120 : mokP mi120 := ⟨inTT (p := 757) rfl rfl, (fun _ => inTT (p := 756) rfl rfl), (fun h => absurd h (by decide)), inTT (p := 65) rfl rfl, by decide, by decide, by decide +kernel, by decide +kernel, by decide⟩
set_option maxRecDepth 50000 in
theorem mo121 : mokP mi121 := ⟨inTT (p := 750) rfl rfl, (fun h => absurd h (by decide)), (fun _ => ⟨inTT (p := 749) rfl rfl, inTT (p := 25) rfl rfl⟩), inTT (p := 65) rfl rfl, by decide, by decide, by decide +kernel, by decide +kernel, by decide⟩
set_option maxRecDepth 50000 in
theorem mo122 : mokP mi122 := ⟨inTT (p := 754) rfl rfl, (fun h => absurd h (by decide)), (fun _ => ⟨inTT (p := 753) rfl rfl, inTT (p := 26) rfl rfl⟩), inTT (p := 65) rfl rfl, by decide, by decide, by decide +kernel, by decide +kernel, by decide⟩
set_option maxRecDepth 50000 in
theorem mo123 : mokP mi123 := ⟨inTT (p := 765) rfl rfl, (fun h => absurd h (by decide)), (fun _ => ⟨inTT (p := 764) rfl rfl, inTT (p := 28) rfl rfl⟩), inTT (p := 65) rfl rfl, by decide, by decide, by decide +kernel, by decide +kernel, by decide⟩
set_option maxRecDepth 50000 in
theorem mo124 : mokP mi124 := ⟨inTT (p := 761) rfl rfl, (fun h => absurd h (by decide)), (fun _ => ⟨inTT (p := 760) rfl rfl, inTT (p := 27) rfl rfl⟩), inTT (p := 65) rfl rfl, by decide, by decide, by decide +kernel, by decide +kernel, by decide⟩
set_option maxRecDepth 50000 in
theorem mo125 : mokP mi125 := ⟨inTT (p := 773) rfl rfl, (fun h => absurd h (by decide)), (fun _ => ⟨inTT (p := 772) rfl rfl, inTT (p := 30) rfl rfl⟩), inTT (p := 65) rfl rfl, by decide, by decide, by decide +kernel, by decide +kernel, by decide⟩
set_option maxRecDepth 50000 in
theorem mo126 : mokP mi126 := ⟨inTT (p := 769) rfl rfl, (fun h => absurd h (by decide)), (fun _ => ⟨inTT (p := 768) rfl rfl, inTT (p := 29) rfl rfl⟩), inTT (p := 65) rfl rfl, by decide, by decide, by decide +kernel, by decide +kernel, by decide⟩
set_option maxRecDepth 50000 in
theorem mo127 : mokP mi127 := ⟨inTT (p := 745) rfl rfl, (fun h => absurd h (by decide)), (fun _ => ⟨inTT (p := 744) rfl rfl, inTT (p := 24) rfl rfl⟩), inTT (p := 65) rfl rfl, by decide, by decide, by decide +kernel, by decide +kernel, by decide⟩
set_option maxRecDepth 50000 in
theorem mo128 : mokP mi128 := ⟨inTT (p := 730) rfl rfl, (fun h => absurd h (by decide)), (fun _ => ⟨inTT (p := 728) rfl rfl, inTT (p := 729) rfl rfl⟩), inTT (p := 65) rfl rfl, by decide, by decide, by decide +kernel, by decide +kernel, by decide⟩
set_option maxRecDepth 50000 in
theorem mo129 : mokP mi129 := ⟨inTT (p := 924) rfl rfl, (fun _ => inTT (p := 923) rfl rfl), (fun h => absurd h (by decide)), inTT (p := 65) rfl rfl, by decide, by decide, by decide +kernel, by decide +kernel, by decide⟩
set_option maxRecDepth 50000 in
theorem mo130 : mokP mi130 := ⟨inTT (p := 921) rfl rfl, (fun h => absurd h (by decide)), (fun _ => ⟨inTT (p := 920) rfl rfl, inTT (p := 39) rfl rfl⟩), inTT (p := 65) rfl rfl, by decide, by decide, by decide +kernel, by decide +kernel, by decide⟩
set_option maxRecDepth 50000 in
theorem mo131 : mokP mi131 := ⟨inTT (p := 955) rfl rfl, (fun h => absurd h (by decide)), (fun _ => ⟨inTT (p := 953) rfl rfl, inTT (p := 954) rfl rfl⟩), inTT (p := 65) rfl rfl, by decide, by decide, by decide +kernel, by decide +kernel, by decide⟩
set_option maxRecDepth 50000 in
theorem mo132 : mokP mi132 := ⟨inTT (p := 910) rfl rfl, (fun h => absurd h (by decide)), (fun _ => ⟨inTT (p := 909) rfl rfl, inTT (p := 37) rfl rfl⟩), inTT (p := 65) rfl rfl, by decide, by decide, by decide +kernel, by decide +kernel, by decide⟩
set_option maxRecDepth 50000 in
theorem mo133 : mokP mi133 := ⟨inTT (p := 959) rfl rfl, (fun h => absurd h (by decide)), (fun _ => ⟨inTT (p := 957) rfl rfl, inTT (p := 958) rfl rfl⟩), inTT (p := 65) rfl rfl, by decide, by decide, by decide +kernel, by decide +kernel, by decide⟩
set_option maxRecDepth 50000 in
theorem mo134 : mokP mi134 := ⟨inTT (p := 967) rfl rfl, (fun h => absurd h (by decide)), (fun _ => ⟨inTT (p := 965) rfl rfl, inTT (p := 966) rfl rfl⟩), inTT (p := 65) rfl rfl, by decide, by decide, by decide +kernel, by decide +kernel, by decide⟩
set_option maxRecDepth 50000 in
theorem mo135 : mokP mi135 := ⟨inTT (p := 971) rfl rfl, (fun h => absurd h (by decide)), (fun _ => ⟨inTT (p := 969) rfl rfl, inTT (p := 970) rfl rfl⟩), inTT (p := 65) rfl rfl, by decide, by decide, by decide +kernel, by decide +kernel, by decide⟩
set_option maxRecDepth 50000 in
theorem mo136 : mokP mi136 := ⟨inTT (p := 906) rfl rfl, (fun h => absurd h (by decide)), (fun _ => ⟨inTT (p := 905) rfl rfl, inTT (p := 36) rfl rfl⟩), inTT (p := 65) rfl rfl, by decide, by decide, by decide +kernel, by decide +kernel, by decide⟩
set_option maxRecDepth 50000 in
theorem mo137 : mokP mi137 := ⟨inTT (p := 931) rfl rfl, (fun h => absurd h (by decide)), (fun _ => ⟨inTT (p := 930) rfl rfl, inTT (p := 40) rfl rfl⟩), inTT (p := 65) rfl rfl, by decide, by decide, by decide +kernel, by decide +kernel, by decide⟩
set_option maxRecDepth 50000 in
theorem mo138 : mokP mi138 := ⟨inTT (p := 979) rfl rfl, (fun h => absurd h (by decide)), (fun _ => ⟨inTT (p := 978) rfl rfl, inTT (p := 45) rfl rfl⟩), inTT (p := 65) rfl rfl, by decide, by decide, by decide +kernel, by decide +kernel, by decide⟩
set_option maxRecDepth 50000 in
theorem mo139 : mokP mi139 := ⟨inTT (p := 902) rfl rfl, (fun h => absurd h (by decide)), (fun _ => ⟨inTT (p := 901) rfl rfl, inTT (p := 35) rfl rfl⟩), inTT (p := 65) rfl rfl, by decide, by decide, by decide +kernel, by decide +kernel, by decide⟩
set_option maxRecDepth 50000 in
theorem mo140 : mokP mi140 := ⟨inTT (p := 890) rfl rfl, (fun h => absurd h (by decide)), (fun _ => ⟨inTT (p := 889) rfl rfl, inTT (p := 32) rfl rfl⟩), inTT (p := 65) rfl rfl, by decide, by decide, by decide +kernel, by decide +kernel, by decide⟩
set_option maxRecDepth 50000 in
theorem mo141 : mokP mi141 := ⟨inTT (p := 935) rfl rfl, (fun h => absurd h (by decide)), (fun _ => ⟨inTT (p := 934) rfl rfl, inTT (p := 41) rfl rfl⟩), inTT (p := 65) rfl rfl, by decide, by decide, by decide +kernel, by decide +kernel, by decide⟩
set_option maxRecDepth 50000 in
theorem mo142 : mokP mi142 := ⟨inTT (p := 886) rfl rfl, (fun h => absurd h (by decide)), (fun _ => ⟨inTT (p := 885) rfl rfl, inTT (p := 31) rfl rfl⟩), inTT (p := 65) rfl rfl, by decide, by decide, by decide +kernel, by decide +kernel, by decide⟩
set_option maxRecDepth 50000 in
theorem mo143 : mokP mi143 := ⟨inTT (p := 975) rfl rfl, (fun h => absurd h (by decide)), (fun _ => ⟨inTT (p := 973) rfl rfl, inTT (p := 974) rfl rfl⟩), inTT (p := 65) rfl rfl, by decide, by decide, by decide +kernel, by decide +kernel, by decide⟩
set_option maxRecDepth 50000 in
theorem mo144 : mokP mi144 := ⟨inTT (p := 991) rfl rfl, (fun h => absurd h (by decide)), (fun _ => ⟨inTT (p := 990) rfl rfl, inTT (p := 47) rfl rfl⟩), inTT (p := 65) rfl rfl, by decide, by decide, by decide +kernel, by decide +kernel, by decide⟩
set_option maxRecDepth 50000 in
theorem mo145 : mokP mi145 := ⟨inTT (p := 987) rfl rfl, (fun h => absurd h (by decide)), (fun _ => ⟨inTT (p := 986) rfl rfl, inTT (p := 46) rfl rfl⟩), inTT (p := 65) rfl rfl, by decide, by decide, by decide +kernel, by decide +kernel, by decide⟩
set_option maxRecDepth 50000 in
theorem mo146 : mokP mi146 := ⟨inTT (p := 983) rfl rfl, (fun h => absurd h (by decide)), (fun _ => ⟨inTT (p := 981) rfl rfl, inTT (p := 982) rfl rfl⟩), inTT (p := 65) rfl rfl, by decide, by decide, by decide +kernel, by decide +kernel, by decide⟩
set_option maxRecDepth 50000 in
theorem mo147 : mokP mi147 := ⟨inTT (p := 995) rfl rfl, (fun h => absurd h (by decide)), (fun _ => ⟨inTT (p := 993) rfl rfl, inTT (p := 994) rfl rfl⟩), inTT (p := 65) rfl rfl, by decide, by decide, by decide +kernel, by decide +kernel, by decide⟩
set_option maxRecDepth 50000 in
theorem mo148 : mokP mi148 := ⟨inTT (p := 1003) rfl rfl, (fun h => absurd h (by decide)), (fun _ => ⟨inTT (p := 1002) rfl rfl, inTT (p := 48) rfl rfl⟩), inTT (p := 65) rfl rfl, by decide, by decide, by decide +kernel, by decide +kernel, by decide⟩
set_option maxRecDepth 50000 in
theorem mo149 : mokP mi149 := ⟨inTT (p := 1011) rfl rfl, (fun h => absurd h (by decide)), (fun _ => ⟨inTT (p := 1010) rfl rfl, inTT (p := 50) rfl rfl⟩), inTT (p := 65) rfl rfl, by decide, by decide, by decide +kernel, by decide +kernel, by decide⟩
set_option maxRecDepth 50000 in
theorem mo150 : mokP mi150 := ⟨inTT (p := 1007) rfl rfl, (fun h => absurd h (by decide)), (fun _ => ⟨inTT (p := 1006) rfl rfl, inTT (p := 49) rfl rfl⟩), inTT (p := 65) rfl rfl, by decide, by decide, by decide +kernel, by decide +kernel, by decide⟩
set_option maxRecDepth 50000 in
theorem mo151 : mokP mi151 := ⟨inTT (p := 999) rfl rfl, (fun h => absurd h (by decide)), (fun _ => ⟨inTT (p := 997) rfl rfl, inTT (p := 998) rfl rfl⟩), inTT (p := 65) rfl rfl, by decide, by decide, by decide +kernel, by decide +kernel, by decide⟩
set_option maxRecDepth 50000 in
theorem mo152 : mokP mi152 := ⟨inTT (p := 1023) rfl rfl, (fun h => absurd h (by decide)), (fun _ => ⟨inTT (p := 1022) rfl rfl, inTT (p := 52) rfl rfl⟩), inTT (p := 65) rfl rfl, by decide, by decide, by decide +kernel, by decide +kernel, by decide⟩
set_option maxRecDepth 50000 in
theorem mo153 : mokP mi153 := ⟨inTT (p := 1019) rfl rfl, (fun h => absurd h (by decide)), (fun _ => ⟨inTT (p := 1018) rfl rfl, inTT (p := 51) rfl rfl⟩), inTT (p := 65) rfl rfl, by decide, by decide, by decide +kernel, by decide +kernel, by decide⟩
set_option maxRecDepth 50000 in
theorem mo154 : mokP mi154 := ⟨inTT (p := 1015) rfl rfl, (fun h => absurd h (by decide)), (fun _ => ⟨inTT (p := 1013) rfl rfl, inTT (p := 1014) rfl rfl⟩), inTT (p := 65) rfl rfl, by decide, by decide, by decide +kernel, by decide +kernel, by decide⟩
set_option maxRecDepth 50000 in
theorem mo155 : mokP mi155 := ⟨inTT (p := 1031) rfl rfl, (fun h => absurd h (by decide)), (fun _ => ⟨inTT (p := 1030) rfl rfl, inTT (p := 53) rfl rfl⟩), inTT (p := 65) rfl rfl, by decide, by decide, by decide +kernel, by decide +kernel, by decide⟩
set_option maxRecDepth 50000 in
theorem mo156 : mokP mi156 := ⟨inTT (p := 1027) rfl rfl, (fun h => absurd h (by decide)), (fun _ => ⟨inTT (p := 1025) rfl rfl, inTT (p := 1026) rfl rfl⟩), inTT (p := 65) rfl rfl, by decide, by decide, by decide +kernel, by decide +kernel, by decide⟩
set_option maxRecDepth 50000 in
theorem mo157 : mokP mi157 := ⟨inTT (p := 1035) rfl rfl, (fun h => absurd h (by decide)), (fun _ => ⟨inTT (p := 1033) rfl rfl, inTT (p := 1034) rfl rfl⟩), inTT (p := 65) rfl rfl, by decide, by decide, by decide +kernel, by decide +kernel, by decide⟩
set_option maxRecDepth 50000 in
theorem mo158 : mokP mi158 := ⟨inTT (p := 1039) rfl rfl, (fun h => absurd h (by decide)), (fun _ => ⟨inTT (p := 1037) rfl rfl, inTT (p := 1038) rfl rfl⟩), inTT (p := 65) rfl rfl, by decide, by decide, by decide +kernel, by decide +kernel, by decide⟩
set_option maxRecDepth 50000 in
theorem mo159 : mokP mi159 := ⟨inTT (p := 1047) rfl rfl, (fun h => absurd h (by decide)), (fun _ => ⟨inTT (p := 1046) rfl rfl, inTT (p := 54) rfl rfl⟩), inTT (p := 65) rfl rfl, by decide, by decide, by decide +kernel, by decide +kernel, by decide⟩
set_option maxRecDepth 50000 in
theorem mo160 : mokP mi160 := ⟨inTT (p := 1043) rfl rfl, (fun h => absurd h (by decide)), (fun _ => ⟨inTT (p := 1041) rfl rfl, inTT (p := 1042) rfl rfl⟩), inTT (p := 65) rfl rfl, by decide, by decide, by decide +kernel, by decide +kernel, by decide⟩
set_option maxRecDepth 50000 in
theorem mo161 : mokP mi161 := ⟨inTT (p := 1055) rfl rfl, (fun h => absurd h (by decide)), (fun _ => ⟨inTT (p := 1054) rfl rfl, inTT (p := 55) rfl rfl⟩), inTT (p := 65) rfl rfl, by decide, by decide, by decide +kernel, by decide +kernel, by decide⟩
set_option maxRecDepth 50000 in
theorem mo162 : mokP mi162 := ⟨inTT (p := 1051) rfl rfl, (fun h => absurd h (by decide)), (fun _ => ⟨inTT (p := 1049) rfl rfl, inTT (p := 1050) rfl rfl⟩), inTT (p := 65) rfl rfl, by decide, by decide, by decide +kernel, by decide +kernel, by decide⟩
set_option maxRecDepth 50000 in
theorem mo163 : mokP mi163 := ⟨inTT (p := 1062) rfl rfl, (fun _ => inTT (p := 1061) rfl rfl), (fun h => absurd h (by decide)), inTT (p := 65) rfl rfl, by decide, by decide, by decide +kernel, by decide +kernel, by decide⟩
set_option maxRecDepth 50000 in
theorem mo164 : mokP mi164 := ⟨inTT (p := 1059) rfl rfl, (fun h => absurd h (by decide)), (fun _ => ⟨inTT (p := 1057) rfl rfl, inTT (p := 1058) rfl rfl⟩), inTT (p := 65) rfl rfl, by decide, by decide, by decide +kernel, by decide +kernel, by decide⟩
set_option maxRecDepth 50000 in
theorem mo165 : mokP mi165 := ⟨inTT (p := 1071) rfl rfl, (fun h => absurd h (by decide)), (fun _ => ⟨inTT (p := 1070) rfl rfl, inTT (p := 56) rfl rfl⟩), inTT (p := 65) rfl rfl, by decide, by decide, by decide +kernel, by decide +kernel, by decide⟩
set_option maxRecDepth 50000 in
theorem mo166 : mokP mi166 := ⟨inTT (p := 1075) rfl rfl, (fun h => absurd h (by decide)), (fun _ => ⟨inTT (p := 1074) rfl rfl, inTT (p := 57) rfl rfl⟩), inTT (p := 65) rfl rfl, by decide, by decide, by decide +kernel, by decide +kernel, by decide⟩
set_option maxRecDepth 50000 in
theorem mo167 : mokP mi167 := ⟨inTT (p := 1067) rfl rfl, (fun h => absurd h (by decide)), (fun _ => ⟨inTT (p := 1065) rfl rfl, inTT (p := 1066) rfl rfl⟩), inTT (p := 65) rfl rfl, by decide, by decide, by decide +kernel, by decide +kernel, by decide⟩
set_option maxRecDepth 50000 in
theorem mo168 : mokP mi168 := ⟨inTT (p := 1079) rfl rfl, (fun h => absurd h (by decide)), (fun _ => ⟨inTT (p := 1077) rfl rfl, inTT (p := 1078) rfl rfl⟩), inTT (p := 65) rfl rfl, by decide, by decide, by decide +kernel, by decide +kernel, by decide⟩
set_option maxRecDepth 50000 in
theorem mo169 : mokP mi169 := ⟨inTT (p := 1083) rfl rfl, (fun h => absurd h (by decide)), (fun _ => ⟨inTT (p := 1081) rfl rfl, inTT (p := 1082) rfl rfl⟩), inTT (p := 65) rfl rfl, by decide, by decide, by decide +kernel, by decide +kernel, by decide⟩
set_option maxRecDepth 50000 in
theorem mo170 : mokP mi170 := ⟨inTT (p := 1087) rfl rfl, (fun h => absurd h (by decide)), (fun _ => ⟨inTT (p := 1085) rfl rfl, inTT (p := 1086) rfl rfl⟩), inTT (p := 65) rfl rfl, by decide, by decide, by decide +kernel, by decide +kernel, by decide⟩
set_option maxRecDepth 50000 in
theorem mo171 : mokP mi171 := ⟨inTT (p := 1091) rfl rfl, (fun h => absurd h (by decide)), (fun _ => ⟨inTT (p := 1089) rfl rfl, inTT (p := 1090) rfl rfl⟩), inTT (p := 65) rfl rfl, by decide, by decide, by decide +kernel, by decide +kernel, by decide⟩
set_option maxRecDepth 50000 in
theorem mo172 : mokP mi172 := ⟨inTT (p := 1095) rfl rfl, (fun h => absurd h (by decide)), (fun _ => ⟨inTT (p := 1093) rfl rfl, inTT (p := 1094) rfl rfl⟩), inTT (p := 65) rfl rfl, by decide, by decide, by decide +kernel, by decide +kernel, by decide⟩
set_option maxRecDepth 50000 in
theorem mo173 : mokP mi173 := ⟨inTT (p := 1099) rfl rfl, (fun h => absurd h (by decide)), (fun _ => ⟨inTT (p := 1097) rfl rfl, inTT (p := 1098) rfl rfl⟩), inTT (p := 65) rfl rfl, by decide, by decide, by decide +kernel, by decide +kernel, by decide⟩
set_option maxRecDepth 50000 in
theorem mo174 : mokP mi174 := ⟨inTT (p := 1108) rfl rfl, (fun h => absurd h (by decide)), (fun _ => ⟨inTT (p := 1107) rfl rfl, inTT (p := 58) rfl rfl⟩), inTT (p := 65) rfl rfl, by decide, by decide, by decide +kernel, by decide +kernel, by decide⟩
set_option maxRecDepth 50000 in
theorem mo175 : mokP mi175 := ⟨inTT (p := 1103) rfl rfl, (fun h => absurd h (by decide)), (fun _ => ⟨inTT (p := 1101) rfl rfl, inTT (p := 1102) rfl rfl⟩), inTT (p := 65) rfl rfl, by decide, by decide, by decide +kernel, by decide +kernel, by decide⟩
set_option maxRecDepth 50000 in
theorem mo176 : mokP mi176 := ⟨inTT (p := 1116) rfl rfl, (fun h => absurd h (by decide)), (fun _ => ⟨inTT (p := 1114) rfl rfl, inTT (p := 1115) rfl rfl⟩), inTT (p := 65) rfl rfl, by decide, by decide, by decide +kernel, by decide +kernel, by decide⟩
set_option maxRecDepth 50000 in
theorem mo177 : mokP mi177 := ⟨inTT (p := 1120) rfl rfl, (fun h => absurd h (by decide)), (fun _ => ⟨inTT (p := 1118) rfl rfl, inTT (p := 1119) rfl rfl⟩), inTT (p := 65) rfl rfl, by decide, by decide, by decide +kernel, by decide +kernel, by decide⟩
set_option maxRecDepth 50000 in
theorem mo178 : mokP mi178 := ⟨inTT (p := 1124) rfl rfl, (fun h => absurd h (by decide)), (fun _ => ⟨inTT (p := 1122) rfl rfl, inTT (p := 1123) rfl rfl⟩), inTT (p := 65) rfl rfl, by decide, by decide, by decide +kernel, by decide +kernel, by decide⟩
set_option maxRecDepth 50000 in
theorem mo179 : mokP mi179 := ⟨inTT (p := 1128) rfl rfl, (fun h => absurd h (by decide)), (fun _ => ⟨inTT (p := 1126) rfl rfl, inTT (p := 1127) rfl rfl⟩), inTT (p := 65) rfl rfl, by decide, by decide, by decide +kernel, by decide +kernel, by decide⟩
set_option maxRecDepth 50000 in
theorem mo180 : mokP mi180 := ⟨inTT (p := 1132) rfl rfl, (fun h => absurd h (by decide)), (fun _ => ⟨inTT (p := 1130) rfl rfl, inTT (p := 1131) rfl rfl⟩), inTT (p := 65) rfl rfl, by decide, by decide, by decide +kernel, by decide +kernel, by decide⟩
set_option maxRecDepth 50000 in
theorem mo181 : mokP mi181 := ⟨inTT (p := 1136) rfl rfl, (fun h => absurd h (by decide)), (fun _ => ⟨inTT (p := 1134) rfl rfl, inTT (p := 1135) rfl rfl⟩), inTT (p := 65) rfl rfl, by decide, by decide, by decide +kernel, by decide +kernel, by decide⟩
set_option maxRecDepth 50000 in
theorem mo182 : mokP mi182 := ⟨inTT (p := 1140) rfl rfl, (fun h => absurd h (by decide)), (fun _ => ⟨inTT (p := 1138) rfl rfl, inTT (p := 1139) rfl rfl⟩), inTT (p := 65) rfl rfl, by decide, by decide, by decide +kernel, by decide +kernel, by decide⟩
set_option maxRecDepth 50000 in
theorem mo183 : mokP mi183 := ⟨inTT (p := 1148) rfl rfl, (fun _ => inTT (p := 1147) rfl rfl), (fun h => absurd h (by decide)), inTT (p := 65) rfl rfl, by decide, by decide, by decide +kernel, by decide +kernel, by decide⟩
set_option maxRecDepth 50000 in
theorem mo184 : mokP mi184 := ⟨inTT (p := 1145) rfl rfl, (fun h => absurd h (by decide)), (fun _ => ⟨inTT (p := 1143) rfl rfl, inTT (p := 1144) rfl rfl⟩), inTT (p := 65) rfl rfl, by decide, by decide, by decide +kernel, by decide +kernel, by decide⟩
def mokY (y : Nat) : Prop := ∀ t, mi? y = some t → mokP t
theorem mp0 : ∀ y, y < 1 → mokY y := lt_s lt_0 (fun t h => by cases h; exact mo0)
theorem mp1 : ∀ y, y < 2 → mokY y := lt_s mp0 (fun t h => by cases h; exact mo1)
theorem mp2 : ∀ y, y < 3 → mokY y := lt_s mp1 (fun t h => by cases h; exact mo2)
theorem mp3 : ∀ y, y < 4 → mokY y := lt_s mp2 (fun t h => by cases h; exact mo3)
theorem mp4 : ∀ y, y < 5 → mokY y := lt_s mp3 (fun t h => by cases h; exact mo4)
theorem mp5 : ∀ y, y < 6 → mokY y := lt_s mp4 (fun t h => by cases h; exact mo5)
theorem mp6 : ∀ y, y < 7 → mokY y := lt_s mp5 (fun t h => by cases h; exact mo6)
theorem mp7 : ∀ y, y < 8 → mokY y := lt_s mp6 (fun t h => by cases h; exact mo7)
theorem mp8 : ∀ y, y < 9 → mokY y := lt_s mp7 (fun t h => by cases h; exact mo8)
theorem mp9 : ∀ y, y < 10 → mokY y := lt_s mp8 (fun t h => by cases h; exact mo9)
theorem mp10 : ∀ y, y < 11 → mokY y := lt_s mp9 (fun t h => by cases h; exact mo10)
theorem mp11 : ∀ y, y < 12 → mokY y := lt_s mp10 (fun t h => by cases h; exact mo11)
theorem mp12 : ∀ y, y < 13 → mokY y := lt_s mp11 (fun t h => by cases h; exact mo12)
theorem mp13 : ∀ y, y < 14 → mokY y := lt_s mp12 (fun t h => by cases h; exact mo13)
theorem mp14 : ∀ y, y < 15 → mokY y := lt_s mp13 (fun t h => by cases h; exact mo14)
theorem mp15 : ∀ y, y < 16 → mokY y := lt_s mp14 (fun t h => by cases h; exact mo15)
theorem mp16 : ∀ y, y < 17 → mokY y := lt_s mp15 (fun t h => by cases h; exact mo16)
theorem mp17 : ∀ y, y < 18 → mokY y := lt_s mp16 (fun t h => by cases h; exact mo17)
theorem mp18 : ∀ y, y < 19 → mokY y := lt_s mp17 (fun t h => by cases h; exact mo18)
theorem mp19 : ∀ y, y < 20 → mokY y := lt_s mp18 (fun t h => by cases h; exact mo19)
theorem mp20 : ∀ y, y < 21 → mokY y := lt_s mp19 (fun t h => by cases h; exact mo20)
theorem mp21 : ∀ y, y < 22 → mokY y := lt_s mp20 (fun t h => by cases h; exact mo21)
theorem mp22 : ∀ y, y < 23 → mokY y := lt_s mp21 (fun t h => by cases h; exact mo22)
theorem mp23 : ∀ y, y < 24 → mokY y := lt_s mp22 (fun t h => by cases h; exact mo23)
theorem mp24 : ∀ y, y < 25 → mokY y := lt_s mp23 (fun t h => by cases h; exact mo24)
theorem mp25 : ∀ y, y < 26 → mokY y := lt_s mp24 (fun t h => by cases h; exact mo25)
theorem mp26 : ∀ y, y < 27 → mokY y := lt_s mp25 (fun t h => by cases h; exact mo26)
theorem mp27 : ∀ y, y < 28 → mokY y := lt_s mp26 (fun t h => by cases h; exact mo27)
theorem mp28 : ∀ y, y < 29 → mokY y := lt_s mp27 (fun t h => by cases h; exact mo28)
theorem mp29 : ∀ y, y < 30 → mokY y := lt_s mp28 (fun t h => by cases h; exact mo29)
theorem mp30 : ∀ y, y < 31 → mokY y := lt_s mp29 (fun t h => by cases h; exact mo30)
theorem mp31 : ∀ y, y < 32 → mokY y := lt_s mp30 (fun t h => by cases h; exact mo31)
theorem mp32 : ∀ y, y < 33 → mokY y := lt_s mp31 (fun t h => by cases h; exact mo32)
theorem mp33 : ∀ y, y < 34 → mokY y := lt_s mp32 (fun t h => by cases h; exact mo33)
theorem mp34 : ∀ y, y < 35 → mokY y := lt_s mp33 (fun t h => by cases h; exact mo34)
theorem mp35 : ∀ y, y < 36 → mokY y := lt_s mp34 (fun t h => by cases h; exact mo35)
theorem mp36 : ∀ y, y < 37 → mokY y := lt_s mp35 (fun t h => by cases h; exact mo36)
theorem mp37 : ∀ y, y < 38 → mokY y := lt_s mp36 (fun t h => by cases h; exact mo37)
theorem mp38 : ∀ y, y < 39 → mokY y := lt_s mp37 (fun t h => by cases h; exact mo38)
theorem mp39 : ∀ y, y < 40 → mokY y := lt_s mp38 (fun t h => by cases h; exact mo39)
theorem mp40 : ∀ y, y < 41 → mokY y := lt_s mp39 (fun t h => by cases h; exact mo40)
theorem mp41 : ∀ y, y < 42 → mokY y := lt_s mp40 (fun t h => by cases h; exact mo41)
theorem mp42 : ∀ y, y < 43 → mokY y := lt_s mp41 (fun t h => by cases h; exact mo42)
theorem mp43 : ∀ y, y < 44 → mokY y := lt_s mp42 (fun t h => by cases h; exact mo43)
theorem mp44 : ∀ y, y < 45 → mokY y := lt_s mp43 (fun t h => by cases h; exact mo44)
theorem mp45 : ∀ y, y < 46 → mokY y := lt_s mp44 (fun t h => by cases h; exact mo45)
theorem mp46 : ∀ y, y < 47 → mokY y := lt_s mp45 (fun t h => by cases h; exact mo46)
theorem mp47 : ∀ y, y < 48 → mokY y := lt_s mp46 (fun t h => by cases h; exact mo47)
theorem mp48 : ∀ y, y < 49 → mokY y := lt_s mp47 (fun t h => by cases h; exact mo48)
theorem mp49 : ∀ y, y < 50 → mokY y := lt_s mp48 (fun t h => by cases h; exact mo49)
theorem mp50 : ∀ y, y < 51 → mokY y := lt_s mp49 (fun t h => by cases h; exact mo50)
theorem mp51 : ∀ y, y < 52 → mokY y := lt_s mp50 (fun t h => by cases h; exact mo51)
theorem mp52 : ∀ y, y < 53 → mokY y := lt_s mp51 (fun t h => by cases h; exact mo52)
theorem mp53 : ∀ y, y < 54 → mokY y := lt_s mp52 (fun t h => by cases h; exact mo53)
theorem mp54 : ∀ y, y < 55 → mokY y := lt_s mp53 (fun t h => by cases h; exact mo54)
theorem mp55 : ∀ y, y < 56 → mokY y := lt_s mp54 (fun t h => by cases h; exact mo55)
theorem mp56 : ∀ y, y < 57 → mokY y := lt_s mp55 (fun t h => by cases h; exact mo56)
theorem mp57 : ∀ y, y < 58 → mokY y := lt_s mp56 (fun t h => by cases h; exact mo57)
theorem mp58 : ∀ y, y < 59 → mokY y := lt_s mp57 (fun t h => by cases h; exact mo58)
theorem mp59 : ∀ y, y < 60 → mokY y := lt_s mp58 (fun t h => by cases h; exact mo59)
theorem mp60 : ∀ y, y < 61 → mokY y := lt_s mp59 (fun t h => by cases h; exact mo60)
theorem mp61 : ∀ y, y < 62 → mokY y := lt_s mp60 (fun t h => by cases h; exact mo61)
theorem mp62 : ∀ y, y < 63 → mokY y := lt_s mp61 (fun t h => by cases h; exact mo62)
theorem mp63 : ∀ y, y < 64 → mokY y := lt_s mp62 (fun t h => by cases h; exact mo63)
theorem mp64 : ∀ y, y < 65 → mokY y := lt_s mp63 (fun t h => by cases h; exact mo64)
theorem mp65 : ∀ y, y < 66 → mokY y := lt_s mp64 (fun t h => by cases h; exact mo65)
theorem mp66 : ∀ y, y < 67 → mokY y := lt_s mp65 (fun t h => by cases h; exact mo66)
theorem mp67 : ∀ y, y < 68 → mokY y := lt_s mp66 (fun t h => by cases h; exact mo67)
theorem mp68 : ∀ y, y < 69 → mokY y := lt_s mp67 (fun t h => by cases h; exact mo68)
theorem mp69 : ∀ y, y < 70 → mokY y := lt_s mp68 (fun t h => by cases h; exact mo69)
theorem mp70 : ∀ y, y < 71 → mokY y := lt_s mp69 (fun t h => by cases h; exact mo70)
theorem mp71 : ∀ y, y < 72 → mokY y := lt_s mp70 (fun t h => by cases h; exact mo71)
theorem mp72 : ∀ y, y < 73 → mokY y := lt_s mp71 (fun t h => by cases h; exact mo72)
theorem mp73 : ∀ y, y < 74 → mokY y := lt_s mp72 (fun t h => by cases h; exact mo73)
theorem mp74 : ∀ y, y < 75 → mokY y := lt_s mp73 (fun t h => by cases h; exact mo74)
theorem mp75 : ∀ y, y < 76 → mokY y := lt_s mp74 (fun t h => by cases h; exact mo75)
theorem mp76 : ∀ y, y < 77 → mokY y := lt_s mp75 (fun t h => by cases h; exact mo76)
theorem mp77 : ∀ y, y < 78 → mokY y := lt_s mp76 (fun t h => by cases h; exact mo77)
theorem mp78 : ∀ y, y < 79 → mokY y := lt_s mp77 (fun t h => by cases h; exact mo78)
theorem mp79 : ∀ y, y < 80 → mokY y := lt_s mp78 (fun t h => by cases h; exact mo79)
theorem mp80 : ∀ y, y < 81 → mokY y := lt_s mp79 (fun t h => by cases h; exact mo80)
theorem mp81 : ∀ y, y < 82 → mokY y := lt_s mp80 (fun t h => by cases h; exact mo81)
theorem mp82 : ∀ y, y < 83 → mokY y := lt_s mp81 (fun t h => by cases h; exact mo82)
theorem mp83 : ∀ y, y < 84 → mokY y := lt_s mp82 (fun t h => by cases h; exact mo83)
theorem mp84 : ∀ y, y < 85 → mokY y := lt_s mp83 (fun t h => by cases h; exact mo84)
theorem mp85 : ∀ y, y < 86 → mokY y := lt_s mp84 (fun t h => by cases h; exact mo85)
theorem mp86 : ∀ y, y < 87 → mokY y := lt_s mp85 (fun t h => by cases h; exact mo86)
theorem mp87 : ∀ y, y < 88 → mokY y := lt_s mp86 (fun t h => by cases h; exact mo87)
theorem mp88 : ∀ y, y < 89 → mokY y := lt_s mp87 (fun t h => by cases h; exact mo88)
theorem mp89 : ∀ y, y < 90 → mokY y := lt_s mp88 (fun t h => by cases h; exact mo89)
theorem mp90 : ∀ y, y < 91 → mokY y := lt_s mp89 (fun t h => by cases h; exact mo90)
theorem mp91 : ∀ y, y < 92 → mokY y := lt_s mp90 (fun t h => by cases h; exact mo91)
theorem mp92 : ∀ y, y < 93 → mokY y := lt_s mp91 (fun t h => by cases h; exact mo92)
theorem mp93 : ∀ y, y < 94 → mokY y := lt_s mp92 (fun t h => by cases h; exact mo93)
theorem mp94 : ∀ y, y < 95 → mokY y := lt_s mp93 (fun t h => by cases h; exact mo94)
theorem mp95 : ∀ y, y < 96 → mokY y := lt_s mp94 (fun t h => by cases h; exact mo95)
theorem mp96 : ∀ y, y < 97 → mokY y := lt_s mp95 (fun t h => by cases h; exact mo96)
theorem mp97 : ∀ y, y < 98 → mokY y := lt_s mp96 (fun t h => by cases h; exact mo97)
theorem mp98 : ∀ y, y < 99 → mokY y := lt_s mp97 (fun t h => by cases h; exact mo98)
theorem mp99 : ∀ y, y < 100 → mokY y := lt_s mp98 (fun t h => by cases h; exact mo99)
theorem mp100 : ∀ y, y < 101 → mokY y := lt_s mp99 (fun t h => by cases h; exact mo100)
theorem mp101 : ∀ y, y < 102 → mokY y := lt_s mp100 (fun t h => by cases h; exact mo101)
theorem mp102 : ∀ y, y < 103 → mokY y := lt_s mp101 (fun t h => by cases h; exact mo102)
theorem mp103 : ∀ y, y < 104 → mokY y := lt_s mp102 (fun t h => by cases h; exact mo103)
theorem mp104 : ∀ y, y < 105 → mokY y := lt_s mp103 (fun t h => by cases h; exact mo104)
theorem mp105 : ∀ y, y < 106 → mokY y := lt_s mp104 (fun t h => by cases h; exact mo105)
theorem mp106 : ∀ y, y < 107 → mokY y := lt_s mp105 (fun t h => by cases h; exact mo106)
theorem mp107 : ∀ y, y < 108 → mokY y := lt_s mp106 (fun t h => by cases h; exact mo107)
theorem mp108 : ∀ y, y < 109 → mokY y := lt_s mp107 (fun t h => by cases h; exact mo108)
theorem mp109 : ∀ y, y < 110 → mokY y := lt_s mp108 (fun t h => by cases h; exact mo109)
theorem mp110 : ∀ y, y < 111 → mokY y := lt_s mp109 (fun t h => by cases h; exact mo110)
theorem mp111 : ∀ y, y < 112 → mokY y := lt_s mp110 (fun t h => by cases h; exact mo111)
theorem mp112 : ∀ y, y < 113 → mokY y := lt_s mp111 (fun t h => by cases h; exact mo112)
theorem mp113 : ∀ y, y < 114 → mokY y := lt_s mp112 (fun t h => by cases h; exact mo113)
theorem mp114 : ∀ y, y < 115 → mokY y := lt_s mp113 (fun t h => by cases h; exact mo114)
theorem mp115 : ∀ y, y < 116 → mokY y := lt_s mp114 (fun t h => by cases h; exact mo115)
theorem mp116 : ∀ y, y < 117 → mokY y := lt_s mp115 (fun t h => by cases h; exact mo116)
theorem mp117 : ∀ y, y < 118 → mokY y := lt_s mp116 (fun t h => by cases h; exact mo117)
theorem mp118 : ∀ y, y < 119 → mokY y := lt_s mp117 (fun t h => by cases h; exact mo118)
theorem mp119 : ∀ y, y < 120 → mokY y := lt_s mp118 (fun t h => by cases h; exact mo119)
theorem mp120 : ∀ y, y < 121 → mokY y := lt_s mp119 (fun t h => by cases h; exact mo120)
theorem mp121 : ∀ y, y < 122 → mokY y := lt_s mp120 (fun t h => by cases h; exact mo121)
theorem mp122 : ∀ y, y < 123 → mokY y := lt_s mp121 (fun t h => by cases h; exact mo122)
theorem mp123 : ∀ y, y < 124 → mokY y := lt_s mp122 (fun t h => by cases h; exact mo123)
theorem mp124 : ∀ y, y < 125 → mokY y := lt_s mp123 (fun t h => by cases h; exact mo124)
theorem mp125 : ∀ y, y < 126 → mokY y := lt_s mp124 (fun t h => by cases h; exact mo125)
theorem mp126 : ∀ y, y < 127 → mokY y := lt_s mp125 (fun t h => by cases h; exact mo126)
theorem mp127 : ∀ y, y < 128 → mokY y := lt_s mp126 (fun t h => by cases h; exact mo127)
theorem mp128 : ∀ y, y < 129 → mokY y := lt_s mp127 (fun t h => by cases h; exact mo128)
theorem mp129 : ∀ y, y < 130 → mokY y := lt_s mp128 (fun t h => by cases h; exact mo129)
theorem mp130 : ∀ y, y < 131 → mokY y := lt_s mp129 (fun t h => by cases h; exact mo130)
theorem mp131 : ∀ y, y < 132 → mokY y := lt_s mp130 (fun t h => by cases h; exact mo131)
theorem mp132 : ∀ y, y < 133 → mokY y := lt_s mp131 (fun t h => by cases h; exact mo132)
theorem mp133 : ∀ y, y < 134 → mokY y := lt_s mp132 (fun t h => by cases h; exact mo133)
theorem mp134 : ∀ y, y < 135 → mokY y := lt_s mp133 (fun t h => by cases h; exact mo134)
theorem mp135 : ∀ y, y < 136 → mokY y := lt_s mp134 (fun t h => by cases h; exact mo135)
theorem mp136 : ∀ y, y < 137 → mokY y := lt_s mp135 (fun t h => by cases h; exact mo136)
theorem mp137 : ∀ y, y < 138 → mokY y := lt_s mp136 (fun t h => by cases h; exact mo137)
theorem mp138 : ∀ y, y < 139 → mokY y := lt_s mp137 (fun t h => by cases h; exact mo138)
theorem mp139 : ∀ y, y < 140 → mokY y := lt_s mp138 (fun t h => by cases h; exact mo139)
theorem mp140 : ∀ y, y < 141 → mokY y := lt_s mp139 (fun t h => by cases h; exact mo140)
theorem mp141 : ∀ y, y < 142 → mokY y := lt_s mp140 (fun t h => by cases h; exact mo141)
theorem mp142 : ∀ y, y < 143 → mokY y := lt_s mp141 (fun t h => by cases h; exact mo142)
theorem mp143 : ∀ y, y < 144 → mokY y := lt_s mp142 (fun t h => by cases h; exact mo143)
theorem mp144 : ∀ y, y < 145 → mokY y := lt_s mp143 (fun t h => by cases h; exact mo144)
theorem mp145 : ∀ y, y < 146 → mokY y := lt_s mp144 (fun t h => by cases h; exact mo145)
theorem mp146 : ∀ y, y < 147 → mokY y := lt_s mp145 (fun t h => by cases h; exact mo146)
theorem mp147 : ∀ y, y < 148 → mokY y := lt_s mp146 (fun t h => by cases h; exact mo147)
theorem mp148 : ∀ y, y < 149 → mokY y := lt_s mp147 (fun t h => by cases h; exact mo148)
theorem mp149 : ∀ y, y < 150 → mokY y := lt_s mp148 (fun t h => by cases h; exact mo149)
theorem mp150 : ∀ y, y < 151 → mokY y := lt_s mp149 (fun t h => by cases h; exact mo150)
theorem mp151 : ∀ y, y < 152 → mokY y := lt_s mp150 (fun t h => by cases h; exact mo151)
theorem mp152 : ∀ y, y < 153 → mokY y := lt_s mp151 (fun t h => by cases h; exact mo152)
theorem mp153 : ∀ y, y < 154 → mokY y := lt_s mp152 (fun t h => by cases h; exact mo153)
theorem mp154 : ∀ y, y < 155 → mokY y := lt_s mp153 (fun t h => by cases h; exact mo154)
theorem mp155 : ∀ y, y < 156 → mokY y := lt_s mp154 (fun t h => by cases h; exact mo155)
theorem mp156 : ∀ y, y < 157 → mokY y := lt_s mp155 (fun t h => by cases h; exact mo156)
theorem mp157 : ∀ y, y < 158 → mokY y := lt_s mp156 (fun t h => by cases h; exact mo157)
theorem mp158 : ∀ y, y < 159 → mokY y := lt_s mp157 (fun t h => by cases h; exact mo158)
theorem mp159 : ∀ y, y < 160 → mokY y := lt_s mp158 (fun t h => by cases h; exact mo159)
theorem mp160 : ∀ y, y < 161 → mokY y := lt_s mp159 (fun t h => by cases h; exact mo160)
theorem mp161 : ∀ y, y < 162 → mokY y := lt_s mp160 (fun t h => by cases h; exact mo161)
theorem mp162 : ∀ y, y < 163 → mokY y := lt_s mp161 (fun t h => by cases h; exact mo162)
theorem mp163 : ∀ y, y < 164 → mokY y := lt_s mp162 (fun t h => by cases h; exact mo163)
theorem mp164 : ∀ y, y < 165 → mokY y := lt_s mp163 (fun t h => by cases h; exact mo164)
theorem mp165 : ∀ y, y < 166 → mokY y := lt_s mp164 (fun t h => by cases h; exact mo165)
theorem mp166 : ∀ y, y < 167 → mokY y := lt_s mp165 (fun t h => by cases h; exact mo166)
theorem mp167 : ∀ y, y < 168 → mokY y := lt_s mp166 (fun t h => by cases h; exact mo167)
theorem mp168 : ∀ y, y < 169 → mokY y := lt_s mp167 (fun t h => by cases h; exact mo168)
theorem mp169 : ∀ y, y < 170 → mokY y := lt_s mp168 (fun t h => by cases h; exact mo169)
theorem mp170 : ∀ y, y < 171 → mokY y := lt_s mp169 (fun t h => by cases h; exact mo170)
theorem mp171 : ∀ y, y < 172 → mokY y := lt_s mp170 (fun t h => by cases h; exact mo171)
theorem mp172 : ∀ y, y < 173 → mokY y := lt_s mp171 (fun t h => by cases h; exact mo172)
theorem mp173 : ∀ y, y < 174 → mokY y := lt_s mp172 (fun t h => by cases h; exact mo173)
theorem mp174 : ∀ y, y < 175 → mokY y := lt_s mp173 (fun t h => by cases h; exact mo174)
theorem mp175 : ∀ y, y < 176 → mokY y := lt_s mp174 (fun t h => by cases h; exact mo175)
theorem mp176 : ∀ y, y < 177 → mokY y := lt_s mp175 (fun t h => by cases h; exact mo176)
theorem mp177 : ∀ y, y < 178 → mokY y := lt_s mp176 (fun t h => by cases h; exact mo177)
theorem mp178 : ∀ y, y < 179 → mokY y := lt_s mp177 (fun t h => by cases h; exact mo178)
theorem mp179 : ∀ y, y < 180 → mokY y := lt_s mp178 (fun t h => by cases h; exact mo179)
theorem mp180 : ∀ y, y < 181 → mokY y := lt_s mp179 (fun t h => by cases h; exact mo180)
theorem mp181 : ∀ y, y < 182 → mokY y := lt_s mp180 (fun t h => by cases h; exact mo181)
theorem mp182 : ∀ y, y < 183 → mokY y := lt_s mp181 (fun t h => by cases h; exact mo182)
theorem mp183 : ∀ y, y < 184 → mokY y := lt_s mp182 (fun t h => by cases h; exact mo183)
theorem mp184 : ∀ y, y < 185 → mokY y := lt_s mp183 (fun t h => by cases h; exact mo184)
theorem mok_all (y : Nat) (t : MI) (ht : mi? y = some t) (hy : y ≠ kLaw) : mokP t := by
  rcases Nat.lt_or_ge y 185 with h | h
  · exact mp184 y h t ht
  · have h2 : 186 ≤ y := by
      have h3 : y ≠ 185 := hy
      omega
    rw [mi_hi h2] at ht
    cases ht
set_option maxRecDepth 50000 in
theorem checked : Checked := ⟨cls_all, mok_all, chk_all, qo_all, rk_all, inTT (p := 708) rfl rfl, inTT (p := 707) rfl rfl, inTT (p := 72) rfl rfl, inTT (p := 66) rfl rfl, ⟨inTT (p := 298) rfl rfl, inTT (p := 299) rfl rfl⟩, ⟨inTT (p := 295) rfl rfl, inTT (p := 296) rfl rfl⟩, ⟨inTT (p := 292) rfl rfl, inTT (p := 293) rfl rfl⟩⟩
end
