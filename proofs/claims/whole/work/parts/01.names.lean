-- ===== PART A: goes FIRST, ahead of the names: the tables' words, and 'selects' of the private methods out of them =====
/-- a private method of a class that the tables say can be made, by its rows of tables_1 -/
def lw_okq (q : MethodName × Nat) : Prop := (q.1.cls ≠ "java/lang/invoke/MethodHandle" ∧ q.1.cls ≠ "java/lang/invoke/VarHandle") ∧ Cond.instantiable q.1.cls q.2 ∈ tables_1 ∧ Cond.privateMethod q.1 ∈ tables_1 ∧ Cond.instanceMethod q.1 ∈ tables_1
theorem lw_p0 : lw_okq (⟨"SandInTheShoe$Reader", "next", "()V"⟩, 9) := ⟨⟨by decide +kernel, by decide +kernel⟩, List.mem_of_getElem? (i := 64) (by decide +kernel), List.mem_of_getElem? (i := 237) (by decide +kernel), List.mem_of_getElem? (i := 238) (by decide +kernel)⟩
theorem lw_p1 : lw_okq (⟨"SandInTheShoe$Reader", "isIn", "(III)Z"⟩, 9) := ⟨⟨by decide +kernel, by decide +kernel⟩, List.mem_of_getElem? (i := 64) (by decide +kernel), List.mem_of_getElem? (i := 241) (by decide +kernel), List.mem_of_getElem? (i := 242) (by decide +kernel)⟩
theorem lw_p2 : lw_okq (⟨"SandInTheShoe$Reader", "nextWord", "()V"⟩, 9) := ⟨⟨by decide +kernel, by decide +kernel⟩, List.mem_of_getElem? (i := 64) (by decide +kernel), List.mem_of_getElem? (i := 245) (by decide +kernel), List.mem_of_getElem? (i := 246) (by decide +kernel)⟩
theorem lw_p3 : lw_okq (⟨"SandInTheShoe$Reader", "isToken", "(Ljava/lang/String;)Z"⟩, 9) := ⟨⟨by decide +kernel, by decide +kernel⟩, List.mem_of_getElem? (i := 64) (by decide +kernel), List.mem_of_getElem? (i := 264) (by decide +kernel), List.mem_of_getElem? (i := 265) (by decide +kernel)⟩
theorem lw_p4 : lw_okq (⟨"SandInTheShoe$Reader", "nextNumber", "()V"⟩, 9) := ⟨⟨by decide +kernel, by decide +kernel⟩, List.mem_of_getElem? (i := 64) (by decide +kernel), List.mem_of_getElem? (i := 270) (by decide +kernel), List.mem_of_getElem? (i := 271) (by decide +kernel)⟩
theorem lw_p5 : lw_okq (⟨"SandInTheShoe$Reader", "readLevel", "(II)Z"⟩, 9) := ⟨⟨by decide +kernel, by decide +kernel⟩, List.mem_of_getElem? (i := 64) (by decide +kernel), List.mem_of_getElem? (i := 277) (by decide +kernel), List.mem_of_getElem? (i := 278) (by decide +kernel)⟩
theorem lw_p6 : lw_okq (⟨"SandInTheShoe$Reader", "readOne", "(I)Z"⟩, 9) := ⟨⟨by decide +kernel, by decide +kernel⟩, List.mem_of_getElem? (i := 64) (by decide +kernel), List.mem_of_getElem? (i := 281) (by decide +kernel), List.mem_of_getElem? (i := 282) (by decide +kernel)⟩
theorem lw_p7 : lw_okq (⟨"SandInTheShoe$Reader", "put", "(I)V"⟩, 9) := ⟨⟨by decide +kernel, by decide +kernel⟩, List.mem_of_getElem? (i := 64) (by decide +kernel), List.mem_of_getElem? (i := 285) (by decide +kernel), List.mem_of_getElem? (i := 286) (by decide +kernel)⟩
theorem lw_p8 : lw_okq (⟨"SandInTheShoe$Reader", "readNot", "(I)Z"⟩, 9) := ⟨⟨by decide +kernel, by decide +kernel⟩, List.mem_of_getElem? (i := 64) (by decide +kernel), List.mem_of_getElem? (i := 289) (by decide +kernel), List.mem_of_getElem? (i := 290) (by decide +kernel)⟩
theorem lw_p9 : lw_okq (⟨"SandInTheShoe", "keepsOf", "(II)I"⟩, 12) := ⟨⟨by decide +kernel, by decide +kernel⟩, List.mem_of_getElem? (i := 16) (by decide +kernel), List.mem_of_getElem? (i := 395) (by decide +kernel), List.mem_of_getElem? (i := 396) (by decide +kernel)⟩
theorem lw_p10 : lw_okq (⟨"SandInTheShoe", "nameAll", "(IIIIII)V"⟩, 12) := ⟨⟨by decide +kernel, by decide +kernel⟩, List.mem_of_getElem? (i := 16) (by decide +kernel), List.mem_of_getElem? (i := 399) (by decide +kernel), List.mem_of_getElem? (i := 400) (by decide +kernel)⟩
theorem lw_p11 : lw_okq (⟨"SandInTheShoe", "valueOf", "(III)I"⟩, 12) := ⟨⟨by decide +kernel, by decide +kernel⟩, List.mem_of_getElem? (i := 16) (by decide +kernel), List.mem_of_getElem? (i := 403) (by decide +kernel), List.mem_of_getElem? (i := 404) (by decide +kernel)⟩
theorem lw_p12 : lw_okq (⟨"SandInTheShoe", "sureOf", "(III)I"⟩, 12) := ⟨⟨by decide +kernel, by decide +kernel⟩, List.mem_of_getElem? (i := 16) (by decide +kernel), List.mem_of_getElem? (i := 424) (by decide +kernel), List.mem_of_getElem? (i := 425) (by decide +kernel)⟩
theorem lw_p13 : lw_okq (⟨"SandInTheShoe", "takesNow", "(III)I"⟩, 12) := ⟨⟨by decide +kernel, by decide +kernel⟩, List.mem_of_getElem? (i := 16) (by decide +kernel), List.mem_of_getElem? (i := 431) (by decide +kernel), List.mem_of_getElem? (i := 432) (by decide +kernel)⟩
theorem lw_p14 : lw_okq (⟨"SandInTheShoe", "takesOf", "(IIIIII)I"⟩, 12) := ⟨⟨by decide +kernel, by decide +kernel⟩, List.mem_of_getElem? (i := 16) (by decide +kernel), List.mem_of_getElem? (i := 435) (by decide +kernel), List.mem_of_getElem? (i := 436) (by decide +kernel)⟩
theorem lw_p15 : lw_okq (⟨"SandInTheShoe", "areTwo", "(II)Z"⟩, 12) := ⟨⟨by decide +kernel, by decide +kernel⟩, List.mem_of_getElem? (i := 16) (by decide +kernel), List.mem_of_getElem? (i := 465) (by decide +kernel), List.mem_of_getElem? (i := 466) (by decide +kernel)⟩
def lw_privs_1 : List (MethodName × Nat) := [(⟨"SandInTheShoe$Reader", "next", "()V"⟩, 9), (⟨"SandInTheShoe$Reader", "isIn", "(III)Z"⟩, 9), (⟨"SandInTheShoe$Reader", "nextWord", "()V"⟩, 9), (⟨"SandInTheShoe$Reader", "isToken", "(Ljava/lang/String;)Z"⟩, 9), (⟨"SandInTheShoe$Reader", "nextNumber", "()V"⟩, 9), (⟨"SandInTheShoe$Reader", "readLevel", "(II)Z"⟩, 9), (⟨"SandInTheShoe$Reader", "readOne", "(I)Z"⟩, 9), (⟨"SandInTheShoe$Reader", "put", "(I)V"⟩, 9), (⟨"SandInTheShoe$Reader", "readNot", "(I)Z"⟩, 9), (⟨"SandInTheShoe", "keepsOf", "(II)I"⟩, 12), (⟨"SandInTheShoe", "nameAll", "(IIIIII)V"⟩, 12), (⟨"SandInTheShoe", "valueOf", "(III)I"⟩, 12), (⟨"SandInTheShoe", "sureOf", "(III)I"⟩, 12), (⟨"SandInTheShoe", "takesNow", "(III)I"⟩, 12), (⟨"SandInTheShoe", "takesOf", "(IIIIII)I"⟩, 12), (⟨"SandInTheShoe", "areTwo", "(II)Z"⟩, 12)]
theorem lw_r1 : ∀ q ∈ lw_privs_1, lw_okq q := List.forall_mem_cons.mpr ⟨lw_p0, List.forall_mem_cons.mpr ⟨lw_p1, List.forall_mem_cons.mpr ⟨lw_p2, List.forall_mem_cons.mpr ⟨lw_p3, List.forall_mem_cons.mpr ⟨lw_p4, List.forall_mem_cons.mpr ⟨lw_p5, List.forall_mem_cons.mpr ⟨lw_p6, List.forall_mem_cons.mpr ⟨lw_p7, List.forall_mem_cons.mpr ⟨lw_p8, List.forall_mem_cons.mpr ⟨lw_p9, List.forall_mem_cons.mpr ⟨lw_p10, List.forall_mem_cons.mpr ⟨lw_p11, List.forall_mem_cons.mpr ⟨lw_p12, List.forall_mem_cons.mpr ⟨lw_p13, List.forall_mem_cons.mpr ⟨lw_p14, List.forall_mem_cons.mpr ⟨lw_p15, fun _ h => absurd h List.not_mem_nil⟩⟩⟩⟩⟩⟩⟩⟩⟩⟩⟩⟩⟩⟩⟩⟩
theorem lw_p16 : lw_okq (⟨"SandInTheShoe", "tellsExaminer", "(II)I"⟩, 12) := ⟨⟨by decide +kernel, by decide +kernel⟩, List.mem_of_getElem? (i := 16) (by decide +kernel), List.mem_of_getElem? (i := 476) (by decide +kernel), List.mem_of_getElem? (i := 477) (by decide +kernel)⟩
theorem lw_p17 : lw_okq (⟨"SandInTheShoe", "takesByStays", "(III)I"⟩, 12) := ⟨⟨by decide +kernel, by decide +kernel⟩, List.mem_of_getElem? (i := 16) (by decide +kernel), List.mem_of_getElem? (i := 513) (by decide +kernel), List.mem_of_getElem? (i := 514) (by decide +kernel)⟩
theorem lw_p18 : lw_okq (⟨"SandInTheShoe", "findFits", "(LSandInTheShoe$Sheet;I)I"⟩, 12) := ⟨⟨by decide +kernel, by decide +kernel⟩, List.mem_of_getElem? (i := 16) (by decide +kernel), List.mem_of_getElem? (i := 541) (by decide +kernel), List.mem_of_getElem? (i := 542) (by decide +kernel)⟩
theorem lw_p19 : lw_okq (⟨"SandInTheShoe", "tellDailyTakes", "(I)V"⟩, 12) := ⟨⟨by decide +kernel, by decide +kernel⟩, List.mem_of_getElem? (i := 16) (by decide +kernel), List.mem_of_getElem? (i := 549) (by decide +kernel), List.mem_of_getElem? (i := 550) (by decide +kernel)⟩
theorem lw_p20 : lw_okq (⟨"SandInTheShoe$Fit", "clear", "()V"⟩, 8) := ⟨⟨by decide +kernel, by decide +kernel⟩, List.mem_of_getElem? (i := 105) (by decide +kernel), List.mem_of_getElem? (i := 557) (by decide +kernel), List.mem_of_getElem? (i := 558) (by decide +kernel)⟩
theorem lw_p21 : lw_okq (⟨"SandInTheShoe$Fit", "isInShoe", "([I)Z"⟩, 8) := ⟨⟨by decide +kernel, by decide +kernel⟩, List.mem_of_getElem? (i := 105) (by decide +kernel), List.mem_of_getElem? (i := 561) (by decide +kernel), List.mem_of_getElem? (i := 562) (by decide +kernel)⟩
theorem lw_p22 : lw_okq (⟨"SandInTheShoe$Fit", "found", "()V"⟩, 8) := ⟨⟨by decide +kernel, by decide +kernel⟩, List.mem_of_getElem? (i := 105) (by decide +kernel), List.mem_of_getElem? (i := 565) (by decide +kernel), List.mem_of_getElem? (i := 566) (by decide +kernel)⟩
theorem lw_p23 : lw_okq (⟨"SandInTheShoe$Fit", "stepOn", "([I)V"⟩, 8) := ⟨⟨by decide +kernel, by decide +kernel⟩, List.mem_of_getElem? (i := 105) (by decide +kernel), List.mem_of_getElem? (i := 569) (by decide +kernel), List.mem_of_getElem? (i := 570) (by decide +kernel)⟩
theorem lw_p24 : lw_okq (⟨"SandInTheShoe$Fit", "takeUp", "([III)V"⟩, 8) := ⟨⟨by decide +kernel, by decide +kernel⟩, List.mem_of_getElem? (i := 105) (by decide +kernel), List.mem_of_getElem? (i := 573) (by decide +kernel), List.mem_of_getElem? (i := 574) (by decide +kernel)⟩
theorem lw_p25 : lw_okq (⟨"SandInTheShoe", "apartAfter", "(IIII)I"⟩, 12) := ⟨⟨by decide +kernel, by decide +kernel⟩, List.mem_of_getElem? (i := 16) (by decide +kernel), List.mem_of_getElem? (i := 588) (by decide +kernel), List.mem_of_getElem? (i := 589) (by decide +kernel)⟩
theorem lw_p26 : lw_okq (⟨"SandInTheShoe", "goInThought", "(I)V"⟩, 12) := ⟨⟨by decide +kernel, by decide +kernel⟩, List.mem_of_getElem? (i := 16) (by decide +kernel), List.mem_of_getElem? (i := 592) (by decide +kernel), List.mem_of_getElem? (i := 593) (by decide +kernel)⟩
theorem lw_p27 : lw_okq (⟨"SandInTheShoe", "bitsThatTell", "(LSandInTheShoe$Sheet;IIII)I"⟩, 12) := ⟨⟨by decide +kernel, by decide +kernel⟩, List.mem_of_getElem? (i := 16) (by decide +kernel), List.mem_of_getElem? (i := 604) (by decide +kernel), List.mem_of_getElem? (i := 605) (by decide +kernel)⟩
theorem lw_p28 : lw_okq (⟨"SandInTheShoe", "firstOtherwise", "(LSandInTheShoe$Sheet;IIII)I"⟩, 12) := ⟨⟨by decide +kernel, by decide +kernel⟩, List.mem_of_getElem? (i := 16) (by decide +kernel), List.mem_of_getElem? (i := 608) (by decide +kernel), List.mem_of_getElem? (i := 609) (by decide +kernel)⟩
theorem lw_p29 : lw_okq (⟨"SandInTheShoe", "daysThatTell", "(LSandInTheShoe$Sheet;II)I"⟩, 12) := ⟨⟨by decide +kernel, by decide +kernel⟩, List.mem_of_getElem? (i := 16) (by decide +kernel), List.mem_of_getElem? (i := 612) (by decide +kernel), List.mem_of_getElem? (i := 613) (by decide +kernel)⟩
theorem lw_p30 : lw_okq (⟨"SandInTheShoe", "leastDayThatTells", "(LSandInTheShoe$Sheet;II)I"⟩, 12) := ⟨⟨by decide +kernel, by decide +kernel⟩, List.mem_of_getElem? (i := 16) (by decide +kernel), List.mem_of_getElem? (i := 616) (by decide +kernel), List.mem_of_getElem? (i := 617) (by decide +kernel)⟩
theorem lw_p31 : lw_okq (⟨"SandInTheShoe", "allAfterDrawn", "(III)I"⟩, 12) := ⟨⟨by decide +kernel, by decide +kernel⟩, List.mem_of_getElem? (i := 16) (by decide +kernel), List.mem_of_getElem? (i := 628) (by decide +kernel), List.mem_of_getElem? (i := 629) (by decide +kernel)⟩
def lw_privs_2 : List (MethodName × Nat) := [(⟨"SandInTheShoe", "tellsExaminer", "(II)I"⟩, 12), (⟨"SandInTheShoe", "takesByStays", "(III)I"⟩, 12), (⟨"SandInTheShoe", "findFits", "(LSandInTheShoe$Sheet;I)I"⟩, 12), (⟨"SandInTheShoe", "tellDailyTakes", "(I)V"⟩, 12), (⟨"SandInTheShoe$Fit", "clear", "()V"⟩, 8), (⟨"SandInTheShoe$Fit", "isInShoe", "([I)Z"⟩, 8), (⟨"SandInTheShoe$Fit", "found", "()V"⟩, 8), (⟨"SandInTheShoe$Fit", "stepOn", "([I)V"⟩, 8), (⟨"SandInTheShoe$Fit", "takeUp", "([III)V"⟩, 8), (⟨"SandInTheShoe", "apartAfter", "(IIII)I"⟩, 12), (⟨"SandInTheShoe", "goInThought", "(I)V"⟩, 12), (⟨"SandInTheShoe", "bitsThatTell", "(LSandInTheShoe$Sheet;IIII)I"⟩, 12), (⟨"SandInTheShoe", "firstOtherwise", "(LSandInTheShoe$Sheet;IIII)I"⟩, 12), (⟨"SandInTheShoe", "daysThatTell", "(LSandInTheShoe$Sheet;II)I"⟩, 12), (⟨"SandInTheShoe", "leastDayThatTells", "(LSandInTheShoe$Sheet;II)I"⟩, 12), (⟨"SandInTheShoe", "allAfterDrawn", "(III)I"⟩, 12)]
theorem lw_r2 : ∀ q ∈ lw_privs_2, lw_okq q := List.forall_mem_cons.mpr ⟨lw_p16, List.forall_mem_cons.mpr ⟨lw_p17, List.forall_mem_cons.mpr ⟨lw_p18, List.forall_mem_cons.mpr ⟨lw_p19, List.forall_mem_cons.mpr ⟨lw_p20, List.forall_mem_cons.mpr ⟨lw_p21, List.forall_mem_cons.mpr ⟨lw_p22, List.forall_mem_cons.mpr ⟨lw_p23, List.forall_mem_cons.mpr ⟨lw_p24, List.forall_mem_cons.mpr ⟨lw_p25, List.forall_mem_cons.mpr ⟨lw_p26, List.forall_mem_cons.mpr ⟨lw_p27, List.forall_mem_cons.mpr ⟨lw_p28, List.forall_mem_cons.mpr ⟨lw_p29, List.forall_mem_cons.mpr ⟨lw_p30, List.forall_mem_cons.mpr ⟨lw_p31, fun _ h => absurd h List.not_mem_nil⟩⟩⟩⟩⟩⟩⟩⟩⟩⟩⟩⟩⟩⟩⟩⟩
theorem lw_p32 : lw_okq (⟨"SandInTheShoe", "stayInThought", "(III)V"⟩, 12) := ⟨⟨by decide +kernel, by decide +kernel⟩, List.mem_of_getElem? (i := 16) (by decide +kernel), List.mem_of_getElem? (i := 633) (by decide +kernel), List.mem_of_getElem? (i := 634) (by decide +kernel)⟩
theorem lw_p33 : lw_okq (⟨"SandInTheShoeModel", "spell", "(IIIIIIIII)V"⟩, 49) := ⟨⟨by decide +kernel, by decide +kernel⟩, List.mem_of_getElem? (i := 699) (by decide +kernel), List.mem_of_getElem? (i := 705) (by decide +kernel), List.mem_of_getElem? (i := 706) (by decide +kernel)⟩
theorem lw_p34 : lw_okq (⟨"SandInTheShoeModel", "isOf", "(II)Z"⟩, 49) := ⟨⟨by decide +kernel, by decide +kernel⟩, List.mem_of_getElem? (i := 699) (by decide +kernel), List.mem_of_getElem? (i := 865) (by decide +kernel), List.mem_of_getElem? (i := 866) (by decide +kernel)⟩
theorem lw_p35 : lw_okq (⟨"SandInTheShoeModel", "isOne", "(I)Z"⟩, 49) := ⟨⟨by decide +kernel, by decide +kernel⟩, List.mem_of_getElem? (i := 699) (by decide +kernel), List.mem_of_getElem? (i := 874) (by decide +kernel), List.mem_of_getElem? (i := 875) (by decide +kernel)⟩
theorem lw_p36 : lw_okq (⟨"SandInTheShoeModel", "shoeOf", "(I)I"⟩, 49) := ⟨⟨by decide +kernel, by decide +kernel⟩, List.mem_of_getElem? (i := 699) (by decide +kernel), List.mem_of_getElem? (i := 892) (by decide +kernel), List.mem_of_getElem? (i := 893) (by decide +kernel)⟩
theorem lw_p37 : lw_okq (⟨"SandInTheShoeModel", "coastOf", "(I)I"⟩, 49) := ⟨⟨by decide +kernel, by decide +kernel⟩, List.mem_of_getElem? (i := 699) (by decide +kernel), List.mem_of_getElem? (i := 896) (by decide +kernel), List.mem_of_getElem? (i := 897) (by decide +kernel)⟩
theorem lw_p38 : lw_okq (⟨"SandInTheShoeModel", "lays", "(III)V"⟩, 49) := ⟨⟨by decide +kernel, by decide +kernel⟩, List.mem_of_getElem? (i := 699) (by decide +kernel), List.mem_of_getElem? (i := 900) (by decide +kernel), List.mem_of_getElem? (i := 901) (by decide +kernel)⟩
theorem lw_p39 : lw_okq (⟨"SandInTheShoeModel", "read", "(II)I"⟩, 49) := ⟨⟨by decide +kernel, by decide +kernel⟩, List.mem_of_getElem? (i := 699) (by decide +kernel), List.mem_of_getElem? (i := 919) (by decide +kernel), List.mem_of_getElem? (i := 920) (by decide +kernel)⟩
theorem lw_p40 : lw_okq (⟨"SandInTheShoeModel", "next", "()V"⟩, 49) := ⟨⟨by decide +kernel, by decide +kernel⟩, List.mem_of_getElem? (i := 699) (by decide +kernel), List.mem_of_getElem? (i := 923) (by decide +kernel), List.mem_of_getElem? (i := 924) (by decide +kernel)⟩
theorem lw_p41 : lw_okq (⟨"SandInTheShoeModel", "byteAt", "(I)I"⟩, 49) := ⟨⟨by decide +kernel, by decide +kernel⟩, List.mem_of_getElem? (i := 699) (by decide +kernel), List.mem_of_getElem? (i := 927) (by decide +kernel), List.mem_of_getElem? (i := 928) (by decide +kernel)⟩
theorem lw_p42 : lw_okq (⟨"SandInTheShoeModel", "isWord", "(IIIIIIII)Z"⟩, 49) := ⟨⟨by decide +kernel, by decide +kernel⟩, List.mem_of_getElem? (i := 699) (by decide +kernel), List.mem_of_getElem? (i := 936) (by decide +kernel), List.mem_of_getElem? (i := 937) (by decide +kernel)⟩
theorem lw_p43 : lw_okq (⟨"SandInTheShoeModel", "isLetter", "(II)Z"⟩, 49) := ⟨⟨by decide +kernel, by decide +kernel⟩, List.mem_of_getElem? (i := 699) (by decide +kernel), List.mem_of_getElem? (i := 940) (by decide +kernel), List.mem_of_getElem? (i := 941) (by decide +kernel)⟩
theorem lw_p44 : lw_okq (⟨"SandInTheShoeModel", "part", "(Z)I"⟩, 49) := ⟨⟨by decide +kernel, by decide +kernel⟩, List.mem_of_getElem? (i := 699) (by decide +kernel), List.mem_of_getElem? (i := 944) (by decide +kernel), List.mem_of_getElem? (i := 945) (by decide +kernel)⟩
theorem lw_p45 : lw_okq (⟨"SandInTheShoeModel", "fail", "()V"⟩, 49) := ⟨⟨by decide +kernel, by decide +kernel⟩, List.mem_of_getElem? (i := 699) (by decide +kernel), List.mem_of_getElem? (i := 948) (by decide +kernel), List.mem_of_getElem? (i := 949) (by decide +kernel)⟩
theorem lw_p46 : lw_okq (⟨"SandInTheShoeModel", "either", "()I"⟩, 49) := ⟨⟨by decide +kernel, by decide +kernel⟩, List.mem_of_getElem? (i := 699) (by decide +kernel), List.mem_of_getElem? (i := 952) (by decide +kernel), List.mem_of_getElem? (i := 953) (by decide +kernel)⟩
theorem lw_p47 : lw_okq (⟨"SandInTheShoeModel", "both", "()I"⟩, 49) := ⟨⟨by decide +kernel, by decide +kernel⟩, List.mem_of_getElem? (i := 699) (by decide +kernel), List.mem_of_getElem? (i := 956) (by decide +kernel), List.mem_of_getElem? (i := 957) (by decide +kernel)⟩
def lw_privs_3 : List (MethodName × Nat) := [(⟨"SandInTheShoe", "stayInThought", "(III)V"⟩, 12), (⟨"SandInTheShoeModel", "spell", "(IIIIIIIII)V"⟩, 49), (⟨"SandInTheShoeModel", "isOf", "(II)Z"⟩, 49), (⟨"SandInTheShoeModel", "isOne", "(I)Z"⟩, 49), (⟨"SandInTheShoeModel", "shoeOf", "(I)I"⟩, 49), (⟨"SandInTheShoeModel", "coastOf", "(I)I"⟩, 49), (⟨"SandInTheShoeModel", "lays", "(III)V"⟩, 49), (⟨"SandInTheShoeModel", "read", "(II)I"⟩, 49), (⟨"SandInTheShoeModel", "next", "()V"⟩, 49), (⟨"SandInTheShoeModel", "byteAt", "(I)I"⟩, 49), (⟨"SandInTheShoeModel", "isWord", "(IIIIIIII)Z"⟩, 49), (⟨"SandInTheShoeModel", "isLetter", "(II)Z"⟩, 49), (⟨"SandInTheShoeModel", "part", "(Z)I"⟩, 49), (⟨"SandInTheShoeModel", "fail", "()V"⟩, 49), (⟨"SandInTheShoeModel", "either", "()I"⟩, 49), (⟨"SandInTheShoeModel", "both", "()I"⟩, 49)]
theorem lw_r3 : ∀ q ∈ lw_privs_3, lw_okq q := List.forall_mem_cons.mpr ⟨lw_p32, List.forall_mem_cons.mpr ⟨lw_p33, List.forall_mem_cons.mpr ⟨lw_p34, List.forall_mem_cons.mpr ⟨lw_p35, List.forall_mem_cons.mpr ⟨lw_p36, List.forall_mem_cons.mpr ⟨lw_p37, List.forall_mem_cons.mpr ⟨lw_p38, List.forall_mem_cons.mpr ⟨lw_p39, List.forall_mem_cons.mpr ⟨lw_p40, List.forall_mem_cons.mpr ⟨lw_p41, List.forall_mem_cons.mpr ⟨lw_p42, List.forall_mem_cons.mpr ⟨lw_p43, List.forall_mem_cons.mpr ⟨lw_p44, List.forall_mem_cons.mpr ⟨lw_p45, List.forall_mem_cons.mpr ⟨lw_p46, List.forall_mem_cons.mpr ⟨lw_p47, fun _ h => absurd h List.not_mem_nil⟩⟩⟩⟩⟩⟩⟩⟩⟩⟩⟩⟩⟩⟩⟩⟩
theorem lw_p48 : lw_okq (⟨"SandInTheShoeModel", "not", "()I"⟩, 49) := ⟨⟨by decide +kernel, by decide +kernel⟩, List.mem_of_getElem? (i := 699) (by decide +kernel), List.mem_of_getElem? (i := 960) (by decide +kernel), List.mem_of_getElem? (i := 961) (by decide +kernel)⟩
theorem lw_p49 : lw_okq (⟨"SandInTheShoeModel", "opens", "()Z"⟩, 49) := ⟨⟨by decide +kernel, by decide +kernel⟩, List.mem_of_getElem? (i := 699) (by decide +kernel), List.mem_of_getElem? (i := 964) (by decide +kernel), List.mem_of_getElem? (i := 965) (by decide +kernel)⟩
theorem lw_p50 : lw_okq (⟨"SandInTheShoeModel", "added", "()I"⟩, 49) := ⟨⟨by decide +kernel, by decide +kernel⟩, List.mem_of_getElem? (i := 699) (by decide +kernel), List.mem_of_getElem? (i := 968) (by decide +kernel), List.mem_of_getElem? (i := 969) (by decide +kernel)⟩
theorem lw_p51 : lw_okq (⟨"SandInTheShoeModel", "term", "()I"⟩, 49) := ⟨⟨by decide +kernel, by decide +kernel⟩, List.mem_of_getElem? (i := 699) (by decide +kernel), List.mem_of_getElem? (i := 972) (by decide +kernel), List.mem_of_getElem? (i := 973) (by decide +kernel)⟩
theorem lw_p52 : lw_okq (⟨"SandInTheShoeModel", "atom", "()I"⟩, 49) := ⟨⟨by decide +kernel, by decide +kernel⟩, List.mem_of_getElem? (i := 699) (by decide +kernel), List.mem_of_getElem? (i := 976) (by decide +kernel), List.mem_of_getElem? (i := 977) (by decide +kernel)⟩
theorem lw_p53 : lw_okq (⟨"SandInTheShoeModel", "isSign", "(I)Z"⟩, 49) := ⟨⟨by decide +kernel, by decide +kernel⟩, List.mem_of_getElem? (i := 699) (by decide +kernel), List.mem_of_getElem? (i := 980) (by decide +kernel), List.mem_of_getElem? (i := 981) (by decide +kernel)⟩
theorem lw_p54 : lw_okq (⟨"SandInTheShoeModel", "name", "()I"⟩, 49) := ⟨⟨by decide +kernel, by decide +kernel⟩, List.mem_of_getElem? (i := 699) (by decide +kernel), List.mem_of_getElem? (i := 984) (by decide +kernel), List.mem_of_getElem? (i := 985) (by decide +kernel)⟩
theorem lw_p55 : lw_okq (⟨"SandInTheShoeModel", "takesOf", "(III)I"⟩, 49) := ⟨⟨by decide +kernel, by decide +kernel⟩, List.mem_of_getElem? (i := 699) (by decide +kernel), List.mem_of_getElem? (i := 998) (by decide +kernel), List.mem_of_getElem? (i := 999) (by decide +kernel)⟩
theorem lw_p56 : lw_okq (⟨"SandInTheShoeModel", "says", "(IIIIII)I"⟩, 49) := ⟨⟨by decide +kernel, by decide +kernel⟩, List.mem_of_getElem? (i := 699) (by decide +kernel), List.mem_of_getElem? (i := 1002) (by decide +kernel), List.mem_of_getElem? (i := 1003) (by decide +kernel)⟩
theorem lw_p57 : lw_okq (⟨"SandInTheShoeModel", "keepsOf", "(II)I"⟩, 49) := ⟨⟨by decide +kernel, by decide +kernel⟩, List.mem_of_getElem? (i := 699) (by decide +kernel), List.mem_of_getElem? (i := 1009) (by decide +kernel), List.mem_of_getElem? (i := 1010) (by decide +kernel)⟩
theorem lw_p58 : lw_okq (⟨"SandInTheShoeModel", "sureOf", "(III)I"⟩, 49) := ⟨⟨by decide +kernel, by decide +kernel⟩, List.mem_of_getElem? (i := 699) (by decide +kernel), List.mem_of_getElem? (i := 1013) (by decide +kernel), List.mem_of_getElem? (i := 1014) (by decide +kernel)⟩
theorem lw_p59 : lw_okq (⟨"SandInTheShoeModel", "stays1", "(II)V"⟩, 49) := ⟨⟨by decide +kernel, by decide +kernel⟩, List.mem_of_getElem? (i := 699) (by decide +kernel), List.mem_of_getElem? (i := 1021) (by decide +kernel), List.mem_of_getElem? (i := 1022) (by decide +kernel)⟩
theorem lw_p60 : lw_okq (⟨"SandInTheShoeModel", "areTwo", "(II)Z"⟩, 49) := ⟨⟨by decide +kernel, by decide +kernel⟩, List.mem_of_getElem? (i := 699) (by decide +kernel), List.mem_of_getElem? (i := 1033) (by decide +kernel), List.mem_of_getElem? (i := 1034) (by decide +kernel)⟩
theorem lw_p61 : lw_okq (⟨"SandInTheShoeModel", "apart", "(II)I"⟩, 49) := ⟨⟨by decide +kernel, by decide +kernel⟩, List.mem_of_getElem? (i := 699) (by decide +kernel), List.mem_of_getElem? (i := 1037) (by decide +kernel), List.mem_of_getElem? (i := 1038) (by decide +kernel)⟩
theorem lw_p62 : lw_okq (⟨"SandInTheShoeModel", "tellsOf", "(II)I"⟩, 49) := ⟨⟨by decide +kernel, by decide +kernel⟩, List.mem_of_getElem? (i := 699) (by decide +kernel), List.mem_of_getElem? (i := 1041) (by decide +kernel), List.mem_of_getElem? (i := 1042) (by decide +kernel)⟩
theorem lw_p63 : lw_okq (⟨"SandInTheShoeModel", "tables", "(I)V"⟩, 49) := ⟨⟨by decide +kernel, by decide +kernel⟩, List.mem_of_getElem? (i := 699) (by decide +kernel), List.mem_of_getElem? (i := 1066) (by decide +kernel), List.mem_of_getElem? (i := 1067) (by decide +kernel)⟩
def lw_privs_4 : List (MethodName × Nat) := [(⟨"SandInTheShoeModel", "not", "()I"⟩, 49), (⟨"SandInTheShoeModel", "opens", "()Z"⟩, 49), (⟨"SandInTheShoeModel", "added", "()I"⟩, 49), (⟨"SandInTheShoeModel", "term", "()I"⟩, 49), (⟨"SandInTheShoeModel", "atom", "()I"⟩, 49), (⟨"SandInTheShoeModel", "isSign", "(I)Z"⟩, 49), (⟨"SandInTheShoeModel", "name", "()I"⟩, 49), (⟨"SandInTheShoeModel", "takesOf", "(III)I"⟩, 49), (⟨"SandInTheShoeModel", "says", "(IIIIII)I"⟩, 49), (⟨"SandInTheShoeModel", "keepsOf", "(II)I"⟩, 49), (⟨"SandInTheShoeModel", "sureOf", "(III)I"⟩, 49), (⟨"SandInTheShoeModel", "stays1", "(II)V"⟩, 49), (⟨"SandInTheShoeModel", "areTwo", "(II)Z"⟩, 49), (⟨"SandInTheShoeModel", "apart", "(II)I"⟩, 49), (⟨"SandInTheShoeModel", "tellsOf", "(II)I"⟩, 49), (⟨"SandInTheShoeModel", "tables", "(I)V"⟩, 49)]
theorem lw_r4 : ∀ q ∈ lw_privs_4, lw_okq q := List.forall_mem_cons.mpr ⟨lw_p48, List.forall_mem_cons.mpr ⟨lw_p49, List.forall_mem_cons.mpr ⟨lw_p50, List.forall_mem_cons.mpr ⟨lw_p51, List.forall_mem_cons.mpr ⟨lw_p52, List.forall_mem_cons.mpr ⟨lw_p53, List.forall_mem_cons.mpr ⟨lw_p54, List.forall_mem_cons.mpr ⟨lw_p55, List.forall_mem_cons.mpr ⟨lw_p56, List.forall_mem_cons.mpr ⟨lw_p57, List.forall_mem_cons.mpr ⟨lw_p58, List.forall_mem_cons.mpr ⟨lw_p59, List.forall_mem_cons.mpr ⟨lw_p60, List.forall_mem_cons.mpr ⟨lw_p61, List.forall_mem_cons.mpr ⟨lw_p62, List.forall_mem_cons.mpr ⟨lw_p63, fun _ h => absurd h List.not_mem_nil⟩⟩⟩⟩⟩⟩⟩⟩⟩⟩⟩⟩⟩⟩⟩⟩
theorem lw_p64 : lw_okq (⟨"SandInTheShoeModel", "packed", "(II)I"⟩, 49) := ⟨⟨by decide +kernel, by decide +kernel⟩, List.mem_of_getElem? (i := 699) (by decide +kernel), List.mem_of_getElem? (i := 1070) (by decide +kernel), List.mem_of_getElem? (i := 1071) (by decide +kernel)⟩
theorem lw_p65 : lw_okq (⟨"SandInTheShoeModel", "looks", "(II)V"⟩, 49) := ⟨⟨by decide +kernel, by decide +kernel⟩, List.mem_of_getElem? (i := 699) (by decide +kernel), List.mem_of_getElem? (i := 1094) (by decide +kernel), List.mem_of_getElem? (i := 1095) (by decide +kernel)⟩
theorem lw_p66 : lw_okq (⟨"SandInTheShoeModel", "fits", "(II)Z"⟩, 49) := ⟨⟨by decide +kernel, by decide +kernel⟩, List.mem_of_getElem? (i := 699) (by decide +kernel), List.mem_of_getElem? (i := 1098) (by decide +kernel), List.mem_of_getElem? (i := 1099) (by decide +kernel)⟩
theorem lw_p67 : lw_okq (⟨"SandInTheShoeModel", "goes", "(IIIII)V"⟩, 49) := ⟨⟨by decide +kernel, by decide +kernel⟩, List.mem_of_getElem? (i := 699) (by decide +kernel), List.mem_of_getElem? (i := 1119) (by decide +kernel), List.mem_of_getElem? (i := 1120) (by decide +kernel)⟩
theorem lw_p68 : lw_okq (⟨"SandInTheShoeModel", "firstOther", "(III)I"⟩, 49) := ⟨⟨by decide +kernel, by decide +kernel⟩, List.mem_of_getElem? (i := 699) (by decide +kernel), List.mem_of_getElem? (i := 1128) (by decide +kernel), List.mem_of_getElem? (i := 1129) (by decide +kernel)⟩
theorem lw_p69 : lw_okq (⟨"SandInTheShoeModel", "coastSet", "(II)I"⟩, 49) := ⟨⟨by decide +kernel, by decide +kernel⟩, List.mem_of_getElem? (i := 699) (by decide +kernel), List.mem_of_getElem? (i := 1132) (by decide +kernel), List.mem_of_getElem? (i := 1133) (by decide +kernel)⟩
theorem lw_p70 : lw_okq (⟨"SandInTheShoeModel", "shoeDrawn", "(III)I"⟩, 49) := ⟨⟨by decide +kernel, by decide +kernel⟩, List.mem_of_getElem? (i := 699) (by decide +kernel), List.mem_of_getElem? (i := 1145) (by decide +kernel), List.mem_of_getElem? (i := 1146) (by decide +kernel)⟩
def lw_privs_5 : List (MethodName × Nat) := [(⟨"SandInTheShoeModel", "packed", "(II)I"⟩, 49), (⟨"SandInTheShoeModel", "looks", "(II)V"⟩, 49), (⟨"SandInTheShoeModel", "fits", "(II)Z"⟩, 49), (⟨"SandInTheShoeModel", "goes", "(IIIII)V"⟩, 49), (⟨"SandInTheShoeModel", "firstOther", "(III)I"⟩, 49), (⟨"SandInTheShoeModel", "coastSet", "(II)I"⟩, 49), (⟨"SandInTheShoeModel", "shoeDrawn", "(III)I"⟩, 49)]
theorem lw_r5 : ∀ q ∈ lw_privs_5, lw_okq q := List.forall_mem_cons.mpr ⟨lw_p64, List.forall_mem_cons.mpr ⟨lw_p65, List.forall_mem_cons.mpr ⟨lw_p66, List.forall_mem_cons.mpr ⟨lw_p67, List.forall_mem_cons.mpr ⟨lw_p68, List.forall_mem_cons.mpr ⟨lw_p69, List.forall_mem_cons.mpr ⟨lw_p70, fun _ h => absurd h List.not_mem_nil⟩⟩⟩⟩⟩⟩⟩
def lw_privs : List (MethodName × Nat) := lw_privs_1 ++ (lw_privs_2 ++ (lw_privs_3 ++ (lw_privs_4 ++ (lw_privs_5))))
def lw_tbl : List Cond := k2_sels lw_privs ++ tables_1
theorem lw_privs_ok : ∀ q ∈ lw_privs, lw_okq q := by
  show ∀ q ∈ lw_privs_1 ++ (lw_privs_2 ++ (lw_privs_3 ++ (lw_privs_4 ++ (lw_privs_5)))), lw_okq q
  exact List.forall_mem_append.mpr ⟨lw_r1, List.forall_mem_append.mpr ⟨lw_r2, List.forall_mem_append.mpr ⟨lw_r3, List.forall_mem_append.mpr ⟨lw_r4, lw_r5⟩⟩⟩⟩
-- ===== end of PART A; then your names; then what follows =====

def RX0 : String := "SandInTheShoe$Fit"
def RX2 : String := "SandInTheShoe$Reader"
def RX3 : String := "SandInTheShoe$Sheet"
def RX4 : String := "SandInTheShoe$Text"
def RX5 : String := "SandInTheShoe$World"
def RX6 : String := "SandInTheShoe"
def RX7 : String := "SandInTheShoeModel"
def RX1 : String := "SandInTheShoe$Kinds"
def RL : String := "SandInTheShoeLaw"
def TX0 : u_T := fun k => match k with
  | 0 => ("SandInTheShoe$Fit", "count", "I", false)
  | 1 => ("SandInTheShoe$Fit", "first", "I", false)
  | 2 => ("SandInTheShoe$Fit", "firstDays", "I", false)
  | 3 => ("SandInTheShoe$Fit", "must", "I", false)
  | 4 => ("SandInTheShoe$Fit", "may", "I", false)
  | 5 => ("SandInTheShoe$Fit", "onCoast", "[I", true)
  | 6 => ("SandInTheShoe$Fit", "days", "[I", true)
  | _ => ("SandInTheShoe$Fit", "shoe", "[I", true)
def tyX0 : Nat → FieldType := fun k => match k with
  | 0 => .int
  | 1 => .int
  | 2 => .int
  | 3 => .int
  | 4 => .int
  | 5 => .array .int
  | 6 => .array .int
  | _ => .array .int
theorem nmX0 : ∀ a, a < 8 → ∀ b, b < 8 → a ≠ b → (TX0 a).2.1 ≠ (TX0 b).2.1 := by decide +kernel
theorem tyX0_ok : ∀ k, k < 8 → parseFieldDescriptor (TX0 k).2.2.1 = some (tyX0 k) := by decide +kernel
def TX2 : u_T := fun k => match k with
  | 0 => ("SandInTheShoe$Reader", "tape", "[I", true)
  | 1 => ("SandInTheShoe$Reader", "size", "I", false)
  | 2 => ("SandInTheShoe$Reader", "code", "[I", true)
  | 3 => ("SandInTheShoe$Reader", "ends", "[I", true)
  | 4 => ("SandInTheShoe$Reader", "steps", "I", false)
  | 5 => ("SandInTheShoe$Reader", "at", "I", false)
  | 6 => ("SandInTheShoe$Reader", "token", "I", false)
  | 7 => ("SandInTheShoe$Reader", "tokenAt", "I", false)
  | _ => ("SandInTheShoe$Reader", "value", "I", false)
def tyX2 : Nat → FieldType := fun k => match k with
  | 0 => .array .int
  | 1 => .int
  | 2 => .array .int
  | 3 => .array .int
  | 4 => .int
  | 5 => .int
  | 6 => .int
  | 7 => .int
  | _ => .int
theorem nmX2 : ∀ a, a < 9 → ∀ b, b < 9 → a ≠ b → (TX2 a).2.1 ≠ (TX2 b).2.1 := by decide +kernel
theorem tyX2_ok : ∀ k, k < 9 → parseFieldDescriptor (TX2 k).2.2.1 = some (tyX2 k) := by decide +kernel
def TX3 : u_T := fun k => match k with
  | 0 => ("SandInTheShoe$Sheet", "sort", "I", false)
  | 1 => ("SandInTheShoe$Sheet", "size", "I", false)
  | _ => ("SandInTheShoe$Sheet", "row", "[I", true)
def tyX3 : Nat → FieldType := fun k => match k with
  | 0 => .int
  | 1 => .int
  | _ => .array .int
theorem nmX3 : ∀ a, a < 3 → ∀ b, b < 3 → a ≠ b → (TX3 a).2.1 ≠ (TX3 b).2.1 := by decide +kernel
theorem tyX3_ok : ∀ k, k < 3 → parseFieldDescriptor (TX3 k).2.2.1 = some (tyX3 k) := by decide +kernel
def TX4 : u_T := fun k => match k with
  | 0 => ("SandInTheShoe$Text", "code", "[I", true)
  | _ => ("SandInTheShoe$Text", "ends", "[I", true)
def tyX4 : Nat → FieldType := fun k => match k with
  | 0 => .array .int
  | _ => .array .int
theorem nmX4 : ∀ a, a < 2 → ∀ b, b < 2 → a ≠ b → (TX4 a).2.1 ≠ (TX4 b).2.1 := by decide +kernel
theorem tyX4_ok : ∀ k, k < 2 → parseFieldDescriptor (TX4 k).2.2.1 = some (tyX4 k) := by decide +kernel
def TX5 : u_T := fun k => match k with
  | 0 => ("SandInTheShoe$World", "day", "I", false)
  | 1 => ("SandInTheShoe$World", "rule", "I", false)
  | 2 => ("SandInTheShoe$World", "people", "I", false)
  | 3 => ("SandInTheShoe$World", "coasts", "[I", true)
  | 4 => ("SandInTheShoe$World", "shoes", "[I", true)
  | 5 => ("SandInTheShoe$World", "kinds", "[I", true)
  | 6 => ("SandInTheShoe$World", "numbers", "[I", true)
  | _ => ("SandInTheShoe$World", "out", "[I", true)
def tyX5 : Nat → FieldType := fun k => match k with
  | 0 => .int
  | 1 => .int
  | 2 => .int
  | 3 => .array .int
  | 4 => .array .int
  | 5 => .array .int
  | 6 => .array .int
  | _ => .array .int
theorem nmX5 : ∀ a, a < 8 → ∀ b, b < 8 → a ≠ b → (TX5 a).2.1 ≠ (TX5 b).2.1 := by decide +kernel
theorem tyX5_ok : ∀ k, k < 8 → parseFieldDescriptor (TX5 k).2.2.1 = some (tyX5 k) := by decide +kernel
def TX6 : u_T := fun k => match k with
  | 0 => ("SandInTheShoe", "now", "LSandInTheShoe$World;", true)
  | 1 => ("SandInTheShoe", "image", "LSandInTheShoe$World;", true)
  | 2 => ("SandInTheShoe", "imageKept", "Z", false)
  | 3 => ("SandInTheShoe", "reader", "LSandInTheShoe$Reader;", true)
  | 4 => ("SandInTheShoe", "texts", "[LSandInTheShoe$Text;", true)
  | 5 => ("SandInTheShoe", "textCount", "I", false)
  | 6 => ("SandInTheShoe", "sheets", "[LSandInTheShoe$Sheet;", true)
  | 7 => ("SandInTheShoe", "fitting", "LSandInTheShoe$Fit;", true)
  | 8 => ("SandInTheShoe", "names", "[I", true)
  | 9 => ("SandInTheShoe", "stack", "[I", true)
  | 10 => ("SandInTheShoe", "dailyTakes", "[I", true)
  | _ => ("SandInTheShoe", "thought", "[I", true)
def tyX6 : Nat → FieldType := fun k => match k with
  | 0 => .object "SandInTheShoe$World"
  | 1 => .object "SandInTheShoe$World"
  | 2 => .boolean
  | 3 => .object "SandInTheShoe$Reader"
  | 4 => .array (.object "SandInTheShoe$Text")
  | 5 => .int
  | 6 => .array (.object "SandInTheShoe$Sheet")
  | 7 => .object "SandInTheShoe$Fit"
  | 8 => .array .int
  | 9 => .array .int
  | 10 => .array .int
  | _ => .array .int
theorem nmX6 : ∀ a, a < 12 → ∀ b, b < 12 → a ≠ b → (TX6 a).2.1 ≠ (TX6 b).2.1 := by decide +kernel
theorem tyX6_ok : ∀ k, k < 12 → parseFieldDescriptor (TX6 k).2.2.1 = some (tyX6 k) := by decide +kernel
def TX7 : u_T := fun k => match k with
  | 0 => ("SandInTheShoeModel", "thrown", "I", false)
  | 1 => ("SandInTheShoeModel", "texts", "[I", true)
  | 2 => ("SandInTheShoeModel", "textSize", "[I", true)
  | 3 => ("SandInTheShoeModel", "textCount", "I", false)
  | 4 => ("SandInTheShoeModel", "rule", "I", false)
  | 5 => ("SandInTheShoeModel", "tape", "[I", true)
  | 6 => ("SandInTheShoeModel", "taped", "I", false)
  | 7 => ("SandInTheShoeModel", "dayNow", "I", false)
  | 8 => ("SandInTheShoeModel", "grains", "[I", true)
  | 9 => ("SandInTheShoeModel", "kinds", "[I", true)
  | 10 => ("SandInTheShoeModel", "rows", "[I", true)
  | 11 => ("SandInTheShoeModel", "shoes", "[I", true)
  | 12 => ("SandInTheShoeModel", "many", "I", false)
  | 13 => ("SandInTheShoeModel", "ofGrains", "I", false)
  | 14 => ("SandInTheShoeModel", "ofMark", "I", false)
  | 15 => ("SandInTheShoeModel", "ofNumber", "I", false)
  | 16 => ("SandInTheShoeModel", "ofDay", "I", false)
  | 17 => ("SandInTheShoeModel", "ofCoast", "I", false)
  | 18 => ("SandInTheShoeModel", "ofShoe", "I", false)
  | 19 => ("SandInTheShoeModel", "from", "I", false)
  | 20 => ("SandInTheShoeModel", "size", "I", false)
  | 21 => ("SandInTheShoeModel", "here", "I", false)
  | 22 => ("SandInTheShoeModel", "token", "I", false)
  | 23 => ("SandInTheShoeModel", "tokenAt", "I", false)
  | 24 => ("SandInTheShoeModel", "tokenWorth", "J", false)
  | 25 => ("SandInTheShoeModel", "open", "I", false)
  | 26 => ("SandInTheShoeModel", "bad", "Z", false)
  | 27 => ("SandInTheShoeModel", "fault", "I", false)
  | 28 => ("SandInTheShoeModel", "kept", "[I", true)
  | 29 => ("SandInTheShoeModel", "takes1", "[I", true)
  | 30 => ("SandInTheShoeModel", "fitMany", "I", false)
  | 31 => ("SandInTheShoeModel", "fitFirst", "I", false)
  | 32 => ("SandInTheShoeModel", "fitDays", "I", false)
  | 33 => ("SandInTheShoeModel", "must", "I", false)
  | 34 => ("SandInTheShoeModel", "may", "I", false)
  | 35 => ("SandInTheShoeModel", "fitOn", "[I", true)
  | 36 => ("SandInTheShoeModel", "bestDigits", "I", false)
  | 37 => ("SandInTheShoeModel", "bestApart", "I", false)
  | 38 => ("SandInTheShoeModel", "shoeWas", "[I", true)
  | 39 => ("SandInTheShoeModel", "grainsKept", "[I", true)
  | 40 => ("SandInTheShoeModel", "rowsKept", "[I", true)
  | 41 => ("SandInTheShoeModel", "shoesKept", "[I", true)
  | 42 => ("SandInTheShoeModel", "manyKept", "I", false)
  | 43 => ("SandInTheShoeModel", "dayKept", "I", false)
  | 44 => ("SandInTheShoeModel", "ruleKept", "I", false)
  | 45 => ("SandInTheShoeModel", "isThere", "[Z", true)
  | 46 => ("SandInTheShoeModel", "sorts", "[I", true)
  | 47 => ("SandInTheShoeModel", "sheetSize", "[I", true)
  | _ => ("SandInTheShoeModel", "items", "[I", true)
def tyX7 : Nat → FieldType := fun k => match k with
  | 0 => .int
  | 1 => .array .int
  | 2 => .array .int
  | 3 => .int
  | 4 => .int
  | 5 => .array .int
  | 6 => .int
  | 7 => .int
  | 8 => .array .int
  | 9 => .array .int
  | 10 => .array .int
  | 11 => .array .int
  | 12 => .int
  | 13 => .int
  | 14 => .int
  | 15 => .int
  | 16 => .int
  | 17 => .int
  | 18 => .int
  | 19 => .int
  | 20 => .int
  | 21 => .int
  | 22 => .int
  | 23 => .int
  | 24 => .long
  | 25 => .int
  | 26 => .boolean
  | 27 => .int
  | 28 => .array .int
  | 29 => .array .int
  | 30 => .int
  | 31 => .int
  | 32 => .int
  | 33 => .int
  | 34 => .int
  | 35 => .array .int
  | 36 => .int
  | 37 => .int
  | 38 => .array .int
  | 39 => .array .int
  | 40 => .array .int
  | 41 => .array .int
  | 42 => .int
  | 43 => .int
  | 44 => .int
  | 45 => .array .boolean
  | 46 => .array .int
  | 47 => .array .int
  | _ => .array .int
theorem nmX7 : ∀ a, a < 49 → ∀ b, b < 49 → a ≠ b → (TX7 a).2.1 ≠ (TX7 b).2.1 := by decide +kernel
theorem tyX7_ok : ∀ k, k < 49 → parseFieldDescriptor (TX7 k).2.2.1 = some (tyX7 k) := by decide +kernel
def RJ9 : String := "java/lang/Math"
def RJ0 : String := "java/lang/String"
def RJ1 : String := "java/lang/StringLatin1"
def RJ2 : String := "java/lang/StringUTF16"
def RJ3 : String := "jdk/internal/util/Preconditions"
abbrev cX0_init : ByteArray := prog_2_method_1_code
def yX0_init : MethodName := ⟨RX0, "<init>", "()V"⟩
abbrev cX0_search : ByteArray := prog_2_method_2_code
def yX0_search : MethodName := ⟨RX0, "search", "([I[I)V"⟩
abbrev cX0_clear : ByteArray := prog_2_method_3_code
def yX0_clear : MethodName := ⟨RX0, "clear", "()V"⟩
abbrev cX0_isInShoe : ByteArray := prog_2_method_4_code
def yX0_isInShoe : MethodName := ⟨RX0, "isInShoe", "([I)Z"⟩
abbrev cX0_found : ByteArray := prog_2_method_5_code
def yX0_found : MethodName := ⟨RX0, "found", "()V"⟩
abbrev cX0_stepOn : ByteArray := prog_2_method_6_code
def yX0_stepOn : MethodName := ⟨RX0, "stepOn", "([I)V"⟩
abbrev cX0_takeUp : ByteArray := prog_2_method_7_code
def yX0_takeUp : MethodName := ⟨RX0, "takeUp", "([III)V"⟩
abbrev cX1_takes : ByteArray := prog_3_method_2_code
def yX1_takes : MethodName := ⟨RX1, "takes", "(IIII)I"⟩
abbrev cX1_takesUnbounded : ByteArray := prog_3_method_3_code
def yX1_takesUnbounded : MethodName := ⟨RX1, "takesUnbounded", "(IIII)I"⟩
abbrev cX1_keeps : ByteArray := prog_3_method_4_code
def yX1_keeps : MethodName := ⟨RX1, "keeps", "(III)I"⟩
abbrev cX1_sure : ByteArray := prog_3_method_5_code
def yX1_sure : MethodName := ⟨RX1, "sure", "(III)I"⟩
abbrev cX1_isUnder : ByteArray := prog_3_method_6_code
def yX1_isUnder : MethodName := ⟨RX1, "isUnder", "(II)Z"⟩
abbrev cX2_init : ByteArray := prog_4_method_1_code
def yX2_init : MethodName := ⟨RX2, "<init>", "()V"⟩
abbrev cX2_add : ByteArray := prog_4_method_2_code
def yX2_add : MethodName := ⟨RX2, "add", "(I)I"⟩
abbrev cX2_read : ByteArray := prog_4_method_3_code
def yX2_read : MethodName := ⟨RX2, "read", "()I"⟩
abbrev cX2_readLevel : ByteArray := prog_4_method_4_code
def yX2_readLevel : MethodName := ⟨RX2, "readLevel", "(II)Z"⟩
abbrev cX2_readNot : ByteArray := prog_4_method_5_code
def yX2_readNot : MethodName := ⟨RX2, "readNot", "(I)Z"⟩
abbrev cX2_readOne : ByteArray := prog_4_method_6_code
def yX2_readOne : MethodName := ⟨RX2, "readOne", "(I)Z"⟩
abbrev cX2_levelOf : ByteArray := prog_4_method_7_code
def yX2_levelOf : MethodName := ⟨RX2, "levelOf", "(I)I"⟩
abbrev cX2_stepOf : ByteArray := prog_4_method_8_code
def yX2_stepOf : MethodName := ⟨RX2, "stepOf", "(I)I"⟩
abbrev cX2_put : ByteArray := prog_4_method_9_code
def yX2_put : MethodName := ⟨RX2, "put", "(I)V"⟩
abbrev cX2_next : ByteArray := prog_4_method_10_code
def yX2_next : MethodName := ⟨RX2, "next", "()V"⟩
abbrev cX2_nextWord : ByteArray := prog_4_method_11_code
def yX2_nextWord : MethodName := ⟨RX2, "nextWord", "()V"⟩
abbrev cX2_nextNumber : ByteArray := prog_4_method_12_code
def yX2_nextNumber : MethodName := ⟨RX2, "nextNumber", "()V"⟩
abbrev cX2_isIn : ByteArray := prog_4_method_13_code
def yX2_isIn : MethodName := ⟨RX2, "isIn", "(III)Z"⟩
abbrev cX2_isSign : ByteArray := prog_4_method_14_code
def yX2_isSign : MethodName := ⟨RX2, "isSign", "(I)Z"⟩
abbrev cX2_isToken : ByteArray := prog_4_method_15_code
def yX2_isToken : MethodName := ⟨RX2, "isToken", "(Ljava/lang/String;)Z"⟩
abbrev cX2_wordOf : ByteArray := prog_4_method_16_code
def yX2_wordOf : MethodName := ⟨RX2, "wordOf", "(I)Ljava/lang/String;"⟩
abbrev cX3_init : ByteArray := prog_5_method_1_code
def yX3_init : MethodName := ⟨RX3, "<init>", "()V"⟩
abbrev cX3_isSort : ByteArray := prog_5_method_2_code
def yX3_isSort : MethodName := ⟨RX3, "isSort", "(I)Z"⟩
abbrev cX3_isMissing : ByteArray := prog_5_method_3_code
def yX3_isMissing : MethodName := ⟨RX3, "isMissing", "()Z"⟩
abbrev cX3_has : ByteArray := prog_5_method_4_code
def yX3_has : MethodName := ⟨RX3, "has", "(I)Z"⟩
abbrev cX3_hasRun : ByteArray := prog_5_method_5_code
def yX3_hasRun : MethodName := ⟨RX3, "hasRun", "(II)Z"⟩
abbrev cX3_becomes : ByteArray := prog_5_method_6_code
def yX3_becomes : MethodName := ⟨RX3, "becomes", "(II)V"⟩
abbrev cX3_put : ByteArray := prog_5_method_7_code
def yX3_put : MethodName := ⟨RX3, "put", "(II)V"⟩
abbrev cX3_all : ByteArray := prog_5_method_8_code
def yX3_all : MethodName := ⟨RX3, "all", "()I"⟩
abbrev cX4_init : ByteArray := prog_6_method_1_code
def yX4_init : MethodName := ⟨RX4, "<init>", "()V"⟩
abbrev cX4_becomes : ByteArray := prog_6_method_2_code
def yX4_becomes : MethodName := ⟨RX4, "becomes", "([I[I)V"⟩
abbrev cX4_value : ByteArray := prog_6_method_3_code
def yX4_value : MethodName := ⟨RX4, "value", "(I[I[I)I"⟩
abbrev cX4_joined : ByteArray := prog_6_method_4_code
def yX4_joined : MethodName := ⟨RX4, "joined", "(III)I"⟩
abbrev cX5_init : ByteArray := prog_7_method_1_code
def yX5_init : MethodName := ⟨RX5, "<init>", "()V"⟩
abbrev cX5_has : ByteArray := prog_7_method_2_code
def yX5_has : MethodName := ⟨RX5, "has", "(I)Z"⟩
abbrev cX5_comes : ByteArray := prog_7_method_3_code
def yX5_comes : MethodName := ⟨RX5, "comes", "(II)I"⟩
abbrev cX5_becomes : ByteArray := prog_7_method_4_code
def yX5_becomes : MethodName := ⟨RX5, "becomes", "(LSandInTheShoe$World;)V"⟩
abbrev cX5_allOnCoast : ByteArray := prog_7_method_5_code
def yX5_allOnCoast : MethodName := ⟨RX5, "allOnCoast", "(I)I"⟩
abbrev cX5_allInShoe : ByteArray := prog_7_method_6_code
def yX5_allInShoe : MethodName := ⟨RX5, "allInShoe", "(I)I"⟩
abbrev cX5_allInShoes : ByteArray := prog_7_method_7_code
def yX5_allInShoes : MethodName := ⟨RX5, "allInShoes", "()I"⟩
abbrev cX5_apart : ByteArray := prog_7_method_8_code
def yX5_apart : MethodName := ⟨RX5, "apart", "(II)I"⟩
abbrev cX5_oddest : ByteArray := prog_7_method_9_code
def yX5_oddest : MethodName := ⟨RX5, "oddest", "(I)I"⟩
abbrev cX5_poorest : ByteArray := prog_7_method_10_code
def yX5_poorest : MethodName := ⟨RX5, "poorest", "()I"⟩
abbrev cX6_init : ByteArray := prog_1_method_1_code
def yX6_init : MethodName := ⟨RX6, "<init>", "()V"⟩
abbrev cX6_set : ByteArray := prog_1_method_2_code
def yX6_set : MethodName := ⟨RX6, "set", "(III)I"⟩
abbrev cX6_person : ByteArray := prog_1_method_3_code
def yX6_person : MethodName := ⟨RX6, "person", "(II)I"⟩
abbrev cX6_told : ByteArray := prog_1_method_4_code
def yX6_told : MethodName := ⟨RX6, "told", "(II)I"⟩
abbrev cX6_asks : ByteArray := prog_1_method_5_code
def yX6_asks : MethodName := ⟨RX6, "asks", "(III)I"⟩
abbrev cX6_feed : ByteArray := prog_1_method_6_code
def yX6_feed : MethodName := ⟨RX6, "feed", "(I)I"⟩
abbrev cX6_text : ByteArray := prog_1_method_7_code
def yX6_text : MethodName := ⟨RX6, "text", "()I"⟩
abbrev cX6_force : ByteArray := prog_1_method_8_code
def yX6_force : MethodName := ⟨RX6, "force", "(I)I"⟩
abbrev cX6_stay : ByteArray := prog_1_method_9_code
def yX6_stay : MethodName := ⟨RX6, "stay", "(II)I"⟩
abbrev cX6_shake : ByteArray := prog_1_method_10_code
def yX6_shake : MethodName := ⟨RX6, "shake", "(I)I"⟩
abbrev cX6_like : ByteArray := prog_1_method_11_code
def yX6_like : MethodName := ⟨RX6, "like", "(III)I"⟩
abbrev cX6_odd : ByteArray := prog_1_method_12_code
def yX6_odd : MethodName := ⟨RX6, "odd", "(II)I"⟩
abbrev cX6_mean : ByteArray := prog_1_method_13_code
def yX6_mean : MethodName := ⟨RX6, "mean", "(III)J"⟩
abbrev cX6_stays : ByteArray := prog_1_method_14_code
def yX6_stays : MethodName := ⟨RX6, "stays", "(III)I"⟩
abbrev cX6_pack : ByteArray := prog_1_method_15_code
def yX6_pack : MethodName := ⟨RX6, "pack", "(III)I"⟩
abbrev cX6_fit : ByteArray := prog_1_method_16_code
def yX6_fit : MethodName := ⟨RX6, "fit", "(III)I"⟩
abbrev cX6_share : ByteArray := prog_1_method_17_code
def yX6_share : MethodName := ⟨RX6, "share", "(IIII)J"⟩
abbrev cX6_go : ByteArray := prog_1_method_18_code
def yX6_go : MethodName := ⟨RX6, "go", "(IIII)I"⟩
abbrev cX6_tells : ByteArray := prog_1_method_19_code
def yX6_tells : MethodName := ⟨RX6, "tells", "(IIII)I"⟩
abbrev cX6_film : ByteArray := prog_1_method_20_code
def yX6_film : MethodName := ⟨RX6, "film", "(III)I"⟩
abbrev cX6_drawn : ByteArray := prog_1_method_21_code
def yX6_drawn : MethodName := ⟨RX6, "drawn", "(III)I"⟩
abbrev cX6_chance : ByteArray := prog_1_method_22_code
def yX6_chance : MethodName := ⟨RX6, "chance", "(IIIII)J"⟩
abbrev cX6_image : ByteArray := prog_1_method_23_code
def yX6_image : MethodName := ⟨RX6, "image", "()I"⟩
abbrev cX6_back : ByteArray := prog_1_method_24_code
def yX6_back : MethodName := ⟨RX6, "back", "()I"⟩
abbrev cX6_count : ByteArray := prog_1_method_25_code
def yX6_count : MethodName := ⟨RX6, "count", "(I)I"⟩
abbrev cX6_sheet : ByteArray := prog_1_method_26_code
def yX6_sheet : MethodName := ⟨RX6, "sheet", "(III)I"⟩
abbrev cX6_cell : ByteArray := prog_1_method_27_code
def yX6_cell : MethodName := ⟨RX6, "cell", "(III)I"⟩
abbrev cX6_copy : ByteArray := prog_1_method_28_code
def yX6_copy : MethodName := ⟨RX6, "copy", "(IIIII)I"⟩
abbrev cX6_people : ByteArray := prog_1_method_29_code
def yX6_people : MethodName := ⟨RX6, "people", "(IIII)I"⟩
abbrev cX6_taken : ByteArray := prog_1_method_30_code
def yX6_taken : MethodName := ⟨RX6, "taken", "(II)I"⟩
abbrev cX6_isCoast : ByteArray := prog_1_method_31_code
def yX6_isCoast : MethodName := ⟨RX6, "isCoast", "(I)Z"⟩
abbrev cX6_isMark : ByteArray := prog_1_method_32_code
def yX6_isMark : MethodName := ⟨RX6, "isMark", "(I)Z"⟩
abbrev cX6_isPart : ByteArray := prog_1_method_33_code
def yX6_isPart : MethodName := ⟨RX6, "isPart", "(I)Z"⟩
abbrev cX6_isSheet : ByteArray := prog_1_method_34_code
def yX6_isSheet : MethodName := ⟨RX6, "isSheet", "(I)Z"⟩
abbrev cX6_areTwo : ByteArray := prog_1_method_35_code
def yX6_areTwo : MethodName := ⟨RX6, "areTwo", "(II)Z"⟩
abbrev cX6_isPlace : ByteArray := prog_1_method_36_code
def yX6_isPlace : MethodName := ⟨RX6, "isPlace", "(II)Z"⟩
abbrev cX6_placeOf : ByteArray := prog_1_method_37_code
def yX6_placeOf : MethodName := ⟨RX6, "placeOf", "(I)I"⟩
abbrev cX6_mostOf : ByteArray := prog_1_method_38_code
def yX6_mostOf : MethodName := ⟨RX6, "mostOf", "(I)I"⟩
abbrev cX6_areStays : ByteArray := prog_1_method_39_code
def yX6_areStays : MethodName := ⟨RX6, "areStays", "(I)Z"⟩
abbrev cX6_valueOf : ByteArray := prog_1_method_40_code
def yX6_valueOf : MethodName := ⟨RX6, "valueOf", "(III)I"⟩
abbrev cX6_nameAll : ByteArray := prog_1_method_41_code
def yX6_nameAll : MethodName := ⟨RX6, "nameAll", "(IIIIII)V"⟩
abbrev cX6_takesOf : ByteArray := prog_1_method_42_code
def yX6_takesOf : MethodName := ⟨RX6, "takesOf", "(IIIIII)I"⟩
abbrev cX6_takesNow : ByteArray := prog_1_method_43_code
def yX6_takesNow : MethodName := ⟨RX6, "takesNow", "(III)I"⟩
abbrev cX6_keepsOf : ByteArray := prog_1_method_44_code
def yX6_keepsOf : MethodName := ⟨RX6, "keepsOf", "(II)I"⟩
abbrev cX6_sureOf : ByteArray := prog_1_method_45_code
def yX6_sureOf : MethodName := ⟨RX6, "sureOf", "(III)I"⟩
abbrev cX6_tellsExaminer : ByteArray := prog_1_method_46_code
def yX6_tellsExaminer : MethodName := ⟨RX6, "tellsExaminer", "(II)I"⟩
abbrev cX6_tellDailyTakes : ByteArray := prog_1_method_47_code
def yX6_tellDailyTakes : MethodName := ⟨RX6, "tellDailyTakes", "(I)V"⟩
abbrev cX6_takesByStays : ByteArray := prog_1_method_48_code
def yX6_takesByStays : MethodName := ⟨RX6, "takesByStays", "(III)I"⟩
abbrev cX6_findFits : ByteArray := prog_1_method_49_code
def yX6_findFits : MethodName := ⟨RX6, "findFits", "(LSandInTheShoe$Sheet;I)I"⟩
abbrev cX6_neverGoesBack : ByteArray := prog_1_method_50_code
def yX6_neverGoesBack : MethodName := ⟨RX6, "neverGoesBack", "(II)Z"⟩
abbrev cX6_digitsOfWay : ByteArray := prog_1_method_51_code
def yX6_digitsOfWay : MethodName := ⟨RX6, "digitsOfWay", "(II)I"⟩
abbrev cX6_apartAfter : ByteArray := prog_1_method_52_code
def yX6_apartAfter : MethodName := ⟨RX6, "apartAfter", "(IIII)I"⟩
abbrev cX6_goInThought : ByteArray := prog_1_method_53_code
def yX6_goInThought : MethodName := ⟨RX6, "goInThought", "(I)V"⟩
abbrev cX6_allAfterDrawn : ByteArray := prog_1_method_54_code
def yX6_allAfterDrawn : MethodName := ⟨RX6, "allAfterDrawn", "(III)I"⟩
abbrev cX6_stayInThought : ByteArray := prog_1_method_55_code
def yX6_stayInThought : MethodName := ⟨RX6, "stayInThought", "(III)V"⟩
abbrev cX6_firstOtherwise : ByteArray := prog_1_method_56_code
def yX6_firstOtherwise : MethodName := ⟨RX6, "firstOtherwise", "(LSandInTheShoe$Sheet;IIII)I"⟩
abbrev cX6_bitsThatTell : ByteArray := prog_1_method_57_code
def yX6_bitsThatTell : MethodName := ⟨RX6, "bitsThatTell", "(LSandInTheShoe$Sheet;IIII)I"⟩
abbrev cX6_daysThatTell : ByteArray := prog_1_method_58_code
def yX6_daysThatTell : MethodName := ⟨RX6, "daysThatTell", "(LSandInTheShoe$Sheet;II)I"⟩
abbrev cX6_leastDayThatTells : ByteArray := prog_1_method_59_code
def yX6_leastDayThatTells : MethodName := ⟨RX6, "leastDayThatTells", "(LSandInTheShoe$Sheet;II)I"⟩
abbrev cX6_sum : ByteArray := prog_1_method_60_code
def yX6_sum : MethodName := ⟨RX6, "sum", "([III)I"⟩
abbrev cX6_lowestTerms : ByteArray := prog_1_method_61_code
def yX6_lowestTerms : MethodName := ⟨RX6, "lowestTerms", "(III)J"⟩
abbrev cX7_in : ByteArray := prog_9_method_2_code
def yX7_in : MethodName := ⟨RX7, "in", "(JJJ)Z"⟩
abbrev cX7_within : ByteArray := prog_9_method_3_code
def yX7_within : MethodName := ⟨RX7, "within", "(III)I"⟩
abbrev cX7_init : ByteArray := prog_9_method_4_code
def yX7_init : MethodName := ⟨RX7, "<init>", "()V"⟩
abbrev cX7_spell : ByteArray := prog_9_method_5_code
def yX7_spell : MethodName := ⟨RX7, "spell", "(IIIIIIIII)V"⟩
abbrev cX7_isOne : ByteArray := prog_9_method_6_code
def yX7_isOne : MethodName := ⟨RX7, "isOne", "(I)Z"⟩
abbrev cX7_isCoast : ByteArray := prog_9_method_7_code
def yX7_isCoast : MethodName := ⟨RX7, "isCoast", "(I)Z"⟩
abbrev cX7_isMark : ByteArray := prog_9_method_8_code
def yX7_isMark : MethodName := ⟨RX7, "isMark", "(I)Z"⟩
abbrev cX7_isOf : ByteArray := prog_9_method_9_code
def yX7_isOf : MethodName := ⟨RX7, "isOf", "(II)Z"⟩
abbrev cX7_mostOf : ByteArray := prog_9_method_10_code
def yX7_mostOf : MethodName := ⟨RX7, "mostOf", "(I)I"⟩
abbrev cX7_placeOf : ByteArray := prog_9_method_11_code
def yX7_placeOf : MethodName := ⟨RX7, "placeOf", "(I)I"⟩
abbrev cX7_set : ByteArray := prog_9_method_12_code
def yX7_set : MethodName := ⟨RX7, "set", "(III)I"⟩
abbrev cX7_lays : ByteArray := prog_9_method_13_code
def yX7_lays : MethodName := ⟨RX7, "lays", "(III)V"⟩
abbrev cX7_person : ByteArray := prog_9_method_14_code
def yX7_person : MethodName := ⟨RX7, "person", "(II)I"⟩
abbrev cX7_told : ByteArray := prog_9_method_15_code
def yX7_told : MethodName := ⟨RX7, "told", "(II)I"⟩
abbrev cX7_shoeOf : ByteArray := prog_9_method_16_code
def yX7_shoeOf : MethodName := ⟨RX7, "shoeOf", "(I)I"⟩
abbrev cX7_coastOf : ByteArray := prog_9_method_17_code
def yX7_coastOf : MethodName := ⟨RX7, "coastOf", "(I)I"⟩
abbrev cX7_feed : ByteArray := prog_9_method_18_code
def yX7_feed : MethodName := ⟨RX7, "feed", "(I)I"⟩
abbrev cX7_byteAt : ByteArray := prog_9_method_19_code
def yX7_byteAt : MethodName := ⟨RX7, "byteAt", "(I)I"⟩
abbrev cX7_next : ByteArray := prog_9_method_20_code
def yX7_next : MethodName := ⟨RX7, "next", "()V"⟩
abbrev cX7_fail : ByteArray := prog_9_method_21_code
def yX7_fail : MethodName := ⟨RX7, "fail", "()V"⟩
abbrev cX7_isLetter : ByteArray := prog_9_method_22_code
def yX7_isLetter : MethodName := ⟨RX7, "isLetter", "(II)Z"⟩
abbrev cX7_isWord : ByteArray := prog_9_method_23_code
def yX7_isWord : MethodName := ⟨RX7, "isWord", "(IIIIIIII)Z"⟩
abbrev cX7_isSign : ByteArray := prog_9_method_24_code
def yX7_isSign : MethodName := ⟨RX7, "isSign", "(I)Z"⟩
abbrev cX7_opens : ByteArray := prog_9_method_25_code
def yX7_opens : MethodName := ⟨RX7, "opens", "()Z"⟩
abbrev cX7_name : ByteArray := prog_9_method_26_code
def yX7_name : MethodName := ⟨RX7, "name", "()I"⟩
abbrev cX7_atom : ByteArray := prog_9_method_27_code
def yX7_atom : MethodName := ⟨RX7, "atom", "()I"⟩
abbrev cX7_term : ByteArray := prog_9_method_28_code
def yX7_term : MethodName := ⟨RX7, "term", "()I"⟩
abbrev cX7_added : ByteArray := prog_9_method_29_code
def yX7_added : MethodName := ⟨RX7, "added", "()I"⟩
abbrev cX7_not : ByteArray := prog_9_method_30_code
def yX7_not : MethodName := ⟨RX7, "not", "()I"⟩
abbrev cX7_both : ByteArray := prog_9_method_31_code
def yX7_both : MethodName := ⟨RX7, "both", "()I"⟩
abbrev cX7_either : ByteArray := prog_9_method_32_code
def yX7_either : MethodName := ⟨RX7, "either", "()I"⟩
abbrev cX7_part : ByteArray := prog_9_method_33_code
def yX7_part : MethodName := ⟨RX7, "part", "(Z)I"⟩
abbrev cX7_read : ByteArray := prog_9_method_34_code
def yX7_read : MethodName := ⟨RX7, "read", "(II)I"⟩
abbrev cX7_text : ByteArray := prog_9_method_35_code
def yX7_text : MethodName := ⟨RX7, "text", "()I"⟩
abbrev cX7_force : ByteArray := prog_9_method_36_code
def yX7_force : MethodName := ⟨RX7, "force", "(I)I"⟩
abbrev cX7_says : ByteArray := prog_9_method_37_code
def yX7_says : MethodName := ⟨RX7, "says", "(IIIIII)I"⟩
abbrev cX7_takesOf : ByteArray := prog_9_method_38_code
def yX7_takesOf : MethodName := ⟨RX7, "takesOf", "(III)I"⟩
abbrev cX7_keepsOf : ByteArray := prog_9_method_39_code
def yX7_keepsOf : MethodName := ⟨RX7, "keepsOf", "(II)I"⟩
abbrev cX7_sureOf : ByteArray := prog_9_method_40_code
def yX7_sureOf : MethodName := ⟨RX7, "sureOf", "(III)I"⟩
abbrev cX7_asks : ByteArray := prog_9_method_41_code
def yX7_asks : MethodName := ⟨RX7, "asks", "(III)I"⟩
abbrev cX7_stays1 : ByteArray := prog_9_method_42_code
def yX7_stays1 : MethodName := ⟨RX7, "stays1", "(II)V"⟩
abbrev cX7_stay : ByteArray := prog_9_method_43_code
def yX7_stay : MethodName := ⟨RX7, "stay", "(II)I"⟩
abbrev cX7_shake : ByteArray := prog_9_method_44_code
def yX7_shake : MethodName := ⟨RX7, "shake", "(I)I"⟩
abbrev cX7_apart : ByteArray := prog_9_method_45_code
def yX7_apart : MethodName := ⟨RX7, "apart", "(II)I"⟩
abbrev cX7_tellsOf : ByteArray := prog_9_method_46_code
def yX7_tellsOf : MethodName := ⟨RX7, "tellsOf", "(II)I"⟩
abbrev cX7_areTwo : ByteArray := prog_9_method_47_code
def yX7_areTwo : MethodName := ⟨RX7, "areTwo", "(II)Z"⟩
abbrev cX7_like : ByteArray := prog_9_method_48_code
def yX7_like : MethodName := ⟨RX7, "like", "(III)I"⟩
abbrev cX7_odd : ByteArray := prog_9_method_49_code
def yX7_odd : MethodName := ⟨RX7, "odd", "(II)I"⟩
abbrev cX7_lowest : ByteArray := prog_9_method_50_code
def yX7_lowest : MethodName := ⟨RX7, "lowest", "(JJI)J"⟩
abbrev cX7_mean : ByteArray := prog_9_method_51_code
def yX7_mean : MethodName := ⟨RX7, "mean", "(III)J"⟩
abbrev cX7_tables : ByteArray := prog_9_method_52_code
def yX7_tables : MethodName := ⟨RX7, "tables", "(I)V"⟩
abbrev cX7_daysOn : ByteArray := prog_9_method_53_code
def yX7_daysOn : MethodName := ⟨RX7, "daysOn", "(II)I"⟩
abbrev cX7_packed : ByteArray := prog_9_method_54_code
def yX7_packed : MethodName := ⟨RX7, "packed", "(II)I"⟩
abbrev cX7_wayOf : ByteArray := prog_9_method_55_code
def yX7_wayOf : MethodName := ⟨RX7, "wayOf", "(I)I"⟩
abbrev cX7_digitsOf : ByteArray := prog_9_method_56_code
def yX7_digitsOf : MethodName := ⟨RX7, "digitsOf", "(I)I"⟩
abbrev cX7_stays : ByteArray := prog_9_method_57_code
def yX7_stays : MethodName := ⟨RX7, "stays", "(III)I"⟩
abbrev cX7_pack : ByteArray := prog_9_method_58_code
def yX7_pack : MethodName := ⟨RX7, "pack", "(III)I"⟩
abbrev cX7_fits : ByteArray := prog_9_method_59_code
def yX7_fits : MethodName := ⟨RX7, "fits", "(II)Z"⟩
abbrev cX7_lengthOf : ByteArray := prog_9_method_60_code
def yX7_lengthOf : MethodName := ⟨RX7, "lengthOf", "(I)I"⟩
abbrev cX7_coastsOf : ByteArray := prog_9_method_61_code
def yX7_coastsOf : MethodName := ⟨RX7, "coastsOf", "(I)I"⟩
abbrev cX7_looks : ByteArray := prog_9_method_62_code
def yX7_looks : MethodName := ⟨RX7, "looks", "(II)V"⟩
abbrev cX7_fit : ByteArray := prog_9_method_63_code
def yX7_fit : MethodName := ⟨RX7, "fit", "(III)I"⟩
abbrev cX7_share : ByteArray := prog_9_method_64_code
def yX7_share : MethodName := ⟨RX7, "share", "(IIII)J"⟩
abbrev cX7_goes : ByteArray := prog_9_method_65_code
def yX7_goes : MethodName := ⟨RX7, "goes", "(IIIII)V"⟩
abbrev cX7_go : ByteArray := prog_9_method_66_code
def yX7_go : MethodName := ⟨RX7, "go", "(IIII)I"⟩
abbrev cX7_firstOther : ByteArray := prog_9_method_67_code
def yX7_firstOther : MethodName := ⟨RX7, "firstOther", "(III)I"⟩
abbrev cX7_coastSet : ByteArray := prog_9_method_68_code
def yX7_coastSet : MethodName := ⟨RX7, "coastSet", "(II)I"⟩
abbrev cX7_tells : ByteArray := prog_9_method_69_code
def yX7_tells : MethodName := ⟨RX7, "tells", "(IIII)I"⟩
abbrev cX7_film : ByteArray := prog_9_method_70_code
def yX7_film : MethodName := ⟨RX7, "film", "(III)I"⟩
abbrev cX7_shoeDrawn : ByteArray := prog_9_method_71_code
def yX7_shoeDrawn : MethodName := ⟨RX7, "shoeDrawn", "(III)I"⟩
abbrev cX7_drawn : ByteArray := prog_9_method_72_code
def yX7_drawn : MethodName := ⟨RX7, "drawn", "(III)I"⟩
abbrev cX7_chance : ByteArray := prog_9_method_73_code
def yX7_chance : MethodName := ⟨RX7, "chance", "(IIIII)J"⟩
abbrev cX7_image : ByteArray := prog_9_method_74_code
def yX7_image : MethodName := ⟨RX7, "image", "()I"⟩
abbrev cX7_back : ByteArray := prog_9_method_75_code
def yX7_back : MethodName := ⟨RX7, "back", "()I"⟩
abbrev cX7_count : ByteArray := prog_9_method_76_code
def yX7_count : MethodName := ⟨RX7, "count", "(I)I"⟩
abbrev cX7_isSheet : ByteArray := prog_9_method_77_code
def yX7_isSheet : MethodName := ⟨RX7, "isSheet", "(I)Z"⟩
abbrev cX7_sheet : ByteArray := prog_9_method_78_code
def yX7_sheet : MethodName := ⟨RX7, "sheet", "(III)I"⟩
abbrev cX7_cell : ByteArray := prog_9_method_79_code
def yX7_cell : MethodName := ⟨RX7, "cell", "(III)I"⟩
abbrev cX7_copy : ByteArray := prog_9_method_80_code
def yX7_copy : MethodName := ⟨RX7, "copy", "(IIIII)I"⟩
abbrev cX7_people : ByteArray := prog_9_method_81_code
def yX7_people : MethodName := ⟨RX7, "people", "(IIII)I"⟩
abbrev cX7_over : ByteArray := prog_9_method_82_code
def yX7_over : MethodName := ⟨RX7, "over", "(I)I"⟩
abbrev cX7_taken : ByteArray := prog_9_method_83_code
def yX7_taken : MethodName := ⟨RX7, "taken", "(II)I"⟩
abbrev cJ9_abs_0f7a4 : ByteArray := prog_10_method_59_code
def yJ9_abs_0f7a4 : MethodName := ⟨RJ9, "abs", "(I)I"⟩
abbrev cJ9_max_7cf53 : ByteArray := prog_10_method_65_code
def yJ9_max_7cf53 : MethodName := ⟨RJ9, "max", "(II)I"⟩
abbrev cJ9_min_7cf53 : ByteArray := prog_10_method_69_code
def yJ9_min_7cf53 : MethodName := ⟨RJ9, "min", "(II)I"⟩
abbrev cJ0_length_8abf5 : ByteArray := prog_11_method_54_code
def yJ0_length_8abf5 : MethodName := ⟨RJ0, "length", "()I"⟩
abbrev cJ0_charAt_5068e : ByteArray := prog_11_method_56_code
def yJ0_charAt_5068e : MethodName := ⟨RJ0, "charAt", "(I)C"⟩
abbrev cJ0_coder_7d493 : ByteArray := prog_11_method_152_code
def yJ0_coder_7d493 : MethodName := ⟨RJ0, "coder", "()B"⟩
abbrev cJ0_isLatin1_aae02 : ByteArray := prog_11_method_154_code
def yJ0_isLatin1_aae02 : MethodName := ⟨RJ0, "isLatin1", "()Z"⟩
abbrev cJ0_checkIndex_df160 : ByteArray := prog_11_method_155_code
def yJ0_checkIndex_df160 : MethodName := ⟨RJ0, "checkIndex", "(II)V"⟩
abbrev cJ1_charAt_3b067 : ByteArray := prog_12_method_2_code
def yJ1_charAt_3b067 : MethodName := ⟨RJ1, "charAt", "([BI)C"⟩
abbrev cJ2_getChar_3b067 : ByteArray := prog_13_method_5_code
def yJ2_getChar_3b067 : MethodName := ⟨RJ2, "getChar", "([BI)C"⟩
abbrev cJ2_length_9d52b : ByteArray := prog_13_method_6_code
def yJ2_length_9d52b : MethodName := ⟨RJ2, "length", "([B)I"⟩
abbrev cJ2_charAt_3b067 : ByteArray := prog_13_method_83_code
def yJ2_charAt_3b067 : MethodName := ⟨RJ2, "charAt", "([BI)C"⟩
abbrev cJ2_checkIndex_2214a : ByteArray := prog_13_method_91_code
def yJ2_checkIndex_2214a : MethodName := ⟨RJ2, "checkIndex", "(I[B)V"⟩
abbrev cJ3_checkIndex_8e157 : ByteArray := prog_15_method_11_code
def yJ3_checkIndex_8e157 : MethodName := ⟨RJ3, "checkIndex", "(IILjava/util/function/BiFunction;)I"⟩
def yL_law : MethodName := ⟨RL, "law", "([I)Z"⟩
abbrev cL_law : ByteArray := code
abbrev vwCl : List vw_C := [(RX0, TX0, 8), (RX2, TX2, 9), (RX3, TX3, 3), (RX4, TX4, 2), (RX5, TX5, 8), (RX6, TX6, 12), (RX7, TX7, 49)]
def psX0 : List Nat := [195, 197, 199, 201, 203, 205, 207, 209]
theorem okX0 : u_ws RX0 TX0 8 = psX0.filterMap (fun i => lw_tbl[i]?) := by decide +kernel
theorem inX0 : ∀ w ∈ u_ws RX0 TX0 8, w ∈ lw_tbl := by
  intro w h
  rw [okX0] at h
  obtain ⟨i, -, hi⟩ := List.mem_filterMap.mp h
  exact List.mem_of_getElem? hi
def psX2 : List Nat := [152, 154, 156, 158, 160, 162, 164, 166, 168]
theorem okX2 : u_ws RX2 TX2 9 = psX2.filterMap (fun i => lw_tbl[i]?) := by decide +kernel
theorem inX2 : ∀ w ∈ u_ws RX2 TX2 9, w ∈ lw_tbl := by
  intro w h
  rw [okX2] at h
  obtain ⟨i, -, hi⟩ := List.mem_filterMap.mp h
  exact List.mem_of_getElem? hi
def psX3 : List Nat := [235, 237, 239]
theorem okX3 : u_ws RX3 TX3 3 = psX3.filterMap (fun i => lw_tbl[i]?) := by decide +kernel
theorem inX3 : ∀ w ∈ u_ws RX3 TX3 3, w ∈ lw_tbl := by
  intro w h
  rw [okX3] at h
  obtain ⟨i, -, hi⟩ := List.mem_filterMap.mp h
  exact List.mem_of_getElem? hi
def psX4 : List Nat := [219, 221]
theorem okX4 : u_ws RX4 TX4 2 = psX4.filterMap (fun i => lw_tbl[i]?) := by decide +kernel
theorem inX4 : ∀ w ∈ u_ws RX4 TX4 2, w ∈ lw_tbl := by
  intro w h
  rw [okX4] at h
  obtain ⟨i, -, hi⟩ := List.mem_filterMap.mp h
  exact List.mem_of_getElem? hi
def psX5 : List Nat := [116, 118, 120, 122, 124, 126, 128, 130]
theorem okX5 : u_ws RX5 TX5 8 = psX5.filterMap (fun i => lw_tbl[i]?) := by decide +kernel
theorem inX5 : ∀ w ∈ u_ws RX5 TX5 8, w ∈ lw_tbl := by
  intro w h
  rw [okX5] at h
  obtain ⟨i, -, hi⟩ := List.mem_filterMap.mp h
  exact List.mem_of_getElem? hi
def psX6 : List Nat := [388, 390, 392, 394, 396, 398, 400, 402, 404, 406, 408, 410]
theorem okX6 : u_ws RX6 TX6 12 = psX6.filterMap (fun i => lw_tbl[i]?) := by decide +kernel
theorem inX6 : ∀ w ∈ u_ws RX6 TX6 12, w ∈ lw_tbl := by
  intro w h
  rw [okX6] at h
  obtain ⟨i, -, hi⟩ := List.mem_filterMap.mp h
  exact List.mem_of_getElem? hi
def psX7 : List Nat := [827, 829, 831, 833, 835, 837, 839, 841, 843, 845, 847, 849, 851, 853, 855, 857, 859, 861, 863, 865, 867, 869, 871, 873, 875, 877, 879, 881, 883, 885, 887, 889, 891, 893, 895, 897, 899, 901, 903, 905, 907, 909, 911, 913, 915, 917, 919, 921, 923]
theorem okX7 : u_ws RX7 TX7 49 = psX7.filterMap (fun i => lw_tbl[i]?) := by decide +kernel
theorem inX7 : ∀ w ∈ u_ws RX7 TX7 49, w ∈ lw_tbl := by
  intro w h
  rw [okX7] at h
  obtain ⟨i, -, hi⟩ := List.mem_filterMap.mp h
  exact List.mem_of_getElem? hi
