section
-- ===== PART A: goes FIRST, ahead of the names: the tables' words, and 'selects' of the private methods out of them =====
/-- a private method of a class that the tables say can be made, by its rows of tables_1 -/
def lw_okq (q : MethodName × Nat) : Prop := (q.1.cls ≠ "java/lang/invoke/MethodHandle" ∧ q.1.cls ≠ "java/lang/invoke/VarHandle") ∧ Cond.instantiable q.1.cls q.2 ∈ tables_1 ∧ Cond.privateMethod q.1 ∈ tables_1 ∧ Cond.instanceMethod q.1 ∈ tables_1
theorem lw_p0 : lw_okq (⟨"SandInTheShoe$Reader", "next", "()V"⟩, 9) := ⟨⟨by decide +kernel, by decide +kernel⟩, List.mem_of_getElem? (i := 64) (by decide +kernel), List.mem_of_getElem? (i := 237) (by decide +kernel), List.mem_of_getElem? (i := 238) (by decide +kernel)⟩
theorem lw_p1 : lw_okq (⟨"SandInTheShoe$Reader", "isIn", "(III)Z"⟩, 9) := ⟨⟨by decide +kernel, by decide +kernel⟩, List.mem_of_getElem? (i := 64) (by decide +kernel), List.mem_of_getElem? (i := 241) (by decide +kernel), List.mem_of_getElem? (i := 242) (by decide +kernel)⟩
theorem lw_p2 : lw_okq (⟨"SandInTheShoe$Reader", "nextWord", "()V"⟩, 9) := ⟨⟨by decide +kernel, by decide +kernel⟩, List.mem_of_getElem? (i := 64) (by decide +kernel), List.mem_of_getElem? (i := 245) (by decide +kernel), List.mem_of_getElem? (i := 246) (by decide +kernel)⟩
theorem lw_p3 : lw_okq (⟨"SandInTheShoe$Reader", "isToken", "(Ljava/lang/String;)Z"⟩, 9) := ⟨⟨by decide +kernel, by decide +kernel⟩, List.mem_of_getElem? (i := 64) (by decide +kernel), List.mem_of_getElem? (i := 264) (by decide +kernel), List.mem_of_getElem? (i := 265) (by decide +kernel)⟩
theorem lw_p4 : lw_okq (⟨"SandInTheShoe$Reader", "nextNumber", "()V"⟩, 9) := ⟨⟨by decide +kernel, by decide +kernel⟩, List.mem_of_getElem? (i := 64) (by decide +kernel), List.mem_of_getElem? (i := 270) (by decide +kernel), List.mem_of_getElem? (i := 271) (by decide +kernel)⟩
theorem lw_p5 : lw_okq (⟨"SandInTheShoe$Reader", "readLevel", "(II)Z"⟩, 9) := ⟨⟨by decide +kernel, by decide +kernel⟩, List.mem_of_getElem? (i := 64) (by decide +kernel), List.mem_of_getElem? (i := 277) (by decide +kernel), List.mem_of_getElem? (i := 278) (by decide +kernel)⟩
theorem lw_p6 : lw_okq (⟨"SandInTheShoe$Reader", "readOne", "(I)Z"⟩, 9) := ⟨⟨by decide +kernel, by decide +kernel⟩, List.mem_of_getElem? (i := 64) (by decide +kernel), List.mem_of_getElem? (i := 281) (by decide +kernel), List.mem_of_getElem? (i := 282) (by decide +kernel)⟩
theorem lw_p7 : lw_okq (⟨"SandInTheShoe$Reader", "put", "(I)V"⟩, 9) := ⟨⟨by decide +kernel, by decide +kernel⟩, List.mem_of_getElem? (i := 64) (by decide +kernel), List.mem_of_getElem? (i := 285) (by decide +kernel), List.mem_of_getElem? (i := 286) (by decide +kernel)⟩
theorem lw_p8 : lw_okq (⟨"SandInTheShoe$Reader", "readNot", "(I)Z"⟩, 9) := ⟨⟨by decide +kernel, by decide +kernel⟩, List.mem_of_getElem? (i := 64) (by decide +kernel), List.mem_of_getElem? (i := 289) (by decide +kernel), List.mem_of_getElem? (i := 290) (by decide +kernel)⟩
theorem lw_p9 : lw_okq (⟨"SandInTheShoe", "keepsOf", "(II)I"⟩, 12) := ⟨⟨by decide +kernel, by decide +kernel⟩, List.mem_of_getElem? (i := 16) (by decide +kernel), List.mem_of_getElem? (i := 395) (by decide +kernel), List.mem_of_getElem? (i := 396) (by decide +kernel)⟩
theorem lw_p10 : lw_okq (⟨"SandInTheShoe", "nameAll", "(IIIIII)V"⟩, 12) := ⟨⟨by decide +kernel, by decide +kernel⟩, List.mem_of_getElem? (i := 16) (by decide +kernel), List.mem_of_getElem? (i := 399) (by decide +kernel), List.mem_of_getElem? (i := 400) (by decide +kernel)⟩
theorem lw_p11 : lw_okq (⟨"SandInTheShoe", "valueOf", "(III)I"⟩, 12) := ⟨⟨by decide +kernel, by decide +kernel⟩, List.mem_of_getElem? (i := 16) (by decide +kernel), List.mem_of_getElem? (i := 403) (by decide +kernel), List.mem_of_getElem? (i := 404) (by decide +kernel)⟩
theorem lw_p12 : lw_okq (⟨"SandInTheShoe", "sureOf", "(III)I"⟩, 12) := ⟨⟨by decide +kernel, by decide +kernel⟩, List.mem_of_getElem? (i := 16) (by decide +kernel), List.mem_of_getElem? (i := 424) (by decide +kernel), List.mem_of_getElem? (i := 425) (by decide +kernel)⟩
theorem lw_p13 : lw_okq (⟨"SandInTheShoe", "takesNow", "(III)I"⟩, 12) := ⟨⟨by decide +kernel, by decide +kernel⟩, List.mem_of_getElem? (i := 16) (by decide +kernel), List.mem_of_getElem? (i := 431) (by decide +kernel), List.mem_of_getElem? (i := 432) (by decide +kernel)⟩
theorem lw_p14 : lw_okq (⟨"SandInTheShoe", "takesOf", "(IIIIII)I"⟩, 12) := ⟨⟨by decide +kernel, by decide +kernel⟩, List.mem_of_getElem? (i := 16) (by decide +kernel), List.mem_of_getElem? (i := 435) (by decide +kernel), List.mem_of_getElem? (i := 436) (by decide +kernel)⟩
theorem lw_p15 : lw_okq (⟨"SandInTheShoe", "areTwo", "(II)Z"⟩, 12) := ⟨⟨by decide +kernel, by decide +kernel⟩, List.mem_of_getElem? (i := 16) (by decide +kernel), List.mem_of_getElem? (i := 465) (by decide +kernel), List.mem_of_getElem? (i := 466) (by decide +kernel)⟩
def lw_privs_1 : List (MethodName × Nat) := [(⟨"SandInTheShoe$Reader", "next", "()V"⟩, 9), (⟨"SandInTheShoe$Reader", "isIn", "(III)Z"⟩, 9), (⟨"SandInTheShoe$Reader", "nextWord", "()V"⟩, 9), (⟨"SandInTheShoe$Reader", "isToken", "(Ljava/lang/String;)Z"⟩, 9), (⟨"SandInTheShoe$Reader", "nextNumber", "()V"⟩, 9), (⟨"SandInTheShoe$Reader", "readLevel", "(II)Z"⟩, 9), (⟨"SandInTheShoe$Reader", "readOne", "(I)Z"⟩, 9), (⟨"SandInTheShoe$Reader", "put", "(I)V"⟩, 9), (⟨"SandInTheShoe$Reader", "readNot", "(I)Z"⟩, 9), (⟨"SandInTheShoe", "keepsOf", "(II)I"⟩, 12), (⟨"SandInTheShoe", "nameAll", "(IIIIII)V"⟩, 12), (⟨"SandInTheShoe", "valueOf", "(III)I"⟩, 12), (⟨"SandInTheShoe", "sureOf", "(III)I"⟩, 12), (⟨"SandInTheShoe", "takesNow", "(III)I"⟩, 12), (⟨"SandInTheShoe", "takesOf", "(IIIIII)I"⟩, 12), (⟨"SandInTheShoe", "areTwo", "(II)Z"⟩, 12)]
theorem lw_r1 : ∀ q ∈ lw_privs_1, lw_okq q := List.forall_mem_cons.mpr ⟨lw_p0, List.forall_mem_cons.mpr ⟨lw_p1, List.forall_mem_cons.mpr ⟨lw_p2, List.forall_mem_cons.mpr ⟨lw_p3, List.forall_mem_cons.mpr ⟨lw_p4, List.forall_mem_cons.mpr ⟨lw_p5, List.forall_mem_cons.mpr ⟨lw_p6, List.forall_mem_cons.mpr ⟨lw_p7, List.forall_mem_cons.mpr ⟨lw_p8, List.forall_mem_cons.mpr ⟨lw_p9, List.forall_mem_cons.mpr ⟨lw_p10, List.forall_mem_cons.mpr ⟨lw_p11, List.forall_mem_cons.mpr ⟨lw_p12, List.forall_mem_cons.mpr ⟨lw_p13, List.forall_mem_cons.mpr ⟨lw_p14, List.forall_mem_cons.mpr ⟨lw_p15, fun _ h => absurd h List.not_mem_nil⟩⟩⟩⟩⟩⟩⟩⟩⟩⟩⟩⟩⟩⟩⟩⟩
theorem lw_p16 : lw_okq (⟨"SandInTheShoe", "tellsExaminer", "(II)I"⟩, 12) := ⟨⟨by decide +kernel, by decide +kernel⟩, List.mem_of_getElem? (i := 16) (by decide +kernel), List.mem_of_getElem? (i := 476) (by decide +kernel), List.mem_of_getElem? (i := 477) (by decide +kernel)⟩
theorem lw_p17 : lw_okq (⟨"SandInTheShoe", "takesByStays", "(III)I"⟩, 12) := ⟨⟨by decide +kernel, by decide +kernel⟩, List.mem_of_getElem? (i := 16) (by decide +kernel), List.mem_of_getElem? (i := 513) (by decide +kernel), List.mem_of_getElem? (i := 514) (by decide +kernel)⟩
theorem lw_p18 : lw_okq (⟨"SandInTheShoe", "findFits", "(LSandInTheShoe$Sheet;I)I"⟩, 12) := ⟨⟨by decide +kernel, by decide +kernel⟩, List.mem_of_getElem? (i := 16) (by decide +kernel), List.mem_of_getElem? (i := 541) (by decide +kernel), List.mem_of_getElem? (i := 542) (by decide +kernel)⟩
theorem lw_p19 : lw_okq (⟨"SandInTheShoe", "tellDailyTakes", "(I)V"⟩, 12) := ⟨⟨by decide +kernel, by decide +kernel⟩, List.mem_of_getElem? (i := 16) (by decide +kernel), List.mem_of_getElem? (i := 549) (by decide +kernel), List.mem_of_getElem? (i := 550) (by decide +kernel)⟩
theorem lw_p20 : lw_okq (⟨"SandInTheShoe$Fit", "clear", "()V"⟩, 8) := ⟨⟨by decide +kernel, by decide +kernel⟩, List.mem_of_getElem? (i := 105) (by decide +kernel), List.mem_of_getElem? (i := 557) (by decide +kernel), List.mem_of_getElem? (i := 558) (by decide +kernel)⟩
theorem lw_p21 : lw_okq (⟨"SandInTheShoe$Fit", "isInShoe", "([I)Z"⟩, 8) := ⟨⟨by decide +kernel, by decide +kernel⟩, List.mem_of_getElem? (i := 105) (by decide +kernel), List.mem_of_getElem? (i := 561) (by decide +kernel), List.mem_of_getElem? (i := 562) (by decide +kernel)⟩
theorem lw_p22 : lw_okq (⟨"SandInTheShoe$Fit", "found", "()V"⟩, 8) := ⟨⟨by decide +kernel, by decide +kernel⟩, List.mem_of_getElem? (i := 105) (by decide +kernel), List.mem_of_getElem? (i := 565) (by decide +kernel), List.mem_of_getElem? (i := 566) (by decide +kernel)⟩
theorem lw_p23 : lw_okq (⟨"SandInTheShoe$Fit", "stepOn", "([I)V"⟩, 8) := ⟨⟨by decide +kernel, by decide +kernel⟩, List.mem_of_getElem? (i := 105) (by decide +kernel), List.mem_of_getElem? (i := 569) (by decide +kernel), List.mem_of_getElem? (i := 570) (by decide +kernel)⟩
theorem lw_p24 : lw_okq (⟨"SandInTheShoe$Fit", "takeUp", "([III)V"⟩, 8) := ⟨⟨by decide +kernel, by decide +kernel⟩, List.mem_of_getElem? (i := 105) (by decide +kernel), List.mem_of_getElem? (i := 573) (by decide +kernel), List.mem_of_getElem? (i := 574) (by decide +kernel)⟩
theorem lw_p25 : lw_okq (⟨"SandInTheShoe", "apartAfter", "(IIII)I"⟩, 12) := ⟨⟨by decide +kernel, by decide +kernel⟩, List.mem_of_getElem? (i := 16) (by decide +kernel), List.mem_of_getElem? (i := 588) (by decide +kernel), List.mem_of_getElem? (i := 589) (by decide +kernel)⟩
theorem lw_p26 : lw_okq (⟨"SandInTheShoe", "goInThought", "(I)V"⟩, 12) := ⟨⟨by decide +kernel, by decide +kernel⟩, List.mem_of_getElem? (i := 16) (by decide +kernel), List.mem_of_getElem? (i := 592) (by decide +kernel), List.mem_of_getElem? (i := 593) (by decide +kernel)⟩
theorem lw_p27 : lw_okq (⟨"SandInTheShoe", "bitsThatTell", "(LSandInTheShoe$Sheet;IIII)I"⟩, 12) := ⟨⟨by decide +kernel, by decide +kernel⟩, List.mem_of_getElem? (i := 16) (by decide +kernel), List.mem_of_getElem? (i := 604) (by decide +kernel), List.mem_of_getElem? (i := 605) (by decide +kernel)⟩
theorem lw_p28 : lw_okq (⟨"SandInTheShoe", "firstOtherwise", "(LSandInTheShoe$Sheet;IIII)I"⟩, 12) := ⟨⟨by decide +kernel, by decide +kernel⟩, List.mem_of_getElem? (i := 16) (by decide +kernel), List.mem_of_getElem? (i := 608) (by decide +kernel), List.mem_of_getElem? (i := 609) (by decide +kernel)⟩
theorem lw_p29 : lw_okq (⟨"SandInTheShoe", "daysThatTell", "(LSandInTheShoe$Sheet;II)I"⟩, 12) := ⟨⟨by decide +kernel, by decide +kernel⟩, List.mem_of_getElem? (i := 16) (by decide +kernel), List.mem_of_getElem? (i := 612) (by decide +kernel), List.mem_of_getElem? (i := 613) (by decide +kernel)⟩
theorem lw_p30 : lw_okq (⟨"SandInTheShoe", "leastDayThatTells", "(LSandInTheShoe$Sheet;II)I"⟩, 12) := ⟨⟨by decide +kernel, by decide +kernel⟩, List.mem_of_getElem? (i := 16) (by decide +kernel), List.mem_of_getElem? (i := 616) (by decide +kernel), List.mem_of_getElem? (i := 617) (by decide +kernel)⟩
theorem lw_p31 : lw_okq (⟨"SandInTheShoe", "allAfterDrawn", "(III)I"⟩, 12) := ⟨⟨by decide +kernel, by decide +kernel⟩, List.mem_of_getElem? (i := 16) (by decide +kernel), List.mem_of_getElem? (i := 628) (by decide +kernel), List.mem_of_getElem? (i := 629) (by decide +kernel)⟩
def lw_privs_2 : List (MethodName × Nat) := [(⟨"SandInTheShoe", "tellsExaminer", "(II)I"⟩, 12), (⟨"SandInTheShoe", "takesByStays", "(III)I"⟩, 12), (⟨"SandInTheShoe", "findFits", "(LSandInTheShoe$Sheet;I)I"⟩, 12), (⟨"SandInTheShoe", "tellDailyTakes", "(I)V"⟩, 12), (⟨"SandInTheShoe$Fit", "clear", "()V"⟩, 8), (⟨"SandInTheShoe$Fit", "isInShoe", "([I)Z"⟩, 8), (⟨"SandInTheShoe$Fit", "found", "()V"⟩, 8), (⟨"SandInTheShoe$Fit", "stepOn", "([I)V"⟩, 8), (⟨"SandInTheShoe$Fit", "takeUp", "([III)V"⟩, 8), (⟨"SandInTheShoe", "apartAfter", "(IIII)I"⟩, 12), (⟨"SandInTheShoe", "goInThought", "(I)V"⟩, 12), (⟨"SandInTheShoe", "bitsThatTell", "(LSandInTheShoe$Sheet;IIII)I"⟩, 12), (⟨"SandInTheShoe", "firstOtherwise", "(LSandInTheShoe$Sheet;IIII)I"⟩, 12), (⟨"SandInTheShoe", "daysThatTell", "(LSandInTheShoe$Sheet;II)I"⟩, 12), (⟨"SandInTheShoe", "leastDayThatTells", "(LSandInTheShoe$Sheet;II)I"⟩, 12), (⟨"SandInTheShoe", "allAfterDrawn", "(III)I"⟩, 12)]
theorem lw_r2 : ∀ q ∈ lw_privs_2, lw_okq q := List.forall_mem_cons.mpr ⟨lw_p16, List.forall_mem_cons.mpr ⟨lw_p17, List.forall_mem_cons.mpr ⟨lw_p18, List.forall_mem_cons.mpr ⟨lw_p19, List.forall_mem_cons.mpr ⟨lw_p20, List.forall_mem_cons.mpr ⟨lw_p21, List.forall_mem_cons.mpr ⟨lw_p22, List.forall_mem_cons.mpr ⟨lw_p23, List.forall_mem_cons.mpr ⟨lw_p24, List.forall_mem_cons.mpr ⟨lw_p25, List.forall_mem_cons.mpr ⟨lw_p26, List.forall_mem_cons.mpr ⟨lw_p27, List.forall_mem_cons.mpr ⟨lw_p28, List.forall_mem_cons.mpr ⟨lw_p29, List.forall_mem_cons.mpr ⟨lw_p30, List.forall_mem_cons.mpr ⟨lw_p31, fun _ h => absurd h List.not_mem_nil⟩⟩⟩⟩⟩⟩⟩⟩⟩⟩⟩⟩⟩⟩⟩⟩
theorem lw_p32 : lw_okq (⟨"SandInTheShoe", "stayInThought", "(III)V"⟩, 12) := ⟨⟨by decide +kernel, by decide +kernel⟩, List.mem_of_getElem? (i := 16) (by decide +kernel), List.mem_of_getElem? (i := 633) (by decide +kernel), List.mem_of_getElem? (i := 634) (by decide +kernel)⟩
theorem lw_p33 : lw_okq (⟨"SandInTheShoeModel", "spell", "(IIIIIIIII)V"⟩, 49) := ⟨⟨by decide +kernel, by decide +kernel⟩, List.mem_of_getElem? (i := 699) (by decide +kernel), List.mem_of_getElem? (i := 705) (by decide +kernel), List.mem_of_getElem? (i := 706) (by decide +kernel)⟩
theorem lw_p34 : lw_okq (⟨"SandInTheShoeModel", "isOf", "(II)Z"⟩, 49) := ⟨⟨by decide +kernel, by decide +kernel⟩, List.mem_of_getElem? (i := 699) (by decide +kernel), List.mem_of_getElem? (i := 865) (by decide +kernel), List.mem_of_getElem? (i := 866) (by decide +kernel)⟩
theorem lw_p35 : lw_okq (⟨"SandInTheShoeModel", "isOne", "(I)Z"⟩, 49) := ⟨⟨by decide +kernel, by decide +kernel⟩, List.mem_of_getElem? (i := 699) (by decide +kernel), List.mem_of_getElem? (i := 874) (by decide +kernel), List.mem_of_getElem? (i := 875) (by decide +kernel)⟩
theorem lw_p36 : lw_okq (⟨"SandInTheShoeModel", "shoeOf", "(I)I"⟩, 49) := ⟨⟨by decide +kernel, by decide +kernel⟩, List.mem_of_getElem? (i := 699) (by decide +kernel), List.mem_of_getElem? (i := 892) (by decide +kernel), List.mem_of_getElem? (i := 893) (by decide +kernel)⟩
theorem lw_p37 : lw_okq (⟨"SandInTheShoeModel", "coastOf", "(I)I"⟩, 49) := ⟨⟨by decide +kernel, by decide +kernel⟩, List.mem_of_getElem? (i := 699) (by decide +kernel), List.mem_of_getElem? (i := 896) (by decide +kernel), List.mem_of_getElem? (i := 897) (by decide +kernel)⟩
theorem lw_p38 : lw_okq (⟨"SandInTheShoeModel", "lays", "(III)V"⟩, 49) := ⟨⟨by decide +kernel, by decide +kernel⟩, List.mem_of_getElem? (i := 699) (by decide +kernel), List.mem_of_getElem? (i := 900) (by decide +kernel), List.mem_of_getElem? (i := 901) (by decide +kernel)⟩
theorem lw_p39 : lw_okq (⟨"SandInTheShoeModel", "read", "(II)I"⟩, 49) := ⟨⟨by decide +kernel, by decide +kernel⟩, List.mem_of_getElem? (i := 699) (by decide +kernel), List.mem_of_getElem? (i := 919) (by decide +kernel), List.mem_of_getElem? (i := 920) (by decide +kernel)⟩
theorem lw_p40 : lw_okq (⟨"SandInTheShoeModel", "next", "()V"⟩, 49) := ⟨⟨by decide +kernel, by decide +kernel⟩, List.mem_of_getElem? (i := 699) (by decide +kernel), List.mem_of_getElem? (i := 923) (by decide +kernel), List.mem_of_getElem? (i := 924) (by decide +kernel)⟩
theorem lw_p41 : lw_okq (⟨"SandInTheShoeModel", "byteAt", "(I)I"⟩, 49) := ⟨⟨by decide +kernel, by decide +kernel⟩, List.mem_of_getElem? (i := 699) (by decide +kernel), List.mem_of_getElem? (i := 927) (by decide +kernel), List.mem_of_getElem? (i := 928) (by decide +kernel)⟩
theorem lw_p42 : lw_okq (⟨"SandInTheShoeModel", "isWord", "(IIIIIIII)Z"⟩, 49) := ⟨⟨by decide +kernel, by decide +kernel⟩, List.mem_of_getElem? (i := 699) (by decide +kernel), List.mem_of_getElem? (i := 936) (by decide +kernel), List.mem_of_getElem? (i := 937) (by decide +kernel)⟩
theorem lw_p43 : lw_okq (⟨"SandInTheShoeModel", "isLetter", "(II)Z"⟩, 49) := ⟨⟨by decide +kernel, by decide +kernel⟩, List.mem_of_getElem? (i := 699) (by decide +kernel), List.mem_of_getElem? (i := 940) (by decide +kernel), List.mem_of_getElem? (i := 941) (by decide +kernel)⟩
theorem lw_p44 : lw_okq (⟨"SandInTheShoeModel", "part", "(Z)I"⟩, 49) := ⟨⟨by decide +kernel, by decide +kernel⟩, List.mem_of_getElem? (i := 699) (by decide +kernel), List.mem_of_getElem? (i := 944) (by decide +kernel), List.mem_of_getElem? (i := 945) (by decide +kernel)⟩
theorem lw_p45 : lw_okq (⟨"SandInTheShoeModel", "fail", "()V"⟩, 49) := ⟨⟨by decide +kernel, by decide +kernel⟩, List.mem_of_getElem? (i := 699) (by decide +kernel), List.mem_of_getElem? (i := 948) (by decide +kernel), List.mem_of_getElem? (i := 949) (by decide +kernel)⟩
theorem lw_p46 : lw_okq (⟨"SandInTheShoeModel", "either", "()I"⟩, 49) := ⟨⟨by decide +kernel, by decide +kernel⟩, List.mem_of_getElem? (i := 699) (by decide +kernel), List.mem_of_getElem? (i := 952) (by decide +kernel), List.mem_of_getElem? (i := 953) (by decide +kernel)⟩
theorem lw_p47 : lw_okq (⟨"SandInTheShoeModel", "both", "()I"⟩, 49) := ⟨⟨by decide +kernel, by decide +kernel⟩, List.mem_of_getElem? (i := 699) (by decide +kernel), List.mem_of_getElem? (i := 956) (by decide +kernel), List.mem_of_getElem? (i := 957) (by decide +kernel)⟩
def lw_privs_3 : List (MethodName × Nat) := [(⟨"SandInTheShoe", "stayInThought", "(III)V"⟩, 12), (⟨"SandInTheShoeModel", "spell", "(IIIIIIIII)V"⟩, 49), (⟨"SandInTheShoeModel", "isOf", "(II)Z"⟩, 49), (⟨"SandInTheShoeModel", "isOne", "(I)Z"⟩, 49), (⟨"SandInTheShoeModel", "shoeOf", "(I)I"⟩, 49), (⟨"SandInTheShoeModel", "coastOf", "(I)I"⟩, 49), (⟨"SandInTheShoeModel", "lays", "(III)V"⟩, 49), (⟨"SandInTheShoeModel", "read", "(II)I"⟩, 49), (⟨"SandInTheShoeModel", "next", "()V"⟩, 49), (⟨"SandInTheShoeModel", "byteAt", "(I)I"⟩, 49), (⟨"SandInTheShoeModel", "isWord", "(IIIIIIII)Z"⟩, 49), (⟨"SandInTheShoeModel", "isLetter", "(II)Z"⟩, 49), (⟨"SandInTheShoeModel", "part", "(Z)I"⟩, 49), (⟨"SandInTheShoeModel", "fail", "()V"⟩, 49), (⟨"SandInTheShoeModel", "either", "()I"⟩, 49), (⟨"SandInTheShoeModel", "both", "()I"⟩, 49)]
theorem lw_r3 : ∀ q ∈ lw_privs_3, lw_okq q := List.forall_mem_cons.mpr ⟨lw_p32, List.forall_mem_cons.mpr ⟨lw_p33, List.forall_mem_cons.mpr ⟨lw_p34, List.forall_mem_cons.mpr ⟨lw_p35, List.forall_mem_cons.mpr ⟨lw_p36, List.forall_mem_cons.mpr ⟨lw_p37, List.forall_mem_cons.mpr ⟨lw_p38, List.forall_mem_cons.mpr ⟨lw_p39, List.forall_mem_cons.mpr ⟨lw_p40, List.forall_mem_cons.mpr ⟨lw_p41, List.forall_mem_cons.mpr ⟨lw_p42, List.forall_mem_cons.mpr ⟨lw_p43, List.forall_mem_cons.mpr ⟨lw_p44, List.forall_mem_cons.mpr ⟨lw_p45, List.forall_mem_cons.mpr ⟨lw_p46, List.forall_mem_cons.mpr ⟨lw_p47, fun _ h => absurd h List.not_mem_nil⟩⟩⟩⟩⟩⟩⟩⟩⟩⟩⟩⟩⟩⟩⟩⟩
theorem lw_p48 : lw_okq (⟨"SandInTheShoeModel", "not", "()I"⟩, 49) := ⟨⟨by decide +kernel, by decide +kernel⟩, List.mem_of_getElem? (i := 699) (by decide +kernel), List.mem_of_getElem? (i := 960) (by decide +kernel), List.mem_of_getElem? (i := 961) (by decide +kernel)⟩
theorem lw_p49 : lw_okq (⟨"SandInTheShoeModel", "opens", "()Z"⟩, 49) := ⟨⟨by decide +kernel, by decide +kernel⟩, List.mem_of_getElem? (i := 699) (by decide +kernel), List.mem_of_getElem? (i := 964) (by decide +kernel), List.mem_of_getElem? (i := 965) (by decide +kernel)⟩
theorem lw_p50 : lw_okq (⟨"SandInTheShoeModel", "added", "()I"⟩, 49) := ⟨⟨by decide +kernel, by decide +kernel⟩, List.mem_of_getElem? (i := 699) (by decide +kernel), List.mem_of_getElem? (i := 968) (by decide +kernel), List.mem_of_getElem? (i := 969) (by decide +kernel)⟩
theorem lw_p51 : lw_okq (⟨"SandInTheShoeModel", "term", "()I"⟩, 49) := ⟨⟨by decide +kernel, by decide +kernel⟩, List.mem_of_getElem? (i := 699) (by decide +kernel), List.mem_of_getElem? (i := 972) (by decide +kernel), List.mem_of_getElem? (i := 973) (by decide +kernel)⟩
theorem lw_p52 : lw_okq (⟨"SandInTheShoeModel", "atom", "()I"⟩, 49) := ⟨⟨by decide +kernel, by decide +kernel⟩, List.mem_of_getElem? (i := 699) (by decide +kernel), List.mem_of_getElem? (i := 976) (by decide +kernel), List.mem_of_getElem? (i := 977) (by decide +kernel)⟩
theorem lw_p53 : lw_okq (⟨"SandInTheShoeModel", "isSign", "(I)Z"⟩, 49) := ⟨⟨by decide +kernel, by decide +kernel⟩, List.mem_of_getElem? (i := 699) (by decide +kernel), List.mem_of_getElem? (i := 980) (by decide +kernel), List.mem_of_getElem? (i := 981) (by decide +kernel)⟩
theorem lw_p54 : lw_okq (⟨"SandInTheShoeModel", "name", "()I"⟩, 49) := ⟨⟨by decide +kernel, by decide +kernel⟩, List.mem_of_getElem? (i := 699) (by decide +kernel), List.mem_of_getElem? (i := 984) (by decide +kernel), List.mem_of_getElem? (i := 985) (by decide +kernel)⟩
theorem lw_p55 : lw_okq (⟨"SandInTheShoeModel", "takesOf", "(III)I"⟩, 49) := ⟨⟨by decide +kernel, by decide +kernel⟩, List.mem_of_getElem? (i := 699) (by decide +kernel), List.mem_of_getElem? (i := 998) (by decide +kernel), List.mem_of_getElem? (i := 999) (by decide +kernel)⟩
theorem lw_p56 : lw_okq (⟨"SandInTheShoeModel", "says", "(IIIIII)I"⟩, 49) := ⟨⟨by decide +kernel, by decide +kernel⟩, List.mem_of_getElem? (i := 699) (by decide +kernel), List.mem_of_getElem? (i := 1002) (by decide +kernel), List.mem_of_getElem? (i := 1003) (by decide +kernel)⟩
theorem lw_p57 : lw_okq (⟨"SandInTheShoeModel", "keepsOf", "(II)I"⟩, 49) := ⟨⟨by decide +kernel, by decide +kernel⟩, List.mem_of_getElem? (i := 699) (by decide +kernel), List.mem_of_getElem? (i := 1009) (by decide +kernel), List.mem_of_getElem? (i := 1010) (by decide +kernel)⟩
theorem lw_p58 : lw_okq (⟨"SandInTheShoeModel", "sureOf", "(III)I"⟩, 49) := ⟨⟨by decide +kernel, by decide +kernel⟩, List.mem_of_getElem? (i := 699) (by decide +kernel), List.mem_of_getElem? (i := 1013) (by decide +kernel), List.mem_of_getElem? (i := 1014) (by decide +kernel)⟩
theorem lw_p59 : lw_okq (⟨"SandInTheShoeModel", "stays1", "(II)V"⟩, 49) := ⟨⟨by decide +kernel, by decide +kernel⟩, List.mem_of_getElem? (i := 699) (by decide +kernel), List.mem_of_getElem? (i := 1021) (by decide +kernel), List.mem_of_getElem? (i := 1022) (by decide +kernel)⟩
theorem lw_p60 : lw_okq (⟨"SandInTheShoeModel", "areTwo", "(II)Z"⟩, 49) := ⟨⟨by decide +kernel, by decide +kernel⟩, List.mem_of_getElem? (i := 699) (by decide +kernel), List.mem_of_getElem? (i := 1033) (by decide +kernel), List.mem_of_getElem? (i := 1034) (by decide +kernel)⟩
theorem lw_p61 : lw_okq (⟨"SandInTheShoeModel", "apart", "(II)I"⟩, 49) := ⟨⟨by decide +kernel, by decide +kernel⟩, List.mem_of_getElem? (i := 699) (by decide +kernel), List.mem_of_getElem? (i := 1037) (by decide +kernel), List.mem_of_getElem? (i := 1038) (by decide +kernel)⟩
theorem lw_p62 : lw_okq (⟨"SandInTheShoeModel", "tellsOf", "(II)I"⟩, 49) := ⟨⟨by decide +kernel, by decide +kernel⟩, List.mem_of_getElem? (i := 699) (by decide +kernel), List.mem_of_getElem? (i := 1041) (by decide +kernel), List.mem_of_getElem? (i := 1042) (by decide +kernel)⟩
theorem lw_p63 : lw_okq (⟨"SandInTheShoeModel", "tables", "(I)V"⟩, 49) := ⟨⟨by decide +kernel, by decide +kernel⟩, List.mem_of_getElem? (i := 699) (by decide +kernel), List.mem_of_getElem? (i := 1066) (by decide +kernel), List.mem_of_getElem? (i := 1067) (by decide +kernel)⟩
def lw_privs_4 : List (MethodName × Nat) := [(⟨"SandInTheShoeModel", "not", "()I"⟩, 49), (⟨"SandInTheShoeModel", "opens", "()Z"⟩, 49), (⟨"SandInTheShoeModel", "added", "()I"⟩, 49), (⟨"SandInTheShoeModel", "term", "()I"⟩, 49), (⟨"SandInTheShoeModel", "atom", "()I"⟩, 49), (⟨"SandInTheShoeModel", "isSign", "(I)Z"⟩, 49), (⟨"SandInTheShoeModel", "name", "()I"⟩, 49), (⟨"SandInTheShoeModel", "takesOf", "(III)I"⟩, 49), (⟨"SandInTheShoeModel", "says", "(IIIIII)I"⟩, 49), (⟨"SandInTheShoeModel", "keepsOf", "(II)I"⟩, 49), (⟨"SandInTheShoeModel", "sureOf", "(III)I"⟩, 49), (⟨"SandInTheShoeModel", "stays1", "(II)V"⟩, 49), (⟨"SandInTheShoeModel", "areTwo", "(II)Z"⟩, 49), (⟨"SandInTheShoeModel", "apart", "(II)I"⟩, 49), (⟨"SandInTheShoeModel", "tellsOf", "(II)I"⟩, 49), (⟨"SandInTheShoeModel", "tables", "(I)V"⟩, 49)]
theorem lw_r4 : ∀ q ∈ lw_privs_4, lw_okq q := List.forall_mem_cons.mpr ⟨lw_p48, List.forall_mem_cons.mpr ⟨lw_p49, List.forall_mem_cons.mpr ⟨lw_p50, List.forall_mem_cons.mpr ⟨lw_p51, List.forall_mem_cons.mpr ⟨lw_p52, List.forall_mem_cons.mpr ⟨lw_p53, List.forall_mem_cons.mpr ⟨lw_p54, List.forall_mem_cons.mpr ⟨lw_p55, List.forall_mem_cons.mpr ⟨lw_p56, List.forall_mem_cons.mpr ⟨lw_p57, List.forall_mem_cons.mpr ⟨lw_p58, List.forall_mem_cons.mpr ⟨lw_p59, List.forall_mem_cons.mpr ⟨lw_p60, List.forall_mem_cons.mpr ⟨lw_p61, List.forall_mem_cons.mpr ⟨lw_p62, List.forall_mem_cons.mpr ⟨lw_p63, fun _ h => absurd h List.not_mem_nil⟩⟩⟩⟩⟩⟩⟩⟩⟩⟩⟩⟩⟩⟩⟩⟩
theorem lw_p64 : lw_okq (⟨"SandInTheShoeModel", "packed", "(II)I"⟩, 49) := ⟨⟨by decide +kernel, by decide +kernel⟩, List.mem_of_getElem? (i := 699) (by decide +kernel), List.mem_of_getElem? (i := 1070) (by decide +kernel), List.mem_of_getElem? (i := 1071) (by decide +kernel)⟩
theorem lw_p65 : lw_okq (⟨"SandInTheShoeModel", "looks", "(II)V"⟩, 49) := ⟨⟨by decide +kernel, by decide +kernel⟩, List.mem_of_getElem? (i := 699) (by decide +kernel), List.mem_of_getElem? (i := 1094) (by decide +kernel), List.mem_of_getElem? (i := 1095) (by decide +kernel)⟩
theorem lw_p66 : lw_okq (⟨"SandInTheShoeModel", "fits", "(II)Z"⟩, 49) := ⟨⟨by decide +kernel, by decide +kernel⟩, List.mem_of_getElem? (i := 699) (by decide +kernel), List.mem_of_getElem? (i := 1098) (by decide +kernel), List.mem_of_getElem? (i := 1099) (by decide +kernel)⟩
theorem lw_p67 : lw_okq (⟨"SandInTheShoeModel", "goes", "(IIIII)V"⟩, 49) := ⟨⟨by decide +kernel, by decide +kernel⟩, List.mem_of_getElem? (i := 699) (by decide +kernel), List.mem_of_getElem? (i := 1119) (by decide +kernel), List.mem_of_getElem? (i := 1120) (by decide +kernel)⟩
theorem lw_p68 : lw_okq (⟨"SandInTheShoeModel", "firstOther", "(III)I"⟩, 49) := ⟨⟨by decide +kernel, by decide +kernel⟩, List.mem_of_getElem? (i := 699) (by decide +kernel), List.mem_of_getElem? (i := 1128) (by decide +kernel), List.mem_of_getElem? (i := 1129) (by decide +kernel)⟩
theorem lw_p69 : lw_okq (⟨"SandInTheShoeModel", "coastSet", "(II)I"⟩, 49) := ⟨⟨by decide +kernel, by decide +kernel⟩, List.mem_of_getElem? (i := 699) (by decide +kernel), List.mem_of_getElem? (i := 1132) (by decide +kernel), List.mem_of_getElem? (i := 1133) (by decide +kernel)⟩
theorem lw_p70 : lw_okq (⟨"SandInTheShoeModel", "shoeDrawn", "(III)I"⟩, 49) := ⟨⟨by decide +kernel, by decide +kernel⟩, List.mem_of_getElem? (i := 699) (by decide +kernel), List.mem_of_getElem? (i := 1145) (by decide +kernel), List.mem_of_getElem? (i := 1146) (by decide +kernel)⟩
def lw_privs_5 : List (MethodName × Nat) := [(⟨"SandInTheShoeModel", "packed", "(II)I"⟩, 49), (⟨"SandInTheShoeModel", "looks", "(II)V"⟩, 49), (⟨"SandInTheShoeModel", "fits", "(II)Z"⟩, 49), (⟨"SandInTheShoeModel", "goes", "(IIIII)V"⟩, 49), (⟨"SandInTheShoeModel", "firstOther", "(III)I"⟩, 49), (⟨"SandInTheShoeModel", "coastSet", "(II)I"⟩, 49), (⟨"SandInTheShoeModel", "shoeDrawn", "(III)I"⟩, 49)]
theorem lw_r5 : ∀ q ∈ lw_privs_5, lw_okq q := List.forall_mem_cons.mpr ⟨lw_p64, List.forall_mem_cons.mpr ⟨lw_p65, List.forall_mem_cons.mpr ⟨lw_p66, List.forall_mem_cons.mpr ⟨lw_p67, List.forall_mem_cons.mpr ⟨lw_p68, List.forall_mem_cons.mpr ⟨lw_p69, List.forall_mem_cons.mpr ⟨lw_p70, fun _ h => absurd h List.not_mem_nil⟩⟩⟩⟩⟩⟩⟩
def lw_privs : List (MethodName × Nat) := lw_privs_1 ++ (lw_privs_2 ++ (lw_privs_3 ++ (lw_privs_4 ++ (lw_privs_5))))
def lw_tbl : List Cond := k2_sels lw_privs ++ tables_1
theorem lw_privs_ok : ∀ q ∈ lw_privs, lw_okq q := by
  show ∀ q ∈ lw_privs_1 ++ (lw_privs_2 ++ (lw_privs_3 ++ (lw_privs_4 ++ (lw_privs_5)))), lw_okq q
  exact List.forall_mem_append.mpr ⟨lw_r1, List.forall_mem_append.mpr ⟨lw_r2, List.forall_mem_append.mpr ⟨lw_r3, List.forall_mem_append.mpr ⟨lw_r4, lw_r5⟩⟩⟩⟩
-- ===== end of PART A; then your names; then what follows =====

def RX0 : String := "SandInTheShoe$Fit"
def RX2 : String := "SandInTheShoe$Reader"
def RX3 : String := "SandInTheShoe$Sheet"
def RX4 : String := "SandInTheShoe$Text"
def RX5 : String := "SandInTheShoe$World"
def RX6 : String := "SandInTheShoe"
def RX7 : String := "SandInTheShoeModel"
def RX1 : String := "SandInTheShoe$Kinds"
def RL : String := "SandInTheShoeLaw"
def TX0 : u_T := fun k => match k with
  | 0 => ("SandInTheShoe$Fit", "count", "I", false)
  | 1 => ("SandInTheShoe$Fit", "first", "I", false)
  | 2 => ("SandInTheShoe$Fit", "firstDays", "I", false)
  | 3 => ("SandInTheShoe$Fit", "must", "I", false)
  | 4 => ("SandInTheShoe$Fit", "may", "I", false)
  | 5 => ("SandInTheShoe$Fit", "onCoast", "[I", true)
  | 6 => ("SandInTheShoe$Fit", "days", "[I", true)
  | _ => ("SandInTheShoe$Fit", "shoe", "[I", true)
def tyX0 : Nat → FieldType := fun k => match k with
  | 0 => .int
  | 1 => .int
  | 2 => .int
  | 3 => .int
  | 4 => .int
  | 5 => .array .int
  | 6 => .array .int
  | _ => .array .int
theorem nmX0 : ∀ a, a < 8 → ∀ b, b < 8 → a ≠ b → (TX0 a).2.1 ≠ (TX0 b).2.1 := by decide +kernel
theorem tyX0_ok : ∀ k, k < 8 → parseFieldDescriptor (TX0 k).2.2.1 = some (tyX0 k) := by decide +kernel
def TX2 : u_T := fun k => match k with
  | 0 => ("SandInTheShoe$Reader", "tape", "[I", true)
  | 1 => ("SandInTheShoe$Reader", "size", "I", false)
  | 2 => ("SandInTheShoe$Reader", "code", "[I", true)
  | 3 => ("SandInTheShoe$Reader", "ends", "[I", true)
  | 4 => ("SandInTheShoe$Reader", "steps", "I", false)
  | 5 => ("SandInTheShoe$Reader", "at", "I", false)
  | 6 => ("SandInTheShoe$Reader", "token", "I", false)
  | 7 => ("SandInTheShoe$Reader", "tokenAt", "I", false)
  | _ => ("SandInTheShoe$Reader", "value", "I", false)
def tyX2 : Nat → FieldType := fun k => match k with
  | 0 => .array .int
  | 1 => .int
  | 2 => .array .int
  | 3 => .array .int
  | 4 => .int
  | 5 => .int
  | 6 => .int
  | 7 => .int
  | _ => .int
theorem nmX2 : ∀ a, a < 9 → ∀ b, b < 9 → a ≠ b → (TX2 a).2.1 ≠ (TX2 b).2.1 := by decide +kernel
theorem tyX2_ok : ∀ k, k < 9 → parseFieldDescriptor (TX2 k).2.2.1 = some (tyX2 k) := by decide +kernel
def TX3 : u_T := fun k => match k with
  | 0 => ("SandInTheShoe$Sheet", "sort", "I", false)
  | 1 => ("SandInTheShoe$Sheet", "size", "I", false)
  | _ => ("SandInTheShoe$Sheet", "row", "[I", true)
def tyX3 : Nat → FieldType := fun k => match k with
  | 0 => .int
  | 1 => .int
  | _ => .array .int
theorem nmX3 : ∀ a, a < 3 → ∀ b, b < 3 → a ≠ b → (TX3 a).2.1 ≠ (TX3 b).2.1 := by decide +kernel
theorem tyX3_ok : ∀ k, k < 3 → parseFieldDescriptor (TX3 k).2.2.1 = some (tyX3 k) := by decide +kernel
def TX4 : u_T := fun k => match k with
  | 0 => ("SandInTheShoe$Text", "code", "[I", true)
  | _ => ("SandInTheShoe$Text", "ends", "[I", true)
def tyX4 : Nat → FieldType := fun k => match k with
  | 0 => .array .int
  | _ => .array .int
theorem nmX4 : ∀ a, a < 2 → ∀ b, b < 2 → a ≠ b → (TX4 a).2.1 ≠ (TX4 b).2.1 := by decide +kernel
theorem tyX4_ok : ∀ k, k < 2 → parseFieldDescriptor (TX4 k).2.2.1 = some (tyX4 k) := by decide +kernel
def TX5 : u_T := fun k => match k with
  | 0 => ("SandInTheShoe$World", "day", "I", false)
  | 1 => ("SandInTheShoe$World", "rule", "I", false)
  | 2 => ("SandInTheShoe$World", "people", "I", false)
  | 3 => ("SandInTheShoe$World", "coasts", "[I", true)
  | 4 => ("SandInTheShoe$World", "shoes", "[I", true)
  | 5 => ("SandInTheShoe$World", "kinds", "[I", true)
  | 6 => ("SandInTheShoe$World", "numbers", "[I", true)
  | _ => ("SandInTheShoe$World", "out", "[I", true)
def tyX5 : Nat → FieldType := fun k => match k with
  | 0 => .int
  | 1 => .int
  | 2 => .int
  | 3 => .array .int
  | 4 => .array .int
  | 5 => .array .int
  | 6 => .array .int
  | _ => .array .int
theorem nmX5 : ∀ a, a < 8 → ∀ b, b < 8 → a ≠ b → (TX5 a).2.1 ≠ (TX5 b).2.1 := by decide +kernel
theorem tyX5_ok : ∀ k, k < 8 → parseFieldDescriptor (TX5 k).2.2.1 = some (tyX5 k) := by decide +kernel
def TX6 : u_T := fun k => match k with
  | 0 => ("SandInTheShoe", "now", "LSandInTheShoe$World;", true)
  | 1 => ("SandInTheShoe", "image", "LSandInTheShoe$World;", true)
  | 2 => ("SandInTheShoe", "imageKept", "Z", false)
  | 3 => ("SandInTheShoe", "reader", "LSandInTheShoe$Reader;", true)
  | 4 => ("SandInTheShoe", "texts", "[LSandInTheShoe$Text;", true)
  | 5 => ("SandInTheShoe", "textCount", "I", false)
  | 6 => ("SandInTheShoe", "sheets", "[LSandInTheShoe$Sheet;", true)
  | 7 => ("SandInTheShoe", "fitting", "LSandInTheShoe$Fit;", true)
  | 8 => ("SandInTheShoe", "names", "[I", true)
  | 9 => ("SandInTheShoe", "stack", "[I", true)
  | 10 => ("SandInTheShoe", "dailyTakes", "[I", true)
  | _ => ("SandInTheShoe", "thought", "[I", true)
def tyX6 : Nat → FieldType := fun k => match k with
  | 0 => .object "SandInTheShoe$World"
  | 1 => .object "SandInTheShoe$World"
  | 2 => .boolean
  | 3 => .object "SandInTheShoe$Reader"
  | 4 => .array (.object "SandInTheShoe$Text")
  | 5 => .int
  | 6 => .array (.object "SandInTheShoe$Sheet")
  | 7 => .object "SandInTheShoe$Fit"
  | 8 => .array .int
  | 9 => .array .int
  | 10 => .array .int
  | _ => .array .int
theorem nmX6 : ∀ a, a < 12 → ∀ b, b < 12 → a ≠ b → (TX6 a).2.1 ≠ (TX6 b).2.1 := by decide +kernel
theorem tyX6_ok : ∀ k, k < 12 → parseFieldDescriptor (TX6 k).2.2.1 = some (tyX6 k) := by decide +kernel
def TX7 : u_T := fun k => match k with
  | 0 => ("SandInTheShoeModel", "thrown", "I", false)
  | 1 => ("SandInTheShoeModel", "texts", "[I", true)
  | 2 => ("SandInTheShoeModel", "textSize", "[I", true)
  | 3 => ("SandInTheShoeModel", "textCount", "I", false)
  | 4 => ("SandInTheShoeModel", "rule", "I", false)
  | 5 => ("SandInTheShoeModel", "tape", "[I", true)
  | 6 => ("SandInTheShoeModel", "taped", "I", false)
  | 7 => ("SandInTheShoeModel", "dayNow", "I", false)
  | 8 => ("SandInTheShoeModel", "grains", "[I", true)
  | 9 => ("SandInTheShoeModel", "kinds", "[I", true)
  | 10 => ("SandInTheShoeModel", "rows", "[I", true)
  | 11 => ("SandInTheShoeModel", "shoes", "[I", true)
  | 12 => ("SandInTheShoeModel", "many", "I", false)
  | 13 => ("SandInTheShoeModel", "ofGrains", "I", false)
  | 14 => ("SandInTheShoeModel", "ofMark", "I", false)
  | 15 => ("SandInTheShoeModel", "ofNumber", "I", false)
  | 16 => ("SandInTheShoeModel", "ofDay", "I", false)
  | 17 => ("SandInTheShoeModel", "ofCoast", "I", false)
  | 18 => ("SandInTheShoeModel", "ofShoe", "I", false)
  | 19 => ("SandInTheShoeModel", "from", "I", false)
  | 20 => ("SandInTheShoeModel", "size", "I", false)
  | 21 => ("SandInTheShoeModel", "here", "I", false)
  | 22 => ("SandInTheShoeModel", "token", "I", false)
  | 23 => ("SandInTheShoeModel", "tokenAt", "I", false)
  | 24 => ("SandInTheShoeModel", "tokenWorth", "J", false)
  | 25 => ("SandInTheShoeModel", "open", "I", false)
  | 26 => ("SandInTheShoeModel", "bad", "Z", false)
  | 27 => ("SandInTheShoeModel", "fault", "I", false)
  | 28 => ("SandInTheShoeModel", "kept", "[I", true)
  | 29 => ("SandInTheShoeModel", "takes1", "[I", true)
  | 30 => ("SandInTheShoeModel", "fitMany", "I", false)
  | 31 => ("SandInTheShoeModel", "fitFirst", "I", false)
  | 32 => ("SandInTheShoeModel", "fitDays", "I", false)
  | 33 => ("SandInTheShoeModel", "must", "I", false)
  | 34 => ("SandInTheShoeModel", "may", "I", false)
  | 35 => ("SandInTheShoeModel", "fitOn", "[I", true)
  | 36 => ("SandInTheShoeModel", "bestDigits", "I", false)
  | 37 => ("SandInTheShoeModel", "bestApart", "I", false)
  | 38 => ("SandInTheShoeModel", "shoeWas", "[I", true)
  | 39 => ("SandInTheShoeModel", "grainsKept", "[I", true)
  | 40 => ("SandInTheShoeModel", "rowsKept", "[I", true)
  | 41 => ("SandInTheShoeModel", "shoesKept", "[I", true)
  | 42 => ("SandInTheShoeModel", "manyKept", "I", false)
  | 43 => ("SandInTheShoeModel", "dayKept", "I", false)
  | 44 => ("SandInTheShoeModel", "ruleKept", "I", false)
  | 45 => ("SandInTheShoeModel", "isThere", "[Z", true)
  | 46 => ("SandInTheShoeModel", "sorts", "[I", true)
  | 47 => ("SandInTheShoeModel", "sheetSize", "[I", true)
  | _ => ("SandInTheShoeModel", "items", "[I", true)
def tyX7 : Nat → FieldType := fun k => match k with
  | 0 => .int
  | 1 => .array .int
  | 2 => .array .int
  | 3 => .int
  | 4 => .int
  | 5 => .array .int
  | 6 => .int
  | 7 => .int
  | 8 => .array .int
  | 9 => .array .int
  | 10 => .array .int
  | 11 => .array .int
  | 12 => .int
  | 13 => .int
  | 14 => .int
  | 15 => .int
  | 16 => .int
  | 17 => .int
  | 18 => .int
  | 19 => .int
  | 20 => .int
  | 21 => .int
  | 22 => .int
  | 23 => .int
  | 24 => .long
  | 25 => .int
  | 26 => .boolean
  | 27 => .int
  | 28 => .array .int
  | 29 => .array .int
  | 30 => .int
  | 31 => .int
  | 32 => .int
  | 33 => .int
  | 34 => .int
  | 35 => .array .int
  | 36 => .int
  | 37 => .int
  | 38 => .array .int
  | 39 => .array .int
  | 40 => .array .int
  | 41 => .array .int
  | 42 => .int
  | 43 => .int
  | 44 => .int
  | 45 => .array .boolean
  | 46 => .array .int
  | 47 => .array .int
  | _ => .array .int
theorem nmX7 : ∀ a, a < 49 → ∀ b, b < 49 → a ≠ b → (TX7 a).2.1 ≠ (TX7 b).2.1 := by decide +kernel
theorem tyX7_ok : ∀ k, k < 49 → parseFieldDescriptor (TX7 k).2.2.1 = some (tyX7 k) := by decide +kernel
def RJ9 : String := "java/lang/Math"
def RJ0 : String := "java/lang/String"
def RJ1 : String := "java/lang/StringLatin1"
def RJ2 : String := "java/lang/StringUTF16"
def RJ3 : String := "jdk/internal/util/Preconditions"
abbrev cX0_init : ByteArray := prog_2_method_1_code
def yX0_init : MethodName := ⟨RX0, "<init>", "()V"⟩
abbrev cX0_search : ByteArray := prog_2_method_2_code
def yX0_search : MethodName := ⟨RX0, "search", "([I[I)V"⟩
abbrev cX0_clear : ByteArray := prog_2_method_3_code
def yX0_clear : MethodName := ⟨RX0, "clear", "()V"⟩
abbrev cX0_isInShoe : ByteArray := prog_2_method_4_code
def yX0_isInShoe : MethodName := ⟨RX0, "isInShoe", "([I)Z"⟩
abbrev cX0_found : ByteArray := prog_2_method_5_code
def yX0_found : MethodName := ⟨RX0, "found", "()V"⟩
abbrev cX0_stepOn : ByteArray := prog_2_method_6_code
def yX0_stepOn : MethodName := ⟨RX0, "stepOn", "([I)V"⟩
abbrev cX0_takeUp : ByteArray := prog_2_method_7_code
def yX0_takeUp : MethodName := ⟨RX0, "takeUp", "([III)V"⟩
abbrev cX1_takes : ByteArray := prog_3_method_2_code
def yX1_takes : MethodName := ⟨RX1, "takes", "(IIII)I"⟩
abbrev cX1_takesUnbounded : ByteArray := prog_3_method_3_code
def yX1_takesUnbounded : MethodName := ⟨RX1, "takesUnbounded", "(IIII)I"⟩
abbrev cX1_keeps : ByteArray := prog_3_method_4_code
def yX1_keeps : MethodName := ⟨RX1, "keeps", "(III)I"⟩
abbrev cX1_sure : ByteArray := prog_3_method_5_code
def yX1_sure : MethodName := ⟨RX1, "sure", "(III)I"⟩
abbrev cX1_isUnder : ByteArray := prog_3_method_6_code
def yX1_isUnder : MethodName := ⟨RX1, "isUnder", "(II)Z"⟩
abbrev cX2_init : ByteArray := prog_4_method_1_code
def yX2_init : MethodName := ⟨RX2, "<init>", "()V"⟩
abbrev cX2_add : ByteArray := prog_4_method_2_code
def yX2_add : MethodName := ⟨RX2, "add", "(I)I"⟩
abbrev cX2_read : ByteArray := prog_4_method_3_code
def yX2_read : MethodName := ⟨RX2, "read", "()I"⟩
abbrev cX2_readLevel : ByteArray := prog_4_method_4_code
def yX2_readLevel : MethodName := ⟨RX2, "readLevel", "(II)Z"⟩
abbrev cX2_readNot : ByteArray := prog_4_method_5_code
def yX2_readNot : MethodName := ⟨RX2, "readNot", "(I)Z"⟩
abbrev cX2_readOne : ByteArray := prog_4_method_6_code
def yX2_readOne : MethodName := ⟨RX2, "readOne", "(I)Z"⟩
abbrev cX2_levelOf : ByteArray := prog_4_method_7_code
def yX2_levelOf : MethodName := ⟨RX2, "levelOf", "(I)I"⟩
abbrev cX2_stepOf : ByteArray := prog_4_method_8_code
def yX2_stepOf : MethodName := ⟨RX2, "stepOf", "(I)I"⟩
abbrev cX2_put : ByteArray := prog_4_method_9_code
def yX2_put : MethodName := ⟨RX2, "put", "(I)V"⟩
abbrev cX2_next : ByteArray := prog_4_method_10_code
def yX2_next : MethodName := ⟨RX2, "next", "()V"⟩
abbrev cX2_nextWord : ByteArray := prog_4_method_11_code
def yX2_nextWord : MethodName := ⟨RX2, "nextWord", "()V"⟩
abbrev cX2_nextNumber : ByteArray := prog_4_method_12_code
def yX2_nextNumber : MethodName := ⟨RX2, "nextNumber", "()V"⟩
abbrev cX2_isIn : ByteArray := prog_4_method_13_code
def yX2_isIn : MethodName := ⟨RX2, "isIn", "(III)Z"⟩
abbrev cX2_isSign : ByteArray := prog_4_method_14_code
def yX2_isSign : MethodName := ⟨RX2, "isSign", "(I)Z"⟩
abbrev cX2_isToken : ByteArray := prog_4_method_15_code
def yX2_isToken : MethodName := ⟨RX2, "isToken", "(Ljava/lang/String;)Z"⟩
abbrev cX2_wordOf : ByteArray := prog_4_method_16_code
def yX2_wordOf : MethodName := ⟨RX2, "wordOf", "(I)Ljava/lang/String;"⟩
abbrev cX3_init : ByteArray := prog_5_method_1_code
def yX3_init : MethodName := ⟨RX3, "<init>", "()V"⟩
abbrev cX3_isSort : ByteArray := prog_5_method_2_code
def yX3_isSort : MethodName := ⟨RX3, "isSort", "(I)Z"⟩
abbrev cX3_isMissing : ByteArray := prog_5_method_3_code
def yX3_isMissing : MethodName := ⟨RX3, "isMissing", "()Z"⟩
abbrev cX3_has : ByteArray := prog_5_method_4_code
def yX3_has : MethodName := ⟨RX3, "has", "(I)Z"⟩
abbrev cX3_hasRun : ByteArray := prog_5_method_5_code
def yX3_hasRun : MethodName := ⟨RX3, "hasRun", "(II)Z"⟩
abbrev cX3_becomes : ByteArray := prog_5_method_6_code
def yX3_becomes : MethodName := ⟨RX3, "becomes", "(II)V"⟩
abbrev cX3_put : ByteArray := prog_5_method_7_code
def yX3_put : MethodName := ⟨RX3, "put", "(II)V"⟩
abbrev cX3_all : ByteArray := prog_5_method_8_code
def yX3_all : MethodName := ⟨RX3, "all", "()I"⟩
abbrev cX4_init : ByteArray := prog_6_method_1_code
def yX4_init : MethodName := ⟨RX4, "<init>", "()V"⟩
abbrev cX4_becomes : ByteArray := prog_6_method_2_code
def yX4_becomes : MethodName := ⟨RX4, "becomes", "([I[I)V"⟩
abbrev cX4_value : ByteArray := prog_6_method_3_code
def yX4_value : MethodName := ⟨RX4, "value", "(I[I[I)I"⟩
abbrev cX4_joined : ByteArray := prog_6_method_4_code
def yX4_joined : MethodName := ⟨RX4, "joined", "(III)I"⟩
abbrev cX5_init : ByteArray := prog_7_method_1_code
def yX5_init : MethodName := ⟨RX5, "<init>", "()V"⟩
abbrev cX5_has : ByteArray := prog_7_method_2_code
def yX5_has : MethodName := ⟨RX5, "has", "(I)Z"⟩
abbrev cX5_comes : ByteArray := prog_7_method_3_code
def yX5_comes : MethodName := ⟨RX5, "comes", "(II)I"⟩
abbrev cX5_becomes : ByteArray := prog_7_method_4_code
def yX5_becomes : MethodName := ⟨RX5, "becomes", "(LSandInTheShoe$World;)V"⟩
abbrev cX5_allOnCoast : ByteArray := prog_7_method_5_code
def yX5_allOnCoast : MethodName := ⟨RX5, "allOnCoast", "(I)I"⟩
abbrev cX5_allInShoe : ByteArray := prog_7_method_6_code
def yX5_allInShoe : MethodName := ⟨RX5, "allInShoe", "(I)I"⟩
abbrev cX5_allInShoes : ByteArray := prog_7_method_7_code
def yX5_allInShoes : MethodName := ⟨RX5, "allInShoes", "()I"⟩
abbrev cX5_apart : ByteArray := prog_7_method_8_code
def yX5_apart : MethodName := ⟨RX5, "apart", "(II)I"⟩
abbrev cX5_oddest : ByteArray := prog_7_method_9_code
def yX5_oddest : MethodName := ⟨RX5, "oddest", "(I)I"⟩
abbrev cX5_poorest : ByteArray := prog_7_method_10_code
def yX5_poorest : MethodName := ⟨RX5, "poorest", "()I"⟩
abbrev cX6_init : ByteArray := prog_1_method_1_code
def yX6_init : MethodName := ⟨RX6, "<init>", "()V"⟩
abbrev cX6_set : ByteArray := prog_1_method_2_code
def yX6_set : MethodName := ⟨RX6, "set", "(III)I"⟩
abbrev cX6_person : ByteArray := prog_1_method_3_code
def yX6_person : MethodName := ⟨RX6, "person", "(II)I"⟩
abbrev cX6_told : ByteArray := prog_1_method_4_code
def yX6_told : MethodName := ⟨RX6, "told", "(II)I"⟩
abbrev cX6_asks : ByteArray := prog_1_method_5_code
def yX6_asks : MethodName := ⟨RX6, "asks", "(III)I"⟩
abbrev cX6_feed : ByteArray := prog_1_method_6_code
def yX6_feed : MethodName := ⟨RX6, "feed", "(I)I"⟩
abbrev cX6_text : ByteArray := prog_1_method_7_code
def yX6_text : MethodName := ⟨RX6, "text", "()I"⟩
abbrev cX6_force : ByteArray := prog_1_method_8_code
def yX6_force : MethodName := ⟨RX6, "force", "(I)I"⟩
abbrev cX6_stay : ByteArray := prog_1_method_9_code
def yX6_stay : MethodName := ⟨RX6, "stay", "(II)I"⟩
abbrev cX6_shake : ByteArray := prog_1_method_10_code
def yX6_shake : MethodName := ⟨RX6, "shake", "(I)I"⟩
abbrev cX6_like : ByteArray := prog_1_method_11_code
def yX6_like : MethodName := ⟨RX6, "like", "(III)I"⟩
abbrev cX6_odd : ByteArray := prog_1_method_12_code
def yX6_odd : MethodName := ⟨RX6, "odd", "(II)I"⟩
abbrev cX6_mean : ByteArray := prog_1_method_13_code
def yX6_mean : MethodName := ⟨RX6, "mean", "(III)J"⟩
abbrev cX6_stays : ByteArray := prog_1_method_14_code
def yX6_stays : MethodName := ⟨RX6, "stays", "(III)I"⟩
abbrev cX6_pack : ByteArray := prog_1_method_15_code
def yX6_pack : MethodName := ⟨RX6, "pack", "(III)I"⟩
abbrev cX6_fit : ByteArray := prog_1_method_16_code
def yX6_fit : MethodName := ⟨RX6, "fit", "(III)I"⟩
abbrev cX6_share : ByteArray := prog_1_method_17_code
def yX6_share : MethodName := ⟨RX6, "share", "(IIII)J"⟩
abbrev cX6_go : ByteArray := prog_1_method_18_code
def yX6_go : MethodName := ⟨RX6, "go", "(IIII)I"⟩
abbrev cX6_tells : ByteArray := prog_1_method_19_code
def yX6_tells : MethodName := ⟨RX6, "tells", "(IIII)I"⟩
abbrev cX6_film : ByteArray := prog_1_method_20_code
def yX6_film : MethodName := ⟨RX6, "film", "(III)I"⟩
abbrev cX6_drawn : ByteArray := prog_1_method_21_code
def yX6_drawn : MethodName := ⟨RX6, "drawn", "(III)I"⟩
abbrev cX6_chance : ByteArray := prog_1_method_22_code
def yX6_chance : MethodName := ⟨RX6, "chance", "(IIIII)J"⟩
abbrev cX6_image : ByteArray := prog_1_method_23_code
def yX6_image : MethodName := ⟨RX6, "image", "()I"⟩
abbrev cX6_back : ByteArray := prog_1_method_24_code
def yX6_back : MethodName := ⟨RX6, "back", "()I"⟩
abbrev cX6_count : ByteArray := prog_1_method_25_code
def yX6_count : MethodName := ⟨RX6, "count", "(I)I"⟩
abbrev cX6_sheet : ByteArray := prog_1_method_26_code
def yX6_sheet : MethodName := ⟨RX6, "sheet", "(III)I"⟩
abbrev cX6_cell : ByteArray := prog_1_method_27_code
def yX6_cell : MethodName := ⟨RX6, "cell", "(III)I"⟩
abbrev cX6_copy : ByteArray := prog_1_method_28_code
def yX6_copy : MethodName := ⟨RX6, "copy", "(IIIII)I"⟩
abbrev cX6_people : ByteArray := prog_1_method_29_code
def yX6_people : MethodName := ⟨RX6, "people", "(IIII)I"⟩
abbrev cX6_taken : ByteArray := prog_1_method_30_code
def yX6_taken : MethodName := ⟨RX6, "taken", "(II)I"⟩
abbrev cX6_isCoast : ByteArray := prog_1_method_31_code
def yX6_isCoast : MethodName := ⟨RX6, "isCoast", "(I)Z"⟩
abbrev cX6_isMark : ByteArray := prog_1_method_32_code
def yX6_isMark : MethodName := ⟨RX6, "isMark", "(I)Z"⟩
abbrev cX6_isPart : ByteArray := prog_1_method_33_code
def yX6_isPart : MethodName := ⟨RX6, "isPart", "(I)Z"⟩
abbrev cX6_isSheet : ByteArray := prog_1_method_34_code
def yX6_isSheet : MethodName := ⟨RX6, "isSheet", "(I)Z"⟩
abbrev cX6_areTwo : ByteArray := prog_1_method_35_code
def yX6_areTwo : MethodName := ⟨RX6, "areTwo", "(II)Z"⟩
abbrev cX6_isPlace : ByteArray := prog_1_method_36_code
def yX6_isPlace : MethodName := ⟨RX6, "isPlace", "(II)Z"⟩
abbrev cX6_placeOf : ByteArray := prog_1_method_37_code
def yX6_placeOf : MethodName := ⟨RX6, "placeOf", "(I)I"⟩
abbrev cX6_mostOf : ByteArray := prog_1_method_38_code
def yX6_mostOf : MethodName := ⟨RX6, "mostOf", "(I)I"⟩
abbrev cX6_areStays : ByteArray := prog_1_method_39_code
def yX6_areStays : MethodName := ⟨RX6, "areStays", "(I)Z"⟩
abbrev cX6_valueOf : ByteArray := prog_1_method_40_code
def yX6_valueOf : MethodName := ⟨RX6, "valueOf", "(III)I"⟩
abbrev cX6_nameAll : ByteArray := prog_1_method_41_code
def yX6_nameAll : MethodName := ⟨RX6, "nameAll", "(IIIIII)V"⟩
abbrev cX6_takesOf : ByteArray := prog_1_method_42_code
def yX6_takesOf : MethodName := ⟨RX6, "takesOf", "(IIIIII)I"⟩
abbrev cX6_takesNow : ByteArray := prog_1_method_43_code
def yX6_takesNow : MethodName := ⟨RX6, "takesNow", "(III)I"⟩
abbrev cX6_keepsOf : ByteArray := prog_1_method_44_code
def yX6_keepsOf : MethodName := ⟨RX6, "keepsOf", "(II)I"⟩
abbrev cX6_sureOf : ByteArray := prog_1_method_45_code
def yX6_sureOf : MethodName := ⟨RX6, "sureOf", "(III)I"⟩
abbrev cX6_tellsExaminer : ByteArray := prog_1_method_46_code
def yX6_tellsExaminer : MethodName := ⟨RX6, "tellsExaminer", "(II)I"⟩
abbrev cX6_tellDailyTakes : ByteArray := prog_1_method_47_code
def yX6_tellDailyTakes : MethodName := ⟨RX6, "tellDailyTakes", "(I)V"⟩
abbrev cX6_takesByStays : ByteArray := prog_1_method_48_code
def yX6_takesByStays : MethodName := ⟨RX6, "takesByStays", "(III)I"⟩
abbrev cX6_findFits : ByteArray := prog_1_method_49_code
def yX6_findFits : MethodName := ⟨RX6, "findFits", "(LSandInTheShoe$Sheet;I)I"⟩
abbrev cX6_neverGoesBack : ByteArray := prog_1_method_50_code
def yX6_neverGoesBack : MethodName := ⟨RX6, "neverGoesBack", "(II)Z"⟩
abbrev cX6_digitsOfWay : ByteArray := prog_1_method_51_code
def yX6_digitsOfWay : MethodName := ⟨RX6, "digitsOfWay", "(II)I"⟩
abbrev cX6_apartAfter : ByteArray := prog_1_method_52_code
def yX6_apartAfter : MethodName := ⟨RX6, "apartAfter", "(IIII)I"⟩
abbrev cX6_goInThought : ByteArray := prog_1_method_53_code
def yX6_goInThought : MethodName := ⟨RX6, "goInThought", "(I)V"⟩
abbrev cX6_allAfterDrawn : ByteArray := prog_1_method_54_code
def yX6_allAfterDrawn : MethodName := ⟨RX6, "allAfterDrawn", "(III)I"⟩
abbrev cX6_stayInThought : ByteArray := prog_1_method_55_code
def yX6_stayInThought : MethodName := ⟨RX6, "stayInThought", "(III)V"⟩
abbrev cX6_firstOtherwise : ByteArray := prog_1_method_56_code
def yX6_firstOtherwise : MethodName := ⟨RX6, "firstOtherwise", "(LSandInTheShoe$Sheet;IIII)I"⟩
abbrev cX6_bitsThatTell : ByteArray := prog_1_method_57_code
def yX6_bitsThatTell : MethodName := ⟨RX6, "bitsThatTell", "(LSandInTheShoe$Sheet;IIII)I"⟩
abbrev cX6_daysThatTell : ByteArray := prog_1_method_58_code
def yX6_daysThatTell : MethodName := ⟨RX6, "daysThatTell", "(LSandInTheShoe$Sheet;II)I"⟩
abbrev cX6_leastDayThatTells : ByteArray := prog_1_method_59_code
def yX6_leastDayThatTells : MethodName := ⟨RX6, "leastDayThatTells", "(LSandInTheShoe$Sheet;II)I"⟩
abbrev cX6_sum : ByteArray := prog_1_method_60_code
def yX6_sum : MethodName := ⟨RX6, "sum", "([III)I"⟩
abbrev cX6_lowestTerms : ByteArray := prog_1_method_61_code
def yX6_lowestTerms : MethodName := ⟨RX6, "lowestTerms", "(III)J"⟩
abbrev cX7_in : ByteArray := prog_9_method_2_code
def yX7_in : MethodName := ⟨RX7, "in", "(JJJ)Z"⟩
abbrev cX7_within : ByteArray := prog_9_method_3_code
def yX7_within : MethodName := ⟨RX7, "within", "(III)I"⟩
abbrev cX7_init : ByteArray := prog_9_method_4_code
def yX7_init : MethodName := ⟨RX7, "<init>", "()V"⟩
abbrev cX7_spell : ByteArray := prog_9_method_5_code
def yX7_spell : MethodName := ⟨RX7, "spell", "(IIIIIIIII)V"⟩
abbrev cX7_isOne : ByteArray := prog_9_method_6_code
def yX7_isOne : MethodName := ⟨RX7, "isOne", "(I)Z"⟩
abbrev cX7_isCoast : ByteArray := prog_9_method_7_code
def yX7_isCoast : MethodName := ⟨RX7, "isCoast", "(I)Z"⟩
abbrev cX7_isMark : ByteArray := prog_9_method_8_code
def yX7_isMark : MethodName := ⟨RX7, "isMark", "(I)Z"⟩
abbrev cX7_isOf : ByteArray := prog_9_method_9_code
def yX7_isOf : MethodName := ⟨RX7, "isOf", "(II)Z"⟩
abbrev cX7_mostOf : ByteArray := prog_9_method_10_code
def yX7_mostOf : MethodName := ⟨RX7, "mostOf", "(I)I"⟩
abbrev cX7_placeOf : ByteArray := prog_9_method_11_code
def yX7_placeOf : MethodName := ⟨RX7, "placeOf", "(I)I"⟩
abbrev cX7_set : ByteArray := prog_9_method_12_code
def yX7_set : MethodName := ⟨RX7, "set", "(III)I"⟩
abbrev cX7_lays : ByteArray := prog_9_method_13_code
def yX7_lays : MethodName := ⟨RX7, "lays", "(III)V"⟩
abbrev cX7_person : ByteArray := prog_9_method_14_code
def yX7_person : MethodName := ⟨RX7, "person", "(II)I"⟩
abbrev cX7_told : ByteArray := prog_9_method_15_code
def yX7_told : MethodName := ⟨RX7, "told", "(II)I"⟩
abbrev cX7_shoeOf : ByteArray := prog_9_method_16_code
def yX7_shoeOf : MethodName := ⟨RX7, "shoeOf", "(I)I"⟩
abbrev cX7_coastOf : ByteArray := prog_9_method_17_code
def yX7_coastOf : MethodName := ⟨RX7, "coastOf", "(I)I"⟩
abbrev cX7_feed : ByteArray := prog_9_method_18_code
def yX7_feed : MethodName := ⟨RX7, "feed", "(I)I"⟩
abbrev cX7_byteAt : ByteArray := prog_9_method_19_code
def yX7_byteAt : MethodName := ⟨RX7, "byteAt", "(I)I"⟩
abbrev cX7_next : ByteArray := prog_9_method_20_code
def yX7_next : MethodName := ⟨RX7, "next", "()V"⟩
abbrev cX7_fail : ByteArray := prog_9_method_21_code
def yX7_fail : MethodName := ⟨RX7, "fail", "()V"⟩
abbrev cX7_isLetter : ByteArray := prog_9_method_22_code
def yX7_isLetter : MethodName := ⟨RX7, "isLetter", "(II)Z"⟩
abbrev cX7_isWord : ByteArray := prog_9_method_23_code
def yX7_isWord : MethodName := ⟨RX7, "isWord", "(IIIIIIII)Z"⟩
abbrev cX7_isSign : ByteArray := prog_9_method_24_code
def yX7_isSign : MethodName := ⟨RX7, "isSign", "(I)Z"⟩
abbrev cX7_opens : ByteArray := prog_9_method_25_code
def yX7_opens : MethodName := ⟨RX7, "opens", "()Z"⟩
abbrev cX7_name : ByteArray := prog_9_method_26_code
def yX7_name : MethodName := ⟨RX7, "name", "()I"⟩
abbrev cX7_atom : ByteArray := prog_9_method_27_code
def yX7_atom : MethodName := ⟨RX7, "atom", "()I"⟩
abbrev cX7_term : ByteArray := prog_9_method_28_code
def yX7_term : MethodName := ⟨RX7, "term", "()I"⟩
abbrev cX7_added : ByteArray := prog_9_method_29_code
def yX7_added : MethodName := ⟨RX7, "added", "()I"⟩
abbrev cX7_not : ByteArray := prog_9_method_30_code
def yX7_not : MethodName := ⟨RX7, "not", "()I"⟩
abbrev cX7_both : ByteArray := prog_9_method_31_code
def yX7_both : MethodName := ⟨RX7, "both", "()I"⟩
abbrev cX7_either : ByteArray := prog_9_method_32_code
def yX7_either : MethodName := ⟨RX7, "either", "()I"⟩
abbrev cX7_part : ByteArray := prog_9_method_33_code
def yX7_part : MethodName := ⟨RX7, "part", "(Z)I"⟩
abbrev cX7_read : ByteArray := prog_9_method_34_code
def yX7_read : MethodName := ⟨RX7, "read", "(II)I"⟩
abbrev cX7_text : ByteArray := prog_9_method_35_code
def yX7_text : MethodName := ⟨RX7, "text", "()I"⟩
abbrev cX7_force : ByteArray := prog_9_method_36_code
def yX7_force : MethodName := ⟨RX7, "force", "(I)I"⟩
abbrev cX7_says : ByteArray := prog_9_method_37_code
def yX7_says : MethodName := ⟨RX7, "says", "(IIIIII)I"⟩
abbrev cX7_takesOf : ByteArray := prog_9_method_38_code
def yX7_takesOf : MethodName := ⟨RX7, "takesOf", "(III)I"⟩
abbrev cX7_keepsOf : ByteArray := prog_9_method_39_code
def yX7_keepsOf : MethodName := ⟨RX7, "keepsOf", "(II)I"⟩
abbrev cX7_sureOf : ByteArray := prog_9_method_40_code
def yX7_sureOf : MethodName := ⟨RX7, "sureOf", "(III)I"⟩
abbrev cX7_asks : ByteArray := prog_9_method_41_code
def yX7_asks : MethodName := ⟨RX7, "asks", "(III)I"⟩
abbrev cX7_stays1 : ByteArray := prog_9_method_42_code
def yX7_stays1 : MethodName := ⟨RX7, "stays1", "(II)V"⟩
abbrev cX7_stay : ByteArray := prog_9_method_43_code
def yX7_stay : MethodName := ⟨RX7, "stay", "(II)I"⟩
abbrev cX7_shake : ByteArray := prog_9_method_44_code
def yX7_shake : MethodName := ⟨RX7, "shake", "(I)I"⟩
abbrev cX7_apart : ByteArray := prog_9_method_45_code
def yX7_apart : MethodName := ⟨RX7, "apart", "(II)I"⟩
abbrev cX7_tellsOf : ByteArray := prog_9_method_46_code
def yX7_tellsOf : MethodName := ⟨RX7, "tellsOf", "(II)I"⟩
abbrev cX7_areTwo : ByteArray := prog_9_method_47_code
def yX7_areTwo : MethodName := ⟨RX7, "areTwo", "(II)Z"⟩
abbrev cX7_like : ByteArray := prog_9_method_48_code
def yX7_like : MethodName := ⟨RX7, "like", "(III)I"⟩
abbrev cX7_odd : ByteArray := prog_9_method_49_code
def yX7_odd : MethodName := ⟨RX7, "odd", "(II)I"⟩
abbrev cX7_lowest : ByteArray := prog_9_method_50_code
def yX7_lowest : MethodName := ⟨RX7, "lowest", "(JJI)J"⟩
abbrev cX7_mean : ByteArray := prog_9_method_51_code
def yX7_mean : MethodName := ⟨RX7, "mean", "(III)J"⟩
abbrev cX7_tables : ByteArray := prog_9_method_52_code
def yX7_tables : MethodName := ⟨RX7, "tables", "(I)V"⟩
abbrev cX7_daysOn : ByteArray := prog_9_method_53_code
def yX7_daysOn : MethodName := ⟨RX7, "daysOn", "(II)I"⟩
abbrev cX7_packed : ByteArray := prog_9_method_54_code
def yX7_packed : MethodName := ⟨RX7, "packed", "(II)I"⟩
abbrev cX7_wayOf : ByteArray := prog_9_method_55_code
def yX7_wayOf : MethodName := ⟨RX7, "wayOf", "(I)I"⟩
abbrev cX7_digitsOf : ByteArray := prog_9_method_56_code
def yX7_digitsOf : MethodName := ⟨RX7, "digitsOf", "(I)I"⟩
abbrev cX7_stays : ByteArray := prog_9_method_57_code
def yX7_stays : MethodName := ⟨RX7, "stays", "(III)I"⟩
abbrev cX7_pack : ByteArray := prog_9_method_58_code
def yX7_pack : MethodName := ⟨RX7, "pack", "(III)I"⟩
abbrev cX7_fits : ByteArray := prog_9_method_59_code
def yX7_fits : MethodName := ⟨RX7, "fits", "(II)Z"⟩
abbrev cX7_lengthOf : ByteArray := prog_9_method_60_code
def yX7_lengthOf : MethodName := ⟨RX7, "lengthOf", "(I)I"⟩
abbrev cX7_coastsOf : ByteArray := prog_9_method_61_code
def yX7_coastsOf : MethodName := ⟨RX7, "coastsOf", "(I)I"⟩
abbrev cX7_looks : ByteArray := prog_9_method_62_code
def yX7_looks : MethodName := ⟨RX7, "looks", "(II)V"⟩
abbrev cX7_fit : ByteArray := prog_9_method_63_code
def yX7_fit : MethodName := ⟨RX7, "fit", "(III)I"⟩
abbrev cX7_share : ByteArray := prog_9_method_64_code
def yX7_share : MethodName := ⟨RX7, "share", "(IIII)J"⟩
abbrev cX7_goes : ByteArray := prog_9_method_65_code
def yX7_goes : MethodName := ⟨RX7, "goes", "(IIIII)V"⟩
abbrev cX7_go : ByteArray := prog_9_method_66_code
def yX7_go : MethodName := ⟨RX7, "go", "(IIII)I"⟩
abbrev cX7_firstOther : ByteArray := prog_9_method_67_code
def yX7_firstOther : MethodName := ⟨RX7, "firstOther", "(III)I"⟩
abbrev cX7_coastSet : ByteArray := prog_9_method_68_code
def yX7_coastSet : MethodName := ⟨RX7, "coastSet", "(II)I"⟩
abbrev cX7_tells : ByteArray := prog_9_method_69_code
def yX7_tells : MethodName := ⟨RX7, "tells", "(IIII)I"⟩
abbrev cX7_film : ByteArray := prog_9_method_70_code
def yX7_film : MethodName := ⟨RX7, "film", "(III)I"⟩
abbrev cX7_shoeDrawn : ByteArray := prog_9_method_71_code
def yX7_shoeDrawn : MethodName := ⟨RX7, "shoeDrawn", "(III)I"⟩
abbrev cX7_drawn : ByteArray := prog_9_method_72_code
def yX7_drawn : MethodName := ⟨RX7, "drawn", "(III)I"⟩
abbrev cX7_chance : ByteArray := prog_9_method_73_code
def yX7_chance : MethodName := ⟨RX7, "chance", "(IIIII)J"⟩
abbrev cX7_image : ByteArray := prog_9_method_74_code
def yX7_image : MethodName := ⟨RX7, "image", "()I"⟩
abbrev cX7_back : ByteArray := prog_9_method_75_code
def yX7_back : MethodName := ⟨RX7, "back", "()I"⟩
abbrev cX7_count : ByteArray := prog_9_method_76_code
def yX7_count : MethodName := ⟨RX7, "count", "(I)I"⟩
abbrev cX7_isSheet : ByteArray := prog_9_method_77_code
def yX7_isSheet : MethodName := ⟨RX7, "isSheet", "(I)Z"⟩
abbrev cX7_sheet : ByteArray := prog_9_method_78_code
def yX7_sheet : MethodName := ⟨RX7, "sheet", "(III)I"⟩
abbrev cX7_cell : ByteArray := prog_9_method_79_code
def yX7_cell : MethodName := ⟨RX7, "cell", "(III)I"⟩
abbrev cX7_copy : ByteArray := prog_9_method_80_code
def yX7_copy : MethodName := ⟨RX7, "copy", "(IIIII)I"⟩
abbrev cX7_people : ByteArray := prog_9_method_81_code
def yX7_people : MethodName := ⟨RX7, "people", "(IIII)I"⟩
abbrev cX7_over : ByteArray := prog_9_method_82_code
def yX7_over : MethodName := ⟨RX7, "over", "(I)I"⟩
abbrev cX7_taken : ByteArray := prog_9_method_83_code
def yX7_taken : MethodName := ⟨RX7, "taken", "(II)I"⟩
abbrev cJ9_abs_0f7a4 : ByteArray := prog_10_method_59_code
def yJ9_abs_0f7a4 : MethodName := ⟨RJ9, "abs", "(I)I"⟩
abbrev cJ9_max_7cf53 : ByteArray := prog_10_method_65_code
def yJ9_max_7cf53 : MethodName := ⟨RJ9, "max", "(II)I"⟩
abbrev cJ9_min_7cf53 : ByteArray := prog_10_method_69_code
def yJ9_min_7cf53 : MethodName := ⟨RJ9, "min", "(II)I"⟩
abbrev cJ0_length_8abf5 : ByteArray := prog_11_method_54_code
def yJ0_length_8abf5 : MethodName := ⟨RJ0, "length", "()I"⟩
abbrev cJ0_charAt_5068e : ByteArray := prog_11_method_56_code
def yJ0_charAt_5068e : MethodName := ⟨RJ0, "charAt", "(I)C"⟩
abbrev cJ0_coder_7d493 : ByteArray := prog_11_method_152_code
def yJ0_coder_7d493 : MethodName := ⟨RJ0, "coder", "()B"⟩
abbrev cJ0_isLatin1_aae02 : ByteArray := prog_11_method_154_code
def yJ0_isLatin1_aae02 : MethodName := ⟨RJ0, "isLatin1", "()Z"⟩
abbrev cJ0_checkIndex_df160 : ByteArray := prog_11_method_155_code
def yJ0_checkIndex_df160 : MethodName := ⟨RJ0, "checkIndex", "(II)V"⟩
abbrev cJ1_charAt_3b067 : ByteArray := prog_12_method_2_code
def yJ1_charAt_3b067 : MethodName := ⟨RJ1, "charAt", "([BI)C"⟩
abbrev cJ2_getChar_3b067 : ByteArray := prog_13_method_5_code
def yJ2_getChar_3b067 : MethodName := ⟨RJ2, "getChar", "([BI)C"⟩
abbrev cJ2_length_9d52b : ByteArray := prog_13_method_6_code
def yJ2_length_9d52b : MethodName := ⟨RJ2, "length", "([B)I"⟩
abbrev cJ2_charAt_3b067 : ByteArray := prog_13_method_83_code
def yJ2_charAt_3b067 : MethodName := ⟨RJ2, "charAt", "([BI)C"⟩
abbrev cJ2_checkIndex_2214a : ByteArray := prog_13_method_91_code
def yJ2_checkIndex_2214a : MethodName := ⟨RJ2, "checkIndex", "(I[B)V"⟩
abbrev cJ3_checkIndex_8e157 : ByteArray := prog_15_method_11_code
def yJ3_checkIndex_8e157 : MethodName := ⟨RJ3, "checkIndex", "(IILjava/util/function/BiFunction;)I"⟩
def yL_law : MethodName := ⟨RL, "law", "([I)Z"⟩
abbrev cL_law : ByteArray := code
abbrev vwCl : List vw_C := [(RX0, TX0, 8), (RX2, TX2, 9), (RX3, TX3, 3), (RX4, TX4, 2), (RX5, TX5, 8), (RX6, TX6, 12), (RX7, TX7, 49)]
def psX0 : List Nat := [195, 197, 199, 201, 203, 205, 207, 209]
theorem okX0 : u_ws RX0 TX0 8 = psX0.filterMap (fun i => lw_tbl[i]?) := by decide +kernel
theorem inX0 : ∀ w ∈ u_ws RX0 TX0 8, w ∈ lw_tbl := by
  intro w h
  rw [okX0] at h
  obtain ⟨i, -, hi⟩ := List.mem_filterMap.mp h
  exact List.mem_of_getElem? hi
def psX2 : List Nat := [152, 154, 156, 158, 160, 162, 164, 166, 168]
theorem okX2 : u_ws RX2 TX2 9 = psX2.filterMap (fun i => lw_tbl[i]?) := by decide +kernel
theorem inX2 : ∀ w ∈ u_ws RX2 TX2 9, w ∈ lw_tbl := by
  intro w h
  rw [okX2] at h
  obtain ⟨i, -, hi⟩ := List.mem_filterMap.mp h
  exact List.mem_of_getElem? hi
def psX3 : List Nat := [235, 237, 239]
theorem okX3 : u_ws RX3 TX3 3 = psX3.filterMap (fun i => lw_tbl[i]?) := by decide +kernel
theorem inX3 : ∀ w ∈ u_ws RX3 TX3 3, w ∈ lw_tbl := by
  intro w h
  rw [okX3] at h
  obtain ⟨i, -, hi⟩ := List.mem_filterMap.mp h
  exact List.mem_of_getElem? hi
def psX4 : List Nat := [219, 221]
theorem okX4 : u_ws RX4 TX4 2 = psX4.filterMap (fun i => lw_tbl[i]?) := by decide +kernel
theorem inX4 : ∀ w ∈ u_ws RX4 TX4 2, w ∈ lw_tbl := by
  intro w h
  rw [okX4] at h
  obtain ⟨i, -, hi⟩ := List.mem_filterMap.mp h
  exact List.mem_of_getElem? hi
def psX5 : List Nat := [116, 118, 120, 122, 124, 126, 128, 130]
theorem okX5 : u_ws RX5 TX5 8 = psX5.filterMap (fun i => lw_tbl[i]?) := by decide +kernel
theorem inX5 : ∀ w ∈ u_ws RX5 TX5 8, w ∈ lw_tbl := by
  intro w h
  rw [okX5] at h
  obtain ⟨i, -, hi⟩ := List.mem_filterMap.mp h
  exact List.mem_of_getElem? hi
def psX6 : List Nat := [388, 390, 392, 394, 396, 398, 400, 402, 404, 406, 408, 410]
theorem okX6 : u_ws RX6 TX6 12 = psX6.filterMap (fun i => lw_tbl[i]?) := by decide +kernel
theorem inX6 : ∀ w ∈ u_ws RX6 TX6 12, w ∈ lw_tbl := by
  intro w h
  rw [okX6] at h
  obtain ⟨i, -, hi⟩ := List.mem_filterMap.mp h
  exact List.mem_of_getElem? hi
def psX7 : List Nat := [827, 829, 831, 833, 835, 837, 839, 841, 843, 845, 847, 849, 851, 853, 855, 857, 859, 861, 863, 865, 867, 869, 871, 873, 875, 877, 879, 881, 883, 885, 887, 889, 891, 893, 895, 897, 899, 901, 903, 905, 907, 909, 911, 913, 915, 917, 919, 921, 923]
theorem okX7 : u_ws RX7 TX7 49 = psX7.filterMap (fun i => lw_tbl[i]?) := by decide +kernel
theorem inX7 : ∀ w ∈ u_ws RX7 TX7 49, w ∈ lw_tbl := by
  intro w h
  rw [okX7] at h
  obtain ⟨i, -, hi⟩ := List.mem_filterMap.mp h
  exact List.mem_of_getElem? hi
end
section
/-! a small machine: values, memory, shapes -/
abbrev AV : Type := Int32 ⊕ (Int64 ⊕ (Nat × Nat))
def vI (x : Int32) : AV := .inl x
def vL (x : Int64) : AV := .inr (.inl x)
def vR (k i : Nat) : AV := .inr (.inr (k, i))
def vX : AV := vR 0 0
abbrev MM : Type := Nat → Nat → Nat → Int32
abbrev AL : Type := Bool × Bool × List (Nat × Nat × Nat) × Nat × Nat
abbrev Mem : Type := MM × Int64 × AL
abbrev Res : Type := Option AV × Mem
abbrev En : Type := Instr × List Nat × Int32 × Int64 × List (Int32 × Nat)
abbrev Hd : Type := List (Nat × En) × Nat × Bool × Nat
abbrev Cal : Type := Nat → List AV → Mem → Option Res
abbrev Kon : Type := Nat → List AV → List AV → Mem → Option Res
/-- a kind's class (1 .. 7), 0: no object -/
def nKc (k : Nat) : Nat := match k with
  | 2 => 6 | 3 => 5 | 9 => 2 | 14 => 4 | 18 => 3 | 20 => 1 | 30 => 7 | _ => 0
/-- a kind's length, where it is an array -/
def nAl (k : Nat) : Nat := match k with
  | 4 => 36 | 5 => 30 | 6 => 5 | 7 => 5 | 8 => 5 | 10 => 160 | 11 => 160 | 12 => 4 | 13 => 6 | 15 => 160 | 16 => 4 | 17 => 4 | 19 => 40
  | 21 => 6 | 22 => 6 | 23 => 6 | 24 => 6 | 25 => 160 | 26 => 36 | 27 => 6
  | 31 => 960 | 32 => 6 | 33 => 160 | 34 => 36 | 35 => 5 | 36 => 10 | 37 => 30 | 38 => 6 | 39 => 36 | 40 => 6 | 41 => 6 | 42 => 36 | 43 => 10 | 44 => 30 | 45 => 4 | 46 => 4 | 47 => 4 | 48 => 160
  | 60 => 6 | _ => 0
/-- 1: ints, 2: booleans, 3: references; 0: no array -/
def nAk (k : Nat) : Nat := match k with
  | 4 => 1 | 5 => 1 | 6 => 1 | 7 => 1 | 8 => 1 | 10 => 1 | 11 => 1 | 12 => 1 | 13 => 3 | 15 => 1 | 16 => 1 | 17 => 3 | 19 => 1
  | 21 => 1 | 22 => 1 | 23 => 1 | 24 => 1 | 25 => 1 | 26 => 1 | 27 => 1
  | 31 => 1 | 32 => 1 | 33 => 1 | 34 => 1 | 35 => 1 | 36 => 1 | 37 => 1 | 38 => 1 | 39 => 1 | 40 => 1 | 41 => 1 | 42 => 1 | 43 => 1 | 44 => 1 | 45 => 2 | 46 => 1 | 47 => 1 | 48 => 1
  | 60 => 1 | _ => 0
/-- where a reference at place j of a kind leads -/
def nTgM (j : Nat) : Nat := match j with
  | 1 => 31 | 2 => 32 | 5 => 33 | 8 => 34 | 9 => 35 | 10 => 36 | 11 => 37 | 28 => 38 | 29 => 39 | 35 => 40 | 38 => 41 | 39 => 42 | 40 => 43 | 41 => 44 | 45 => 45 | 46 => 46 | 47 => 47 | 48 => 48 | _ => 0
def nTgO (j : Nat) : Nat × Nat := match j with
  | 0 => (3, 0) | 1 => (3, 1) | 3 => (9, 0) | 4 => (13, 0) | 6 => (17, 0) | 7 => (20, 0) | 8 => (24, 0) | 9 => (25, 0) | 10 => (26, 0) | 11 => (27, 0) | _ => (0, 0)
def nTgR (j : Nat) : Nat := match j with
  | 0 => 10 | 2 => 11 | 3 => 12 | _ => 0
def nTg (k i j : Nat) : Nat × Nat := match k with
  | 2 => nTgO j | 3 => (j + 1, i) | 9 => (nTgR j, 0) | 13 => (14, j) | 14 => (15 + j, i) | 17 => (18, j) | 18 => (19, i) | 20 => (16 + j, 0) | 30 => (nTgM j, 0) | _ => (0, 0)
/-- field types: 0 int, 1 boolean, 2 long, 3 reference -/
def nFt (c j : Nat) : Nat := match c with
  | 1 => (match j with | 5 => 3 | 6 => 3 | 7 => 3 | _ => 0)
  | 2 => (match j with | 0 => 3 | 2 => 3 | 3 => 3 | _ => 0)
  | 3 => (match j with | 2 => 3 | _ => 0)
  | 4 => 3
  | 5 => (match j with | 0 => 0 | 1 => 0 | 2 => 0 | _ => 3)
  | 6 => (match j with | 2 => 1 | 5 => 0 | _ => 3)
  | _ => (match j with | 24 => 2 | 26 => 1 | 1 => 3 | 2 => 3 | 5 => 3 | 8 => 3 | 9 => 3 | 10 => 3 | 11 => 3 | 28 => 3 | 29 => 3 | 35 => 3 | 38 => 3 | 39 => 3 | 40 => 3 | 41 => 3 | 45 => 3 | 46 => 3 | 47 => 3 | 48 => 3 | _ => 0)
/-- how many fields -/
def nNf (c : Nat) : Nat := match c with
  | 1 => 8 | 2 => 9 | 3 => 3 | 4 => 2 | 5 => 8 | 6 => 12 | 7 => 49 | _ => 0
/-- cells by the order in which they are made -/
def nIdL : List (Nat × Nat) := [(2, 0), (3, 0), (4, 0), (5, 0), (6, 0), (7, 0), (8, 0), (3, 1), (4, 1), (5, 1), (6, 1), (7, 1), (8, 1), (9, 0), (10, 0), (11, 0), (12, 0), (13, 0), (17, 0), (20, 0), (21, 0), (22, 0), (23, 0), (24, 0), (25, 0), (26, 0), (27, 0),
  (14, 0), (15, 0), (16, 0), (14, 1), (15, 1), (16, 1), (14, 2), (15, 2), (16, 2), (14, 3), (15, 3), (16, 3), (14, 4), (15, 4), (16, 4), (14, 5), (15, 5), (16, 5), (18, 0), (19, 0), (18, 1), (19, 1), (18, 2), (19, 2), (18, 3), (19, 3),
  (30, 0), (31, 0), (32, 0), (33, 0), (34, 0), (35, 0), (36, 0), (37, 0), (38, 0), (39, 0), (40, 0), (41, 0), (42, 0), (43, 0), (44, 0), (45, 0), (46, 0), (47, 0), (48, 0)]
def nIdAt (n : Nat) : Nat × Nat := if n < 72 then nIdL.getD n (0, 0) else (60, n - 72)
def nOb (k : Nat) : Nat := match k with
  | 2 => 0 | 3 => 1 | 4 => 2 | 5 => 3 | 6 => 4 | 7 => 5 | 8 => 6 | 9 => 13 | 10 => 14 | 11 => 15 | 12 => 16 | 13 => 17 | 17 => 18 | 20 => 19 | 21 => 20 | 22 => 21 | 23 => 22 | 24 => 23 | 25 => 24 | 26 => 25 | 27 => 26 | 14 => 27 | 15 => 28 | 16 => 29 | 18 => 45 | 19 => 46
  | 30 => 53 | 31 => 54 | 32 => 55 | 33 => 56 | 34 => 57 | 35 => 58 | 36 => 59 | 37 => 60 | 38 => 61 | 39 => 62 | 40 => 63 | 41 => 64 | 42 => 65 | 43 => 66 | 44 => 67 | 45 => 68 | 46 => 69 | 47 => 70 | 48 => 71 | 60 => 72 | _ => 0
def nOs (k : Nat) : Nat := match k with
  | 3 => 6 | 4 => 6 | 5 => 6 | 6 => 6 | 7 => 6 | 8 => 6 | 14 => 3 | 15 => 3 | 16 => 3 | 18 => 2 | 19 => 2 | 60 => 1 | _ => 0
def nKn (k : Nat) : Nat := match k with
  | 2 => 1 | 3 => 2 | 4 => 2 | 5 => 2 | 6 => 2 | 7 => 2 | 8 => 2 | 9 => 1 | 10 => 1 | 11 => 1 | 12 => 1 | 13 => 1 | 17 => 1 | 20 => 1 | 21 => 1 | 22 => 1 | 23 => 1 | 24 => 1 | 25 => 1 | 26 => 1 | 27 => 1 | 14 => 6 | 15 => 6 | 16 => 6 | 18 => 4 | 19 => 4
  | 30 => 1 | 31 => 1 | 32 => 1 | 33 => 1 | 34 => 1 | 35 => 1 | 36 => 1 | 37 => 1 | 38 => 1 | 39 => 1 | 40 => 1 | 41 => 1 | 42 => 1 | 43 => 1 | 44 => 1 | 45 => 1 | 46 => 1 | 47 => 1 | 48 => 1 | _ => 0
def nOff (k i : Nat) : Nat := nOb k + nOs k * i
def nOkId (k i : Nat) : Bool := if k = 60 then true else decide (i < nKn k)
/-- is the reference at place j of (k, i) set -/
def nRok (A : AL) (k i j : Nat) : Bool := (if k < 30 then A.1 else A.2.1) || A.2.2.1.contains (k, i, j)
/-- all references of the one's cells, of the other's -/
def nAllC : List (Nat × Nat × Nat) := [(17, 0, 3), (2, 0, 0), (2, 0, 1), (2, 0, 3), (2, 0, 4), (2, 0, 6), (2, 0, 7), (2, 0, 8), (2, 0, 9), (2, 0, 10), (2, 0, 11), (3, 0, 3), (3, 0, 4), (3, 0, 5), (3, 0, 6), (3, 0, 7), (3, 1, 3), (3, 1, 4), (3, 1, 5), (3, 1, 6), (3, 1, 7), (9, 0, 0), (9, 0, 2), (9, 0, 3), (20, 0, 5), (20, 0, 6), (20, 0, 7),
  (13, 0, 0), (13, 0, 1), (13, 0, 2), (13, 0, 3), (13, 0, 4), (13, 0, 5), (14, 0, 0), (14, 0, 1), (14, 1, 0), (14, 1, 1), (14, 2, 0), (14, 2, 1), (14, 3, 0), (14, 3, 1), (14, 4, 0), (14, 4, 1), (14, 5, 0), (14, 5, 1), (17, 0, 0), (17, 0, 1), (17, 0, 2), (18, 0, 2), (18, 1, 2), (18, 2, 2), (18, 3, 2)]
def nAllM : List (Nat × Nat × Nat) := [(30, 0, 48), (30, 0, 1), (30, 0, 2), (30, 0, 5), (30, 0, 8), (30, 0, 9), (30, 0, 10), (30, 0, 11), (30, 0, 28), (30, 0, 29), (30, 0, 35), (30, 0, 38), (30, 0, 39), (30, 0, 40), (30, 0, 41), (30, 0, 45), (30, 0, 46), (30, 0, 47)]
/-- one more is set; once all are, that is noted and the list is empty -/
def nRset (A : AL) (k i j : Nat) : AL :=
  let l := (k, i, j) :: A.2.2.1
  cond (nAllC.all l.contains) (true, A.2.1, l.filter (fun q => Nat.ble 30 q.1), A.2.2.2) (cond (nAllM.all l.contains) (A.1, true, l.filter (fun q => Nat.blt q.1 30), A.2.2.2) (A.1, A.2.1, l, A.2.2.2))
def nSt (M : MM) (k i j : Nat) (v : Int32) : MM := fun a b c => if a = k ∧ b = i ∧ c = j then v else M a b c
def nZ (M : MM) (k i : Nat) : MM := fun a b c => if a = k ∧ b = i then 0 else M a b c
def nIn (x : Int32) (n : Nat) : Bool := decide (¬ (x < 0 ∨ n ≤ x.toNatClampNeg))
def nIsL : AV → Bool
  | .inr (.inl _) => true
  | _ => false
def nCat (v : AV) : Nat := cond (nIsL v) 2 1
def nGt : List AV → Nat → AV
  | [], _ => vX
  | a :: _, 0 => a
  | _ :: l, n + 1 => nGt l n
def nPt : List AV → Nat → AV → List AV
  | [], _, _ => []
  | _ :: l, 0, v => v :: l
  | a :: l, n + 1, v => a :: nPt l n v
def nLbf (ls : List AV) (i : Nat) : Bool := match i with
  | 0 => false
  | n + 1 => nIsL (nGt ls n)
def nCsum : List AV → Nat
  | [] => 0
  | v :: l => nCat v + nCsum l
def nIsb (x : Int32) : Bool := x == 0 || x == 1
def nBnd (r : Option Res) (K : Option AV → Mem → Option Res) : Option Res := match r with
  | some (v, s) => K v s
  | none => none
def nSw (K : Nat → Option Res) (dflt : Nat) (x : Int32) : List (Int32 × Nat) → Option Res
  | [] => K dflt
  | (v, t) :: r => if x = v then K t else nSw K dflt x r
/-- lengths and letters of the text constants -/
def nStrL : List (List Nat) := [[116, 97, 107, 101, 115, 32, 103, 114, 97, 105, 110, 115, 32, 59, 32, 107, 101, 101, 112, 115, 32, 53, 48, 32, 59, 32, 115, 117, 114, 101, 32, 103, 114, 97, 105, 110, 115, 32, 59], [103, 114, 97, 105, 110, 115], [109, 97, 114, 107], [110, 117, 109, 98, 101, 114], [100, 97, 121], [99, 111, 97, 115, 116], [115, 104, 111, 101], [116, 97, 107, 101, 115], [107, 101, 101, 112, 115], [115, 117, 114, 101], [111, 114], [97, 110, 100], [110, 111, 116]]
def nSlen (i : Nat) : Nat := (nStrL.getD i []).length
def nSch (i j : Nat) : Int32 := Int32.ofNat ((nStrL.getD i []).getD j 0)
def nCpy (M : MM) (k i sp k2 i2 dp n : Nat) : MM := fun a b c => if a = k2 ∧ b = i2 ∧ dp ≤ c ∧ c < dp + n then M k i (sp + (c - dp)) else M a b c
def nAx (l : List Nat) (i : Nat) : Nat := l.getD i 0
def nLcmp (x y : Int64) : Int32 := lg_cmp x y
/-- locals at a method's start -/
def nLay : List AV → List AV
  | [] => []
  | v :: l => cond (nIsL v) (v :: vX :: nLay l) (v :: nLay l)
def nPad : Nat → List AV → List AV
  | 0, _ => []
  | n + 1, [] => vX :: nPad n []
  | n + 1, a :: l => a :: nPad n l
section
variable (X : Nat × (Nat → Int32)) (cal : Cal)
def pLoad (K : Kon) (pc len : Nat) (ls st : List AV) (s : Mem) (want : Nat) (i : Nat) : Option Res := match nGt ls i with
  | .inl x => if want = 0 then K (pc + len) ls (vI x :: st) s else none
  | .inr (.inl x) => if want = 1 then K (pc + len) ls (vL x :: st) s else none
  | .inr (.inr (k, j)) => if want = 2 ∧ k ≠ 0 then K (pc + len) ls (vR k j :: st) s else none
def pStore (K : Kon) (pc len : Nat) (ls st : List AV) (s : Mem) (want : Nat) (i : Nat) : Option Res := match st with
  | .inl x :: r => if want = 0 then cond (Nat.blt i ls.length) (cond (nLbf ls i) none (K (pc + len) (nPt ls i (vI x)) r s)) none else none
  | .inr (.inl x) :: r => if want = 1 then cond (Nat.blt (i + 1) ls.length) (cond (nLbf ls i) none (K (pc + len) (nPt (nPt ls i (vL x)) (i + 1) vX) r s)) none else none
  | .inr (.inr (k, j)) :: r => if want = 2 ∧ k ≠ 0 then cond (Nat.blt i ls.length) (cond (nLbf ls i) none (K (pc + len) (nPt ls i (vR k j)) r s)) none else none
  | [] => none
def pI1 (K : Kon) (pc : Nat) (ls st : List AV) (s : Mem) (f : Int32 → AV) : Option Res := match st with
  | .inl x :: r => K (pc + 1) ls (f x :: r) s
  | _ => none
def pI2 (K : Kon) (pc : Nat) (ls st : List AV) (s : Mem) (f : Int32 → Int32 → Int32) : Option Res := match st with
  | .inl y :: .inl x :: r => K (pc + 1) ls (vI (f x y) :: r) s
  | _ => none
def pD2 (K : Kon) (pc : Nat) (ls st : List AV) (s : Mem) (f : Int32 → Int32 → Int32) : Option Res := match st with
  | .inl y :: .inl x :: r => if y = 0 then none else K (pc + 1) ls (vI (f x y) :: r) s
  | _ => none
def pL2 (K : Kon) (pc : Nat) (ls st : List AV) (s : Mem) (f : Int64 → Int64 → AV) : Option Res := match st with
  | .inr (.inl y) :: .inr (.inl x) :: r => K (pc + 1) ls (f x y :: r) s
  | _ => none
def pLD (K : Kon) (pc : Nat) (ls st : List AV) (s : Mem) (f : Int64 → Int64 → Int64) : Option Res := match st with
  | .inr (.inl y) :: .inr (.inl x) :: r => if y = 0 then none else K (pc + 1) ls (vL (f x y) :: r) s
  | _ => none
def pIf (K : Kon) (pc tgt : Nat) (ls st : List AV) (s : Mem) (c : ClassFile.Cond) : Option Res := match st with
  | .inl x :: r => (match c with
    | .eq => if x = 0 then K tgt ls r s else K (pc + 3) ls r s
    | .ne => if x = 0 then K (pc + 3) ls r s else K tgt ls r s
    | .lt => if x < 0 then K tgt ls r s else K (pc + 3) ls r s
    | .ge => if 0 ≤ x then K tgt ls r s else K (pc + 3) ls r s
    | .gt => if 0 < x then K tgt ls r s else K (pc + 3) ls r s
    | .le => if x ≤ 0 then K tgt ls r s else K (pc + 3) ls r s)
  | _ => none
def pCmp (K : Kon) (pc tgt : Nat) (ls st : List AV) (s : Mem) (c : ClassFile.Cond) : Option Res := match st with
  | .inl y :: .inl x :: r => (match c with
    | .eq => if x = y then K tgt ls r s else K (pc + 3) ls r s
    | .ne => if x = y then K (pc + 3) ls r s else K tgt ls r s
    | .lt => if x < y then K tgt ls r s else K (pc + 3) ls r s
    | .ge => if y ≤ x then K tgt ls r s else K (pc + 3) ls r s
    | .gt => if y < x then K tgt ls r s else K (pc + 3) ls r s
    | .le => if x ≤ y then K tgt ls r s else K (pc + 3) ls r s)
  | _ => none
def pGet (K : Kon) (pc : Nat) (ls st : List AV) (s : Mem) (c j : Nat) : Option Res := match st with
  | .inr (.inr (k, i)) :: r => cond (nKc k == c && Nat.blt j (nNf c)) (match nFt c j with
    | 2 => K (pc + 3) ls (vL s.2.1 :: r) s
    | 3 => cond (nRok s.2.2 k i j) (K (pc + 3) ls (vR (nTg k i j).1 (nTg k i j).2 :: r) s) none
    | _ => K (pc + 3) ls (vI (s.1 k i j) :: r) s) none
  | _ => none
def pPut (own : Nat) (ini : Bool) (K : Kon) (pc : Nat) (ls st : List AV) (s : Mem) (c j : Nat) : Option Res := match st with
  | .inl x :: .inr (.inr (k, i)) :: r => cond (nKc k == c && Nat.blt j (nNf c)) (match nFt c j with
    | 0 => K (pc + 3) ls r (nSt s.1 k i j x, s.2)
    | 1 => cond (nIsb x) (K (pc + 3) ls r (nSt s.1 k i j x, s.2)) none
    | _ => none) none
  | .inr (.inl x) :: .inr (.inr (k, i)) :: r => cond (nKc k == c && Nat.blt j (nNf c)) (match nFt c j with
    | 2 => K (pc + 3) ls r (s.1, x, s.2.2)
    | _ => none) none
  | .inr (.inr (k2, i2)) :: .inr (.inr (k, i)) :: r => cond (nKc k == c && Nat.blt j (nNf c)) (match nFt c j with
    | 3 => cond (k2 == (nTg k i j).1 && (i2 == (nTg k i j).2 && (ini && own == c))) (K (pc + 3) ls r (s.1, s.2.1, nRset s.2.2 k i j)) none
    | _ => none) none
  | _ => none
def pIald (K : Kon) (pc : Nat) (ls st : List AV) (s : Mem) : Option Res := match st with
  | .inl x :: .inr (.inr (k, i)) :: r =>
    if k = 70 then cond (nIn x X.1) (K (pc + 1) ls (vI (X.2 x.toNatClampNeg) :: r) s) none
    else cond (nAk k == 1) (cond (nIn x (nAl k)) (K (pc + 1) ls (vI (s.1 k i x.toNatClampNeg) :: r) s) none) none
  | _ => none
def pIast (K : Kon) (pc : Nat) (ls st : List AV) (s : Mem) : Option Res := match st with
  | .inl v :: .inl x :: .inr (.inr (k, i)) :: r => cond (nAk k == 1) (cond (nIn x (nAl k)) (K (pc + 1) ls r (nSt s.1 k i x.toNatClampNeg v, s.2)) none) none
  | _ => none
def pZald (K : Kon) (pc : Nat) (ls st : List AV) (s : Mem) : Option Res := match st with
  | .inl x :: .inr (.inr (k, i)) :: r => cond (nAk k == 2) (cond (nIn x (nAl k)) (K (pc + 1) ls (vI (s.1 k i x.toNatClampNeg) :: r) s) none) none
  | _ => none
def pZast (K : Kon) (pc : Nat) (ls st : List AV) (s : Mem) : Option Res := match st with
  | .inl v :: .inl x :: .inr (.inr (k, i)) :: r => cond (nAk k == 2 && nIsb v) (cond (nIn x (nAl k)) (K (pc + 1) ls r (nSt s.1 k i x.toNatClampNeg v, s.2)) none) none
  | _ => none
def pAald (K : Kon) (pc : Nat) (ls st : List AV) (s : Mem) : Option Res := match st with
  | .inl x :: .inr (.inr (k, i)) :: r => cond (nAk k == 3) (cond (nIn x (nAl k)) (cond (nRok s.2.2 k i x.toNatClampNeg) (K (pc + 1) ls (vR (nTg k i x.toNatClampNeg).1 (nTg k i x.toNatClampNeg).2 :: r) s) none) none) none
  | _ => none
def pAast (K : Kon) (pc : Nat) (ls st : List AV) (s : Mem) : Option Res := match st with
  | .inr (.inr (k2, i2)) :: .inl x :: .inr (.inr (k, i)) :: r => cond (nAk k == 3) (cond (nIn x (nAl k)) (cond (k2 == (nTg k i x.toNatClampNeg).1 && i2 == (nTg k i x.toNatClampNeg).2) (K (pc + 1) ls r (s.1, s.2.1, nRset s.2.2 k i x.toNatClampNeg)) none) none) none
  | _ => none
def pLen (K : Kon) (pc : Nat) (ls st : List AV) (s : Mem) : Option Res := match st with
  | .inr (.inr (k, i)) :: r => if k = 70 then K (pc + 1) ls (vI (Int32.ofNat X.1) :: r) s else cond (nAk k == 0) none (K (pc + 1) ls (vI (Int32.ofNat (nAl k)) :: r) s)
  | _ => none
/-- a new cell of kind k, at place i: k's class or array is as asked -/
def nMk (s : Mem) (n : Nat) : Mem := (nZ s.1 (nIdAt s.2.2.2.2.2.1).1 (nIdAt s.2.2.2.2.2.1).2, cond ((nIdAt s.2.2.2.2.2.1).1 == 30) 0 s.2.1, s.2.2.1, s.2.2.2.1, s.2.2.2.2.1, s.2.2.2.2.2.1 + 1, s.2.2.2.2.2.2 + n)
def pNew (K : Kon) (pc : Nat) (ls st : List AV) (s : Mem) (c : Nat) : Option Res :=
  cond (nKc (nIdAt s.2.2.2.2.2.1).1 == c && Nat.blt 0 c) (K (pc + 3) ls (vR (nIdAt s.2.2.2.2.2.1).1 (nIdAt s.2.2.2.2.2.1).2 :: st) (nMk s (nNf c))) none
def pNewa (K : Kon) (pc len : Nat) (ls st : List AV) (s : Mem) (w : Nat) : Option Res := match st with
  | .inl x :: r => cond (nAk (nIdAt s.2.2.2.2.2.1).1 == w && x == Int32.ofNat (nAl (nIdAt s.2.2.2.2.2.1).1)) (K (pc + len) ls (vR (nIdAt s.2.2.2.2.2.1).1 (nIdAt s.2.2.2.2.2.1).2 :: r) (nMk s (nAl (nIdAt s.2.2.2.2.2.1).1))) none
  | _ => none
/-- rows of a class's objects: their kind -/
def nAnk (c : Nat) : Nat := match c with
  | 4 => 13 | 3 => 17 | _ => 0
/-- own methods: y's number, how many arguments, y's class (0: static) -/
def pCall (K : Kon) (pc : Nat) (ls st : List AV) (s : Mem) (y n c : Nat) : Option Res :=
  cond (Nat.ble (nCsum (st.drop n)) 8) (match c with
    | 0 => cond (Nat.ble n st.length) (nBnd (cal y (st.take n).reverse s) (fun v s2 => K (pc + 3) ls (v.toList ++ st.drop n) s2)) none
    | _ => (match st.drop n with
      | .inr (.inr (k, i)) :: r => cond (nKc k == c) (nBnd (cal y (vR k i :: (st.take n).reverse) s) (fun v s2 => K (pc + 3) ls (v.toList ++ r) s2)) none
      | _ => none)) none
/-- the host's: 1 min, 2 max, 3 abs, 4 arraycopy, 5 Object(), 6 length, 7 charAt -/
def pHost (K : Kon) (pc : Nat) (ls st : List AV) (s : Mem) (h : Nat) : Option Res :=
  cond (Nat.ble (nCsum st) 9) (match h with
  | 1 => (match st with
    | .inl y :: .inl x :: r => K (pc + 3) ls (vI (if y < x then y else x) :: r) s
    | _ => none)
  | 2 => (match st with
    | .inl y :: .inl x :: r => K (pc + 3) ls (vI (if x < y then y else x) :: r) s
    | _ => none)
  | 3 => (match st with
    | .inl x :: r => K (pc + 3) ls (vI (if 0 ≤ x then x else 0 - x) :: r) s
    | _ => none)
  | 4 => (match st with
    | .inl n :: .inl dp :: .inr (.inr (k2, i2)) :: .inl sp :: .inr (.inr (k, i)) :: r =>
      cond (nAk k == 1 && nAk k2 == 1) (cond (decide (¬ sp < 0 ∧ ¬ dp < 0 ∧ ¬ n < 0 ∧ sp.toNatClampNeg + n.toNatClampNeg ≤ nAl k ∧ dp.toNatClampNeg + n.toNatClampNeg ≤ nAl k2))
        (K (pc + 3) ls r (nCpy s.1 k i sp.toNatClampNeg k2 i2 dp.toNatClampNeg n.toNatClampNeg, s.2)) none) none
    | _ => none)
  | 5 => (match st with
    | .inr (.inr (k, _)) :: r => if k = 0 then none else K (pc + 3) ls r s
    | _ => none)
  | 6 => (match st with
    | .inr (.inr (1, i)) :: r => cond (Nat.blt i 13) (K (pc + 3) ls (vI (Int32.ofNat (nSlen i)) :: r) s) none
    | _ => none)
  | 7 => (match st with
    | .inl x :: .inr (.inr (1, i)) :: r => cond (Nat.blt i 13 && nIn x (nSlen i)) (K (pc + 3) ls (vI (nSch i x.toNatClampNeg) :: r) s) none
    | _ => none)
  | _ => none) none
def pRet (rt want : Nat) (st : List AV) (s : Mem) : Option Res := match st with
  | [] => cond (rt == 0 && want == 0) (some (none, s)) none
  | [.inl x] => cond (want == 1) (match rt with
    | 1 => some (some (vI x), s)
    | 2 => cond (nIsb x) (some (some (vI x), s)) none
    | _ => none) none
  | [.inr (.inl x)] => cond (rt == 3 && want == 2) (some (some (vL x), s)) none
  | [.inr (.inr (k, i))] => cond (rt == 4 && (want == 3 && Nat.blt 0 k)) (some (some (vR k i), s)) none
  | _ => none
def nStepI (own : Nat) (ini : Bool) (rt : Nat) (e : En) (pc : Nat) (ls st : List AV) (s : Mem) (K : Kon) : Option Res := match e with
  | (ins, a, c, cL, sw) => match ins with
    | .iconst _ => K (pc + 1) ls (vI c :: st) s
    | .bipush _ => K (pc + 2) ls (vI c :: st) s
    | .sipush _ => K (pc + 3) ls (vI c :: st) s
    | .ldc _ => (match nAx a 0 with
      | 1 => K (pc + 2) ls (vI c :: st) s
      | _ => K (pc + 2) ls (vR 1 (nAx a 1) :: st) s)
    | .ldc_w _ => K (pc + 3) ls (vI c :: st) s
    | .lconst _ => K (pc + 1) ls (vL cL :: st) s
    | .ldc2_w _ => K (pc + 3) ls (vL cL :: st) s
    | .iload_n _ => pLoad K pc 1 ls st s 0 (nAx a 0)
    | .iload _ => pLoad K pc 2 ls st s 0 (nAx a 0)
    | .lload_n _ => pLoad K pc 1 ls st s 1 (nAx a 0)
    | .lload _ => pLoad K pc 2 ls st s 1 (nAx a 0)
    | .aload_n _ => pLoad K pc 1 ls st s 2 (nAx a 0)
    | .aload _ => pLoad K pc 2 ls st s 2 (nAx a 0)
    | .istore_n _ => pStore K pc 1 ls st s 0 (nAx a 0)
    | .istore _ => pStore K pc 2 ls st s 0 (nAx a 0)
    | .lstore _ => pStore K pc 2 ls st s 1 (nAx a 0)
    | .astore_n _ => pStore K pc 1 ls st s 2 (nAx a 0)
    | .astore _ => pStore K pc 2 ls st s 2 (nAx a 0)
    | .iinc _ _ => (match nGt ls (nAx a 0) with
      | .inl x => cond (Nat.blt (nAx a 0) ls.length) (cond (nLbf ls (nAx a 0)) none (K (pc + 3) (nPt ls (nAx a 0) (vI (x + c))) st s)) none
      | _ => none)
    | .iadd => pI2 K pc ls st s (fun x y => x + y)
    | .isub => pI2 K pc ls st s (fun x y => x - y)
    | .imul => pI2 K pc ls st s (fun x y => x * y)
    | .iand => pI2 K pc ls st s (fun x y => x &&& y)
    | .ior => pI2 K pc ls st s (fun x y => x ||| y)
    | .ishl => pI2 K pc ls st s (fun x y => x <<< (y &&& 31))
    | .ishr => pI2 K pc ls st s (fun x y => x >>> (y &&& 31))
    | .iushr => pI2 K pc ls st s (fun x y => (x.toUInt32 >>> (y.toUInt32 &&& Int32.toUInt32 31)).toInt32)
    | .idiv => pD2 K pc ls st s (fun x y => x / y)
    | .irem => pD2 K pc ls st s (fun x y => x - x / y * y)
    | .ineg => pI1 K pc ls st s (fun x => vI (-x))
    | .i2l => pI1 K pc ls st s (fun x => vL x.toInt64)
    | .i2b => pI1 K pc ls st s (fun x => vI x.toInt8.toInt32)
    | .i2s => pI1 K pc ls st s (fun x => vI x.toInt16.toInt32)
    | .l2i => (match st with
      | .inr (.inl x) :: r => K (pc + 1) ls (vI x.toInt32 :: r) s
      | _ => none)
    | .ladd => pL2 K pc ls st s (fun x y => vL (x + y))
    | .lsub => pL2 K pc ls st s (fun x y => vL (x - y))
    | .lmul => pL2 K pc ls st s (fun x y => vL (x * y))
    | .lcmp => pL2 K pc ls st s (fun x y => vI (nLcmp x y))
    | .ldiv => pLD K pc ls st s (fun x y => x / y)
    | .lrem => pLD K pc ls st s (fun x y => x - x / y * y)
    | .dup => (match st with
      | v :: r => cond (nIsL v) none (K (pc + 1) ls (v :: v :: r) s)
      | _ => none)
    | .dup2 => (match st with
      | v :: w :: r => cond (nIsL v || nIsL w) none (K (pc + 1) ls (v :: w :: v :: w :: r) s)
      | _ => none)
    | .pop => (match st with
      | v :: r => cond (nIsL v) none (K (pc + 1) ls r s)
      | _ => none)
    | .goto _ => K (nAx a 0) ls st s
    | .ifCond q _ => pIf K pc (nAx a 0) ls st s q
    | .if_icmp q _ => pCmp K pc (nAx a 0) ls st s q
    | .tableswitch _ _ _ _ => (match st with
      | .inl x :: r => nSw (fun t => K t ls r s) (nAx a 0) x sw
      | _ => none)
    | .lookupswitch _ _ => (match st with
      | .inl x :: r => nSw (fun t => K t ls r s) (nAx a 0) x sw
      | _ => none)
    | .getfield _ => pGet K pc ls st s (nAx a 0) (nAx a 1)
    | .putfield _ => pPut own ini K pc ls st s (nAx a 0) (nAx a 1)
    | .iaload => pIald X K pc ls st s
    | .iastore => pIast K pc ls st s
    | .baload => pZald K pc ls st s
    | .bastore => pZast K pc ls st s
    | .aaload => pAald K pc ls st s
    | .aastore => pAast K pc ls st s
    | .arraylength => pLen X K pc ls st s
    | .new _ => pNew K pc ls st s (nAx a 0)
    | .newarray _ => pNewa K pc 2 ls st s (nAx a 0)
    | .anewarray _ => cond (nAnk (nAx a 0) == (nIdAt s.2.2.2.2.2.1).1) (pNewa K pc 3 ls st s 3) none
    | .invokevirtual _ => (match nAx a 0 with
      | 0 => pCall cal K pc ls st s (nAx a 1) (nAx a 2) (nAx a 3)
      | _ => pHost K pc ls st s (nAx a 1))
    | .invokespecial _ => (match nAx a 0 with
      | 0 => pCall cal K pc ls st s (nAx a 1) (nAx a 2) (nAx a 3)
      | _ => pHost K pc ls st s (nAx a 1))
    | .invokestatic _ => (match nAx a 0 with
      | 0 => pCall cal K pc ls st s (nAx a 1) (nAx a 2) 0
      | _ => pHost K pc ls st s (nAx a 1))
    | .ireturn => pRet rt 1 st s
    | .lreturn => pRet rt 2 st s
    | .areturn => pRet rt 3 st s
    | .return_ => pRet rt 0 st s
    | _ => none
def nLk : List (Nat × En) → Nat → Option En
  | [], _ => none
  | (p, e) :: t, pc => cond (Nat.beq p pc) (some e) (nLk t pc)
def nStep (h : Hd) (pc : Nat) (ls st : List AV) (s : Mem) (K : Kon) : Option Res := match nLk h.1 pc with
  | some e => nStepI X cal h.2.1 h.2.2.1 h.2.2.2 e pc ls st s K
  | none => none
def nRun (h : Hd) : Nat → Kon
  | 0 => fun _ _ _ _ => none
  | n + 1 => fun pc ls st s => nStep X cal h pc ls st s (nRun h n)
def nIter (h : Hd) (K : Kon) : Nat → Kon
  | 0 => K
  | n + 1 => fun pc ls st s => nStep X cal h pc ls st s (nIter h K n)
noncomputable def nR (h : Hd) : Kon := fun pc ls st s => @dite _ (∃ n r, nRun X cal h n pc ls st s = some r) (Classical.propDecidable _) (fun q => some q.choose_spec.choose) (fun _ => none)
end
end
section
def eA (i : Instr) (l : List Nat) : En := (i, l, 0, 0, [])
def eC (i : Instr) (c : Int32) : En := (i, [], c, 0, [])
def eL (i : Instr) (c : Int64) : En := (i, [], 0, c, [])
def tX0_init : List (Nat × En) := [(0, eA (.aload_n 0) [0]),
  (1, eA (.invokespecial 3) [1, 5, 180]),
  (4, eA (.aload_n 0) [0]),
  (5, eC (.iconst 0) 0),
  (6, eA (.putfield 9) [1, 0, 181]),
  (9, eA (.aload_n 0) [0]),
  (10, eC (.iconst (-1)) (-1)),
  (11, eA (.putfield 15) [1, 1, 183]),
  (14, eA (.aload_n 0) [0]),
  (15, eC (.iconst (-1)) (-1)),
  (16, eA (.putfield 18) [1, 2, 185]),
  (19, eA (.aload_n 0) [0]),
  (20, eC (.iconst 0) 0),
  (21, eA (.putfield 21) [1, 3, 187]),
  (24, eA (.aload_n 0) [0]),
  (25, eC (.iconst 0) 0),
  (26, eA (.putfield 24) [1, 4, 189]),
  (29, eA (.aload_n 0) [0]),
  (30, eC (.bipush 6) 6),
  (32, eA (.newarray .int) [1]),
  (34, eA (.putfield 27) [1, 5, 191]),
  (37, eA (.aload_n 0) [0]),
  (38, eC (.bipush 6) 6),
  (40, eA (.newarray .int) [1]),
  (42, eA (.putfield 31) [1, 6, 193]),
  (45, eA (.aload_n 0) [0]),
  (46, eC (.bipush 6) 6),
  (48, eA (.newarray .int) [1]),
  (50, eA (.putfield 34) [1, 7, 194]),
  (53, eA (.return_) [])]
def hX0_init : Hd := (tX0_init, 1, true, 0)
def tX0_search : List (Nat × En) := [(0, eA (.aload_n 0) [0]),
  (1, eA (.invokevirtual 37) [0, 2, 0, 1, 627]),
  (4, eC (.iconst 0) 0),
  (5, eA (.istore_n 3) [3]),
  (6, eA (.iload_n 3) [3]),
  (7, eC (.sipush 4096) 4096),
  (10, eA (.if_icmp .ge 26) [36]),
  (13, eA (.aload_n 0) [0]),
  (14, eA (.aload_n 2) [2]),
  (15, eA (.invokevirtual 40) [0, 3, 1, 1, 631]),
  (18, eA (.ifCond .eq 7) [25]),
  (21, eA (.aload_n 0) [0]),
  (22, eA (.invokevirtual 44) [0, 4, 0, 1, 635]),
  (25, eA (.aload_n 0) [0]),
  (26, eA (.aload_n 1) [1]),
  (27, eA (.invokevirtual 47) [0, 5, 1, 1, 639]),
  (30, (.iinc 3 1, [3], 1, 0, [])),
  (33, eA (.goto (-27)) [6]),
  (36, eA (.return_) [])]
def hX0_search : Hd := (tX0_search, 1, false, 0)
def tX0_clear : List (Nat × En) := [(0, eA (.aload_n 0) [0]),
  (1, eC (.iconst 0) 0),
  (2, eA (.putfield 9) [1, 0, 181]),
  (5, eA (.aload_n 0) [0]),
  (6, eC (.iconst (-1)) (-1)),
  (7, eA (.putfield 15) [1, 1, 183]),
  (10, eA (.aload_n 0) [0]),
  (11, eC (.iconst (-1)) (-1)),
  (12, eA (.putfield 18) [1, 2, 185]),
  (15, eA (.aload_n 0) [0]),
  (16, eC (.iconst 0) 0),
  (17, eA (.putfield 21) [1, 3, 187]),
  (20, eA (.aload_n 0) [0]),
  (21, eC (.iconst 0) 0),
  (22, eA (.putfield 24) [1, 4, 189]),
  (25, eC (.iconst 0) 0),
  (26, eA (.istore_n 1) [1]),
  (27, eA (.iload_n 1) [1]),
  (28, eC (.bipush 6) 6),
  (30, eA (.if_icmp .ge 23) [53]),
  (33, eA (.aload_n 0) [0]),
  (34, eA (.getfield 27) [1, 5, 191]),
  (37, eA (.iload_n 1) [1]),
  (38, eC (.iconst 0) 0),
  (39, eA (.iastore) []),
  (40, eA (.aload_n 0) [0]),
  (41, eA (.getfield 31) [1, 6, 193]),
  (44, eA (.iload_n 1) [1]),
  (45, eC (.iconst 0) 0),
  (46, eA (.iastore) []),
  (47, (.iinc 1 1, [1], 1, 0, [])),
  (50, eA (.goto (-23)) [27]),
  (53, eC (.iconst 0) 0),
  (54, eA (.istore_n 1) [1]),
  (55, eA (.iload_n 1) [1]),
  (56, eC (.bipush 6) 6),
  (58, eA (.if_icmp .ge 16) [74]),
  (61, eA (.aload_n 0) [0]),
  (62, eA (.getfield 34) [1, 7, 194]),
  (65, eA (.iload_n 1) [1]),
  (66, eC (.iconst 0) 0),
  (67, eA (.iastore) []),
  (68, (.iinc 1 1, [1], 1, 0, [])),
  (71, eA (.goto (-16)) [55]),
  (74, eA (.return_) [])]
def hX0_clear : Hd := (tX0_clear, 1, false, 0)
def tX0_isInShoe : List (Nat × En) := [(0, eC (.iconst 0) 0),
  (1, eA (.istore_n 2) [2]),
  (2, eA (.iload_n 2) [2]),
  (3, eC (.bipush 6) 6),
  (5, eA (.if_icmp .ge 23) [28]),
  (8, eA (.aload_n 0) [0]),
  (9, eA (.getfield 34) [1, 7, 194]),
  (12, eA (.iload_n 2) [2]),
  (13, eA (.iaload) []),
  (14, eA (.aload_n 1) [1]),
  (15, eA (.iload_n 2) [2]),
  (16, eA (.iaload) []),
  (17, eA (.if_icmp .eq 5) [22]),
  (20, eC (.iconst 0) 0),
  (21, eA (.ireturn) []),
  (22, (.iinc 2 1, [2], 1, 0, [])),
  (25, eA (.goto (-23)) [2]),
  (28, eC (.iconst 1) 1),
  (29, eA (.ireturn) [])]
def hX0_isInShoe : Hd := (tX0_isInShoe, 1, false, 2)
def tX0_found : List (Nat × En) := [(0, eC (.iconst 0) 0),
  (1, eA (.istore_n 1) [1]),
  (2, eC (.iconst 0) 0),
  (3, eA (.istore_n 2) [2]),
  (4, eC (.iconst 0) 0),
  (5, eA (.istore_n 3) [3]),
  (6, eC (.iconst 0) 0),
  (7, eA (.istore 4) [4]),
  (9, eA (.iload 4) [4]),
  (11, eC (.bipush 6) 6),
  (13, eA (.if_icmp .ge 60) [73]),
  (16, eA (.iload_n 1) [1]),
  (17, eC (.bipush 10) 10),
  (19, eA (.imul) []),
  (20, eA (.aload_n 0) [0]),
  (21, eA (.getfield 31) [1, 6, 193]),
  (24, eA (.iload 4) [4]),
  (26, eA (.iaload) []),
  (27, eA (.iadd) []),
  (28, eA (.istore_n 1) [1]),
  (29, eA (.iload_n 2) [2]),
  (30, eA (.aload_n 0) [0]),
  (31, eA (.getfield 31) [1, 6, 193]),
  (34, eA (.iload 4) [4]),
  (36, eA (.iaload) []),
  (37, eA (.iadd) []),
  (38, eA (.istore_n 2) [2]),
  (39, eA (.aload_n 0) [0]),
  (40, eA (.getfield 31) [1, 6, 193]),
  (43, eA (.iload 4) [4]),
  (45, eA (.iaload) []),
  (46, eA (.ifCond .le 21) [67]),
  (49, eA (.iload_n 3) [3]),
  (50, eC (.iconst 1) 1),
  (51, eA (.iload 4) [4]),
  (53, eA (.ishl) []),
  (54, eA (.ior) []),
  (55, eA (.istore_n 3) [3]),
  (56, eA (.aload_n 0) [0]),
  (57, eA (.getfield 27) [1, 5, 191]),
  (60, eA (.iload 4) [4]),
  (62, eA (.dup2) []),
  (63, eA (.iaload) []),
  (64, eC (.iconst 1) 1),
  (65, eA (.iadd) []),
  (66, eA (.iastore) []),
  (67, (.iinc 4 1, [4], 1, 0, [])),
  (70, eA (.goto (-61)) [9]),
  (73, eA (.aload_n 0) [0]),
  (74, eA (.aload_n 0) [0]),
  (75, eA (.getfield 9) [1, 0, 181]),
  (78, eA (.ifCond .ne 7) [85]),
  (81, eA (.iload_n 3) [3]),
  (82, eA (.goto 9) [91]),
  (85, eA (.aload_n 0) [0]),
  (86, eA (.getfield 21) [1, 3, 187]),
  (89, eA (.iload_n 3) [3]),
  (90, eA (.iand) []),
  (91, eA (.putfield 21) [1, 3, 187]),
  (94, eA (.aload_n 0) [0]),
  (95, eA (.dup) []),
  (96, eA (.getfield 24) [1, 4, 189]),
  (99, eA (.iload_n 3) [3]),
  (100, eA (.ior) []),
  (101, eA (.putfield 24) [1, 4, 189]),
  (104, eA (.aload_n 0) [0]),
  (105, eA (.getfield 9) [1, 0, 181]),
  (108, eA (.ifCond .eq 11) [119]),
  (111, eA (.iload_n 2) [2]),
  (112, eA (.aload_n 0) [0]),
  (113, eA (.getfield 18) [1, 2, 185]),
  (116, eA (.if_icmp .ge 13) [129]),
  (119, eA (.aload_n 0) [0]),
  (120, eA (.iload_n 1) [1]),
  (121, eA (.putfield 15) [1, 1, 183]),
  (124, eA (.aload_n 0) [0]),
  (125, eA (.iload_n 2) [2]),
  (126, eA (.putfield 18) [1, 2, 185]),
  (129, eA (.aload_n 0) [0]),
  (130, eA (.dup) []),
  (131, eA (.getfield 9) [1, 0, 181]),
  (134, eC (.iconst 1) 1),
  (135, eA (.iadd) []),
  (136, eA (.putfield 9) [1, 0, 181]),
  (139, eA (.return_) [])]
def hX0_found : Hd := (tX0_found, 1, false, 0)
def tX0_stepOn : List (Nat × En) := [(0, eC (.iconst 5) 5),
  (1, eA (.istore_n 2) [2]),
  (2, eA (.iload_n 2) [2]),
  (3, eA (.ifCond .lt 27) [30]),
  (6, eA (.aload_n 0) [0]),
  (7, eA (.getfield 31) [1, 6, 193]),
  (10, eA (.iload_n 2) [2]),
  (11, eA (.iaload) []),
  (12, eC (.iconst 3) 3),
  (13, eA (.if_icmp .ne 17) [30]),
  (16, eA (.aload_n 0) [0]),
  (17, eA (.aload_n 1) [1]),
  (18, eA (.iload_n 2) [2]),
  (19, eC (.bipush (-3)) (-3)),
  (21, eA (.invokevirtual 51) [0, 6, 3, 1, 643]),
  (24, (.iinc 2 (-1), [2], (-1), 0, [])),
  (27, eA (.goto (-25)) [2]),
  (30, eA (.iload_n 2) [2]),
  (31, eA (.ifCond .lt 10) [41]),
  (34, eA (.aload_n 0) [0]),
  (35, eA (.aload_n 1) [1]),
  (36, eA (.iload_n 2) [2]),
  (37, eC (.iconst 1) 1),
  (38, eA (.invokevirtual 51) [0, 6, 3, 1, 643]),
  (41, eA (.return_) [])]
def hX0_stepOn : Hd := (tX0_stepOn, 1, false, 0)
def tX0_takeUp : List (Nat × En) := [(0, eA (.aload_n 0) [0]),
  (1, eA (.getfield 31) [1, 6, 193]),
  (4, eA (.iload_n 2) [2]),
  (5, eA (.dup2) []),
  (6, eA (.iaload) []),
  (7, eA (.iload_n 3) [3]),
  (8, eA (.iadd) []),
  (9, eA (.iastore) []),
  (10, eC (.iconst 0) 0),
  (11, eA (.istore 4) [4]),
  (13, eA (.iload 4) [4]),
  (15, eC (.bipush 6) 6),
  (17, eA (.if_icmp .ge 30) [47]),
  (20, eA (.aload_n 0) [0]),
  (21, eA (.getfield 34) [1, 7, 194]),
  (24, eA (.iload 4) [4]),
  (26, eA (.dup2) []),
  (27, eA (.iaload) []),
  (28, eA (.iload_n 3) [3]),
  (29, eA (.aload_n 1) [1]),
  (30, eA (.iload_n 2) [2]),
  (31, eC (.bipush 6) 6),
  (33, eA (.imul) []),
  (34, eA (.iload 4) [4]),
  (36, eA (.iadd) []),
  (37, eA (.iaload) []),
  (38, eA (.imul) []),
  (39, eA (.iadd) []),
  (40, eA (.iastore) []),
  (41, (.iinc 4 1, [4], 1, 0, [])),
  (44, eA (.goto (-31)) [13]),
  (47, eA (.return_) [])]
def hX0_takeUp : Hd := (tX0_takeUp, 1, false, 0)
def tX1_takes : List (Nat × En) := [(0, eA (.iload_n 0) [0]),
  (1, eA (.iload_n 1) [1]),
  (2, eA (.iload_n 2) [2]),
  (3, eA (.iload_n 3) [3]),
  (4, eA (.invokestatic 7) [0, 8, 4, 0, 512]),
  (7, eC (.bipush 99) 99),
  (9, eA (.invokestatic 13) [1, 1, 515]),
  (12, eA (.ireturn) [])]
def hX1_takes : Hd := (tX1_takes, 0, false, 1)
def tX1_takesUnbounded : List (Nat × En) := [(0, eA (.iload_n 0) [0]),
  (1, (.tableswitch 80 1 5 #[35, 39, 43, 63, 76], [81], 0, 0, [(1, 36), (2, 40), (3, 44), (4, 64), (5, 77)])),
  (36, eC (.iconst 2) 2),
  (37, eA (.iload_n 1) [1]),
  (38, eA (.imul) []),
  (39, eA (.ireturn) []),
  (40, eA (.iload_n 1) [1]),
  (41, eC (.iconst 2) 2),
  (42, eA (.idiv) []),
  (43, eA (.ireturn) []),
  (44, eA (.iload_n 2) [2]),
  (45, eA (.iload_n 3) [3]),
  (46, eC (.bipush 6) 6),
  (48, eA (.irem) []),
  (49, eA (.if_icmp .ne 11) [60]),
  (52, eC (.iconst 2) 2),
  (53, eA (.iload_n 1) [1]),
  (54, eA (.imul) []),
  (55, eA (.iload_n 3) [3]),
  (56, eA (.iadd) []),
  (57, eA (.goto 6) [63]),
  (60, eC (.iconst 2) 2),
  (61, eA (.iload_n 1) [1]),
  (62, eA (.imul) []),
  (63, eA (.ireturn) []),
  (64, eA (.iload_n 2) [2]),
  (65, eC (.iconst 5) 5),
  (66, eA (.if_icmp .ne 7) [73]),
  (69, eC (.iconst 0) 0),
  (70, eA (.goto 6) [76]),
  (73, eA (.iload_n 1) [1]),
  (74, eC (.iconst 2) 2),
  (75, eA (.idiv) []),
  (76, eA (.ireturn) []),
  (77, eA (.iload_n 1) [1]),
  (78, eA (.iload_n 2) [2]),
  (79, eA (.iadd) []),
  (80, eA (.ireturn) []),
  (81, eA (.iload_n 1) [1]),
  (82, eA (.ireturn) [])]
def hX1_takesUnbounded : Hd := (tX1_takesUnbounded, 0, false, 1)
def tX1_keeps : List (Nat × En) := [(0, eA (.iload_n 0) [0]),
  (1, (.tableswitch 53 2 5 #[31, 33, 42, 51], [54], 0, 0, [(2, 32), (3, 34), (4, 43), (5, 52)])),
  (32, eA (.iload_n 2) [2]),
  (33, eA (.ireturn) []),
  (34, eA (.iload_n 2) [2]),
  (35, eA (.iload_n 1) [1]),
  (36, eA (.imul) []),
  (37, eC (.bipush 100) 100),
  (39, eA (.idiv) []),
  (40, eC (.iconst 2) 2),
  (41, eA (.idiv) []),
  (42, eA (.ireturn) []),
  (43, eA (.iload_n 2) [2]),
  (44, eC (.bipush 10) 10),
  (46, eA (.isub) []),
  (47, eC (.iconst 0) 0),
  (48, eA (.invokestatic 19) [1, 2, 493]),
  (51, eA (.ireturn) []),
  (52, eC (.iconst 0) 0),
  (53, eA (.ireturn) []),
  (54, eA (.iload_n 2) [2]),
  (55, eA (.iload_n 1) [1]),
  (56, eA (.imul) []),
  (57, eC (.bipush 100) 100),
  (59, eA (.idiv) []),
  (60, eA (.ireturn) [])]
def hX1_keeps : Hd := (tX1_keeps, 0, false, 1)
def tX1_sure : List (Nat × En) := [(0, eA (.iload_n 0) [0]),
  (1, (.tableswitch 45 2 5 #[31, 35, 37, 43], [46], 0, 0, [(2, 32), (3, 36), (4, 38), (5, 44)])),
  (32, eA (.iload_n 1) [1]),
  (33, eA (.iload_n 2) [2]),
  (34, eA (.iadd) []),
  (35, eA (.ireturn) []),
  (36, eC (.iconst 0) 0),
  (37, eA (.ireturn) []),
  (38, eC (.iconst 2) 2),
  (39, eA (.iload_n 1) [1]),
  (40, eA (.iload_n 2) [2]),
  (41, eA (.iadd) []),
  (42, eA (.imul) []),
  (43, eA (.ireturn) []),
  (44, eC (.iconst 1) 1),
  (45, eA (.ireturn) []),
  (46, eA (.iload_n 1) [1]),
  (47, eA (.ireturn) [])]
def hX1_sure : Hd := (tX1_sure, 0, false, 1)
def tX1_isUnder : List (Nat × En) := [(0, eA (.iload_n 0) [0]),
  (1, eA (.iload_n 1) [1]),
  (2, eA (.if_icmp .eq 27) [29]),
  (5, eA (.iload_n 1) [1]),
  (6, eA (.ifCond .eq 23) [29]),
  (9, eA (.iload_n 0) [0]),
  (10, eC (.iconst 3) 3),
  (11, eA (.if_icmp .ne 8) [19]),
  (14, eA (.iload_n 1) [1]),
  (15, eC (.iconst 1) 1),
  (16, eA (.if_icmp .eq 13) [29]),
  (19, eA (.iload_n 0) [0]),
  (20, eC (.iconst 4) 4),
  (21, eA (.if_icmp .ne 12) [33]),
  (24, eA (.iload_n 1) [1]),
  (25, eC (.iconst 2) 2),
  (26, eA (.if_icmp .ne 7) [33]),
  (29, eC (.iconst 1) 1),
  (30, eA (.goto 4) [34]),
  (33, eC (.iconst 0) 0),
  (34, eA (.ireturn) [])]
def hX1_isUnder : Hd := (tX1_isUnder, 0, false, 2)
def tX2_init : List (Nat × En) := [(0, eA (.aload_n 0) [0]),
  (1, eA (.invokespecial 3) [1, 5, 139]),
  (4, eA (.aload_n 0) [0]),
  (5, eC (.sipush 160) 160),
  (8, eA (.newarray .int) [1]),
  (10, eA (.putfield 9) [2, 0, 140]),
  (13, eA (.aload_n 0) [0]),
  (14, eC (.iconst 0) 0),
  (15, eA (.putfield 15) [2, 1, 141]),
  (18, eA (.aload_n 0) [0]),
  (19, eC (.sipush 160) 160),
  (22, eA (.newarray .int) [1]),
  (24, eA (.putfield 19) [2, 2, 143]),
  (27, eA (.aload_n 0) [0]),
  (28, eC (.iconst 4) 4),
  (29, eA (.newarray .int) [1]),
  (31, eA (.putfield 22) [2, 3, 145]),
  (34, eA (.aload_n 0) [0]),
  (35, eC (.iconst 0) 0),
  (36, eA (.putfield 25) [2, 4, 147]),
  (39, eA (.aload_n 0) [0]),
  (40, eC (.iconst 0) 0),
  (41, eA (.putfield 28) [2, 5, 148]),
  (44, eA (.aload_n 0) [0]),
  (45, eC (.iconst 0) 0),
  (46, eA (.putfield 31) [2, 6, 149]),
  (49, eA (.aload_n 0) [0]),
  (50, eC (.iconst 0) 0),
  (51, eA (.putfield 34) [2, 7, 150]),
  (54, eA (.aload_n 0) [0]),
  (55, eC (.iconst 0) 0),
  (56, eA (.putfield 37) [2, 8, 151]),
  (59, eA (.return_) [])]
def hX2_init : Hd := (tX2_init, 2, true, 0)
def tX2_add : List (Nat × En) := [(0, eA (.aload_n 0) [0]),
  (1, eA (.getfield 15) [2, 1, 141]),
  (4, eC (.sipush 160) 160),
  (7, eA (.if_icmp .lt 6) [13]),
  (10, eC (.bipush (-4)) (-4)),
  (12, eA (.ireturn) []),
  (13, eA (.aload_n 0) [0]),
  (14, eA (.getfield 9) [2, 0, 140]),
  (17, eA (.aload_n 0) [0]),
  (18, eA (.getfield 15) [2, 1, 141]),
  (21, eA (.iload_n 1) [1]),
  (22, eA (.iastore) []),
  (23, eA (.aload_n 0) [0]),
  (24, eA (.dup) []),
  (25, eA (.getfield 15) [2, 1, 141]),
  (28, eC (.iconst 1) 1),
  (29, eA (.iadd) []),
  (30, eA (.putfield 15) [2, 1, 141]),
  (33, eA (.aload_n 0) [0]),
  (34, eA (.getfield 15) [2, 1, 141]),
  (37, eA (.ireturn) [])]
def hX2_add : Hd := (tX2_add, 2, false, 1)
def tX2_read : List (Nat × En) := [(0, eA (.aload_n 0) [0]),
  (1, eC (.iconst 0) 0),
  (2, eA (.putfield 25) [2, 4, 147]),
  (5, eA (.aload_n 0) [0]),
  (6, eC (.iconst 0) 0),
  (7, eA (.putfield 28) [2, 5, 148]),
  (10, eA (.aload_n 0) [0]),
  (11, eA (.invokevirtual 40) [0, 21, 0, 2, 307]),
  (14, eC (.iconst 0) 0),
  (15, eA (.istore_n 1) [1]),
  (16, eA (.iload_n 1) [1]),
  (17, eC (.iconst 3) 3),
  (18, eA (.if_icmp .ge 67) [85]),
  (21, eA (.aload_n 0) [0]),
  (22, eA (.getfield 31) [2, 6, 149]),
  (25, eC (.iconst 4) 4),
  (26, eA (.iload_n 1) [1]),
  (27, eA (.iadd) []),
  (28, eA (.if_icmp .eq 8) [36]),
  (31, eA (.aload_n 0) [0]),
  (32, eA (.getfield 34) [2, 7, 150]),
  (35, eA (.ireturn) []),
  (36, eA (.aload_n 0) [0]),
  (37, eA (.invokevirtual 40) [0, 21, 0, 2, 307]),
  (40, eA (.aload_n 0) [0]),
  (41, eC (.iconst 0) 0),
  (42, eC (.iconst 0) 0),
  (43, eA (.invokevirtual 43) [0, 15, 2, 2, 347]),
  (46, eA (.ifCond .eq 12) [58]),
  (49, eA (.aload_n 0) [0]),
  (50, eA (.getfield 31) [2, 6, 149]),
  (53, eC (.bipush 59) 59),
  (55, eA (.if_icmp .eq 8) [63]),
  (58, eA (.aload_n 0) [0]),
  (59, eA (.getfield 34) [2, 7, 150]),
  (62, eA (.ireturn) []),
  (63, eA (.aload_n 0) [0]),
  (64, eA (.invokevirtual 40) [0, 21, 0, 2, 307]),
  (67, eA (.aload_n 0) [0]),
  (68, eA (.getfield 22) [2, 3, 145]),
  (71, eA (.iload_n 1) [1]),
  (72, eC (.iconst 1) 1),
  (73, eA (.iadd) []),
  (74, eA (.aload_n 0) [0]),
  (75, eA (.getfield 25) [2, 4, 147]),
  (78, eA (.iastore) []),
  (79, (.iinc 1 1, [1], 1, 0, [])),
  (82, eA (.goto (-66)) [16]),
  (85, eA (.aload_n 0) [0]),
  (86, eA (.getfield 31) [2, 6, 149]),
  (89, eA (.ifCond .ne 7) [96]),
  (92, eC (.iconst (-1)) (-1)),
  (93, eA (.goto 7) [100]),
  (96, eA (.aload_n 0) [0]),
  (97, eA (.getfield 34) [2, 7, 150]),
  (100, eA (.ireturn) [])]
def hX2_read : Hd := (tX2_read, 2, false, 1)
def tX2_readLevel : List (Nat × En) := [(0, eA (.iload_n 1) [1]),
  (1, eC (.iconst 5) 5),
  (2, eA (.if_icmp .lt 9) [11]),
  (5, eA (.aload_n 0) [0]),
  (6, eA (.iload_n 2) [2]),
  (7, eA (.invokevirtual 47) [0, 17, 1, 2, 351]),
  (10, eA (.ireturn) []),
  (11, eA (.iload_n 1) [1]),
  (12, eC (.iconst 2) 2),
  (13, eA (.if_icmp .ne 18) [31]),
  (16, eA (.aload_n 0) [0]),
  (17, eA (.getfield 31) [2, 6, 149]),
  (20, eC (.bipush 9) 9),
  (22, eA (.if_icmp .ne 9) [31]),
  (25, eA (.aload_n 0) [0]),
  (26, eA (.iload_n 2) [2]),
  (27, eA (.invokevirtual 51) [0, 16, 1, 2, 359]),
  (30, eA (.ireturn) []),
  (31, eA (.aload_n 0) [0]),
  (32, eA (.iload_n 1) [1]),
  (33, eC (.iconst 1) 1),
  (34, eA (.iadd) []),
  (35, eA (.iload_n 2) [2]),
  (36, eA (.invokevirtual 43) [0, 15, 2, 2, 347]),
  (39, eA (.ifCond .ne 5) [44]),
  (42, eC (.iconst 0) 0),
  (43, eA (.ireturn) []),
  (44, eA (.iload_n 1) [1]),
  (45, eC (.iconst 2) 2),
  (46, eA (.if_icmp .ne 7) [53]),
  (49, eC (.iconst 1) 1),
  (50, eA (.goto 6) [56]),
  (53, eC (.sipush 160) 160),
  (56, eA (.istore_n 3) [3]),
  (57, eC (.iconst 0) 0),
  (58, eA (.istore 4) [4]),
  (60, eA (.iload 4) [4]),
  (62, eA (.iload_n 3) [3]),
  (63, eA (.if_icmp .ge 52) [115]),
  (66, eA (.aload_n 0) [0]),
  (67, eA (.getfield 31) [2, 6, 149]),
  (70, eA (.invokestatic 54) [0, 18, 1, 0, 363]),
  (73, eA (.iload_n 1) [1]),
  (74, eA (.if_icmp .ne 41) [115]),
  (77, eA (.aload_n 0) [0]),
  (78, eA (.getfield 31) [2, 6, 149]),
  (81, eA (.invokestatic 58) [0, 19, 1, 0, 366]),
  (84, eA (.istore 5) [5]),
  (86, eA (.aload_n 0) [0]),
  (87, eA (.invokevirtual 40) [0, 21, 0, 2, 307]),
  (90, eA (.aload_n 0) [0]),
  (91, eA (.iload_n 1) [1]),
  (92, eC (.iconst 1) 1),
  (93, eA (.iadd) []),
  (94, eA (.iload_n 2) [2]),
  (95, eA (.invokevirtual 43) [0, 15, 2, 2, 347]),
  (98, eA (.ifCond .ne 5) [103]),
  (101, eC (.iconst 0) 0),
  (102, eA (.ireturn) []),
  (103, eA (.aload_n 0) [0]),
  (104, eA (.iload 5) [5]),
  (106, eA (.invokevirtual 61) [0, 20, 1, 2, 355]),
  (109, (.iinc 4 1, [4], 1, 0, [])),
  (112, eA (.goto (-52)) [60]),
  (115, eC (.iconst 1) 1),
  (116, eA (.ireturn) [])]
def hX2_readLevel : Hd := (tX2_readLevel, 2, false, 2)
def tX2_readNot : List (Nat × En) := [(0, eA (.iload_n 1) [1]),
  (1, eC (.iconst 5) 5),
  (2, eA (.if_icmp .lt 5) [7]),
  (5, eC (.iconst 0) 0),
  (6, eA (.ireturn) []),
  (7, eA (.aload_n 0) [0]),
  (8, eA (.invokevirtual 40) [0, 21, 0, 2, 307]),
  (11, eA (.aload_n 0) [0]),
  (12, eC (.iconst 2) 2),
  (13, eA (.iload_n 1) [1]),
  (14, eC (.iconst 1) 1),
  (15, eA (.iadd) []),
  (16, eA (.invokevirtual 43) [0, 15, 2, 2, 347]),
  (19, eA (.ifCond .ne 5) [24]),
  (22, eC (.iconst 0) 0),
  (23, eA (.ireturn) []),
  (24, eA (.aload_n 0) [0]),
  (25, eC (.bipush (-7)) (-7)),
  (27, eA (.invokevirtual 61) [0, 20, 1, 2, 355]),
  (30, eC (.iconst 1) 1),
  (31, eA (.ireturn) [])]
def hX2_readNot : Hd := (tX2_readNot, 2, false, 2)
def tX2_readOne : List (Nat × En) := [(0, eA (.aload_n 0) [0]),
  (1, eA (.getfield 31) [2, 6, 149]),
  (4, eA (.istore_n 2) [2]),
  (5, eA (.iload_n 2) [2]),
  (6, eC (.iconst 2) 2),
  (7, eA (.if_icmp .eq 8) [15]),
  (10, eA (.iload_n 2) [2]),
  (11, eC (.iconst 3) 3),
  (12, eA (.if_icmp .ne 31) [43]),
  (15, eA (.aload_n 0) [0]),
  (16, eA (.iload_n 2) [2]),
  (17, eC (.iconst 2) 2),
  (18, eA (.if_icmp .ne 10) [28]),
  (21, eA (.aload_n 0) [0]),
  (22, eA (.getfield 37) [2, 8, 151]),
  (25, eA (.goto 9) [34]),
  (28, eC (.iconst (-1)) (-1)),
  (29, eA (.aload_n 0) [0]),
  (30, eA (.getfield 37) [2, 8, 151]),
  (33, eA (.isub) []),
  (34, eA (.invokevirtual 61) [0, 20, 1, 2, 355]),
  (37, eA (.aload_n 0) [0]),
  (38, eA (.invokevirtual 40) [0, 21, 0, 2, 307]),
  (41, eC (.iconst 1) 1),
  (42, eA (.ireturn) []),
  (43, eA (.iload_n 2) [2]),
  (44, eC (.bipush 45) 45),
  (46, eA (.if_icmp .eq 9) [55]),
  (49, eA (.iload_n 2) [2]),
  (50, eC (.bipush 40) 40),
  (52, eA (.if_icmp .ne 8) [60]),
  (55, eA (.iload_n 1) [1]),
  (56, eC (.iconst 5) 5),
  (57, eA (.if_icmp .lt 5) [62]),
  (60, eC (.iconst 0) 0),
  (61, eA (.ireturn) []),
  (62, eA (.aload_n 0) [0]),
  (63, eA (.invokevirtual 40) [0, 21, 0, 2, 307]),
  (66, eA (.iload_n 2) [2]),
  (67, eC (.bipush 45) 45),
  (69, eA (.if_icmp .ne 23) [92]),
  (72, eA (.aload_n 0) [0]),
  (73, eA (.iload_n 1) [1]),
  (74, eC (.iconst 1) 1),
  (75, eA (.iadd) []),
  (76, eA (.invokevirtual 47) [0, 17, 1, 2, 351]),
  (79, eA (.ifCond .ne 5) [84]),
  (82, eC (.iconst 0) 0),
  (83, eA (.ireturn) []),
  (84, eA (.aload_n 0) [0]),
  (85, eC (.bipush (-8)) (-8)),
  (87, eA (.invokevirtual 61) [0, 20, 1, 2, 355]),
  (90, eC (.iconst 1) 1),
  (91, eA (.ireturn) []),
  (92, eA (.aload_n 0) [0]),
  (93, eC (.iconst 0) 0),
  (94, eA (.iload_n 1) [1]),
  (95, eC (.iconst 1) 1),
  (96, eA (.iadd) []),
  (97, eA (.invokevirtual 43) [0, 15, 2, 2, 347]),
  (100, eA (.ifCond .eq 12) [112]),
  (103, eA (.aload_n 0) [0]),
  (104, eA (.getfield 31) [2, 6, 149]),
  (107, eC (.bipush 41) 41),
  (109, eA (.if_icmp .eq 5) [114]),
  (112, eC (.iconst 0) 0),
  (113, eA (.ireturn) []),
  (114, eA (.aload_n 0) [0]),
  (115, eA (.invokevirtual 40) [0, 21, 0, 2, 307]),
  (118, eC (.iconst 1) 1),
  (119, eA (.ireturn) [])]
def hX2_readOne : Hd := (tX2_readOne, 2, false, 2)
def tX2_levelOf : List (Nat × En) := [(0, eA (.iload_n 0) [0]),
  (1, (.lookupswitch 77 #[(7, 67), (8, 69), (42, 75), (43, 73), (45, 73), (60, 71), (61, 71)], [78], 0, 0, [(7, 68), (8, 70), (42, 76), (43, 74), (45, 74), (60, 72), (61, 72)])),
  (68, eC (.iconst 0) 0),
  (69, eA (.ireturn) []),
  (70, eC (.iconst 1) 1),
  (71, eA (.ireturn) []),
  (72, eC (.iconst 2) 2),
  (73, eA (.ireturn) []),
  (74, eC (.iconst 3) 3),
  (75, eA (.ireturn) []),
  (76, eC (.iconst 4) 4),
  (77, eA (.ireturn) []),
  (78, eC (.iconst (-1)) (-1)),
  (79, eA (.ireturn) [])]
def hX2_levelOf : Hd := (tX2_levelOf, 2, false, 1)
def tX2_stepOf : List (Nat × En) := [(0, eA (.iload_n 0) [0]),
  (1, (.lookupswitch 77 #[(7, 59), (8, 62), (43, 71), (45, 74), (60, 65), (61, 68)], [78], 0, 0, [(7, 60), (8, 63), (43, 72), (45, 75), (60, 66), (61, 69)])),
  (60, eC (.bipush (-9)) (-9)),
  (62, eA (.ireturn) []),
  (63, eC (.bipush (-10)) (-10)),
  (65, eA (.ireturn) []),
  (66, eC (.bipush (-11)) (-11)),
  (68, eA (.ireturn) []),
  (69, eC (.bipush (-12)) (-12)),
  (71, eA (.ireturn) []),
  (72, eC (.bipush (-13)) (-13)),
  (74, eA (.ireturn) []),
  (75, eC (.bipush (-14)) (-14)),
  (77, eA (.ireturn) []),
  (78, eC (.bipush (-15)) (-15)),
  (80, eA (.ireturn) [])]
def hX2_stepOf : Hd := (tX2_stepOf, 2, false, 1)
def tX2_put : List (Nat × En) := [(0, eA (.aload_n 0) [0]),
  (1, eA (.getfield 25) [2, 4, 147]),
  (4, eC (.sipush 160) 160),
  (7, eA (.if_icmp .ge 23) [30]),
  (10, eA (.aload_n 0) [0]),
  (11, eA (.getfield 19) [2, 2, 143]),
  (14, eA (.aload_n 0) [0]),
  (15, eA (.getfield 25) [2, 4, 147]),
  (18, eA (.iload_n 1) [1]),
  (19, eA (.iastore) []),
  (20, eA (.aload_n 0) [0]),
  (21, eA (.dup) []),
  (22, eA (.getfield 25) [2, 4, 147]),
  (25, eC (.iconst 1) 1),
  (26, eA (.iadd) []),
  (27, eA (.putfield 25) [2, 4, 147]),
  (30, eA (.return_) [])]
def hX2_put : Hd := (tX2_put, 2, false, 0)
def tX2_next : List (Nat × En) := [(0, eA (.aload_n 0) [0]),
  (1, eA (.getfield 28) [2, 5, 148]),
  (4, eA (.aload_n 0) [0]),
  (5, eA (.getfield 15) [2, 1, 141]),
  (8, eA (.if_icmp .ge 44) [52]),
  (11, eA (.aload_n 0) [0]),
  (12, eA (.getfield 9) [2, 0, 140]),
  (15, eA (.aload_n 0) [0]),
  (16, eA (.getfield 28) [2, 5, 148]),
  (19, eA (.iaload) []),
  (20, eC (.bipush 32) 32),
  (22, eA (.if_icmp .eq 17) [39]),
  (25, eA (.aload_n 0) [0]),
  (26, eA (.getfield 9) [2, 0, 140]),
  (29, eA (.aload_n 0) [0]),
  (30, eA (.getfield 28) [2, 5, 148]),
  (33, eA (.iaload) []),
  (34, eC (.bipush 10) 10),
  (36, eA (.if_icmp .ne 16) [52]),
  (39, eA (.aload_n 0) [0]),
  (40, eA (.dup) []),
  (41, eA (.getfield 28) [2, 5, 148]),
  (44, eC (.iconst 1) 1),
  (45, eA (.iadd) []),
  (46, eA (.putfield 28) [2, 5, 148]),
  (49, eA (.goto (-49)) [0]),
  (52, eA (.aload_n 0) [0]),
  (53, eA (.aload_n 0) [0]),
  (54, eA (.getfield 28) [2, 5, 148]),
  (57, eA (.putfield 34) [2, 7, 150]),
  (60, eA (.aload_n 0) [0]),
  (61, eA (.getfield 28) [2, 5, 148]),
  (64, eA (.aload_n 0) [0]),
  (65, eA (.getfield 15) [2, 1, 141]),
  (68, eA (.if_icmp .lt 11) [79]),
  (71, eA (.aload_n 0) [0]),
  (72, eC (.iconst 0) 0),
  (73, eA (.putfield 31) [2, 6, 149]),
  (76, eA (.goto 89) [165]),
  (79, eA (.aload_n 0) [0]),
  (80, eA (.aload_n 0) [0]),
  (81, eA (.getfield 28) [2, 5, 148]),
  (84, eC (.bipush 97) 97),
  (86, eC (.bipush 122) 122),
  (88, eA (.invokevirtual 67) [0, 24, 3, 2, 311]),
  (91, eA (.ifCond .eq 10) [101]),
  (94, eA (.aload_n 0) [0]),
  (95, eA (.invokevirtual 71) [0, 22, 0, 2, 315]),
  (98, eA (.goto 67) [165]),
  (101, eA (.aload_n 0) [0]),
  (102, eA (.aload_n 0) [0]),
  (103, eA (.getfield 28) [2, 5, 148]),
  (106, eC (.bipush 48) 48),
  (108, eC (.bipush 57) 57),
  (110, eA (.invokevirtual 67) [0, 24, 3, 2, 311]),
  (113, eA (.ifCond .eq 10) [123]),
  (116, eA (.aload_n 0) [0]),
  (117, eA (.invokevirtual 74) [0, 23, 0, 2, 340]),
  (120, eA (.goto 45) [165]),
  (123, eA (.aload_n 0) [0]),
  (124, eA (.aload_n 0) [0]),
  (125, eA (.getfield 9) [2, 0, 140]),
  (128, eA (.aload_n 0) [0]),
  (129, eA (.getfield 28) [2, 5, 148]),
  (132, eA (.iaload) []),
  (133, eA (.invokestatic 77) [0, 25, 1, 0, 344]),
  (136, eA (.ifCond .eq 15) [151]),
  (139, eA (.aload_n 0) [0]),
  (140, eA (.getfield 9) [2, 0, 140]),
  (143, eA (.aload_n 0) [0]),
  (144, eA (.getfield 28) [2, 5, 148]),
  (147, eA (.iaload) []),
  (148, eA (.goto 4) [152]),
  (151, eC (.iconst 1) 1),
  (152, eA (.putfield 31) [2, 6, 149]),
  (155, eA (.aload_n 0) [0]),
  (156, eA (.dup) []),
  (157, eA (.getfield 28) [2, 5, 148]),
  (160, eC (.iconst 1) 1),
  (161, eA (.iadd) []),
  (162, eA (.putfield 28) [2, 5, 148]),
  (165, eA (.return_) [])]
def hX2_next : Hd := (tX2_next, 2, false, 0)
def tX2_nextWord : List (Nat × En) := [(0, eA (.aload_n 0) [0]),
  (1, eA (.getfield 28) [2, 5, 148]),
  (4, eA (.aload_n 0) [0]),
  (5, eA (.getfield 15) [2, 1, 141]),
  (8, eA (.if_icmp .ge 31) [39]),
  (11, eA (.aload_n 0) [0]),
  (12, eA (.aload_n 0) [0]),
  (13, eA (.getfield 28) [2, 5, 148]),
  (16, eC (.bipush 97) 97),
  (18, eC (.bipush 122) 122),
  (20, eA (.invokevirtual 67) [0, 24, 3, 2, 311]),
  (23, eA (.ifCond .eq 16) [39]),
  (26, eA (.aload_n 0) [0]),
  (27, eA (.dup) []),
  (28, eA (.getfield 28) [2, 5, 148]),
  (31, eC (.iconst 1) 1),
  (32, eA (.iadd) []),
  (33, eA (.putfield 28) [2, 5, 148]),
  (36, eA (.goto (-36)) [0]),
  (39, eC (.bipush 12) 12),
  (41, eA (.istore_n 1) [1]),
  (42, eC (.iconst 0) 0),
  (43, eA (.istore_n 2) [2]),
  (44, eA (.iload_n 2) [2]),
  (45, eC (.bipush 12) 12),
  (47, eA (.if_icmp .ge 22) [69]),
  (50, eA (.aload_n 0) [0]),
  (51, eA (.iload_n 2) [2]),
  (52, eA (.invokestatic 80) [0, 27, 1, 0, 319]),
  (55, eA (.invokevirtual 84) [0, 26, 1, 2, 334]),
  (58, eA (.ifCond .eq 5) [63]),
  (61, eA (.iload_n 2) [2]),
  (62, eA (.istore_n 1) [1]),
  (63, (.iinc 2 1, [2], 1, 0, [])),
  (66, eA (.goto (-22)) [44]),
  (69, eA (.iload_n 1) [1]),
  (70, eC (.bipush 6) 6),
  (72, eA (.if_icmp .ge 16) [88]),
  (75, eA (.aload_n 0) [0]),
  (76, eC (.iconst 3) 3),
  (77, eA (.putfield 31) [2, 6, 149]),
  (80, eA (.aload_n 0) [0]),
  (81, eA (.iload_n 1) [1]),
  (82, eA (.putfield 37) [2, 8, 151]),
  (85, eA (.goto 23) [108]),
  (88, eA (.aload_n 0) [0]),
  (89, eA (.iload_n 1) [1]),
  (90, eC (.bipush 12) 12),
  (92, eA (.if_icmp .ge 12) [104]),
  (95, eC (.iconst 4) 4),
  (96, eA (.iload_n 1) [1]),
  (97, eA (.iadd) []),
  (98, eC (.bipush 6) 6),
  (100, eA (.isub) []),
  (101, eA (.goto 4) [105]),
  (104, eC (.iconst 1) 1),
  (105, eA (.putfield 31) [2, 6, 149]),
  (108, eA (.return_) [])]
def hX2_nextWord : Hd := (tX2_nextWord, 2, false, 0)
def tX2_nextNumber : List (Nat × En) := [(0, eA (.aload_n 0) [0]),
  (1, eC (.iconst 0) 0),
  (2, eA (.putfield 37) [2, 8, 151]),
  (5, eA (.aload_n 0) [0]),
  (6, eA (.getfield 28) [2, 5, 148]),
  (9, eA (.aload_n 0) [0]),
  (10, eA (.getfield 15) [2, 1, 141]),
  (13, eA (.if_icmp .ge 55) [68]),
  (16, eA (.aload_n 0) [0]),
  (17, eA (.aload_n 0) [0]),
  (18, eA (.getfield 28) [2, 5, 148]),
  (21, eC (.bipush 48) 48),
  (23, eC (.bipush 57) 57),
  (25, eA (.invokevirtual 67) [0, 24, 3, 2, 311]),
  (28, eA (.ifCond .eq 40) [68]),
  (31, eA (.aload_n 0) [0]),
  (32, eA (.aload_n 0) [0]),
  (33, eA (.getfield 37) [2, 8, 151]),
  (36, eC (.bipush 10) 10),
  (38, eA (.imul) []),
  (39, eA (.aload_n 0) [0]),
  (40, eA (.getfield 9) [2, 0, 140]),
  (43, eA (.aload_n 0) [0]),
  (44, eA (.getfield 28) [2, 5, 148]),
  (47, eA (.iaload) []),
  (48, eA (.iadd) []),
  (49, eC (.bipush 48) 48),
  (51, eA (.isub) []),
  (52, eA (.putfield 37) [2, 8, 151]),
  (55, eA (.aload_n 0) [0]),
  (56, eA (.dup) []),
  (57, eA (.getfield 28) [2, 5, 148]),
  (60, eC (.iconst 1) 1),
  (61, eA (.iadd) []),
  (62, eA (.putfield 28) [2, 5, 148]),
  (65, eA (.goto (-60)) [5]),
  (68, eA (.aload_n 0) [0]),
  (69, eA (.aload_n 0) [0]),
  (70, eA (.getfield 28) [2, 5, 148]),
  (73, eA (.aload_n 0) [0]),
  (74, eA (.getfield 34) [2, 7, 150]),
  (77, eA (.isub) []),
  (78, eC (.iconst 4) 4),
  (79, eA (.if_icmp .le 7) [86]),
  (82, eC (.iconst 1) 1),
  (83, eA (.goto 4) [87]),
  (86, eC (.iconst 2) 2),
  (87, eA (.putfield 31) [2, 6, 149]),
  (90, eA (.return_) [])]
def hX2_nextNumber : Hd := (tX2_nextNumber, 2, false, 0)
def tX2_isIn : List (Nat × En) := [(0, eA (.iload_n 1) [1]),
  (1, eA (.aload_n 0) [0]),
  (2, eA (.getfield 15) [2, 1, 141]),
  (5, eA (.if_icmp .ge 27) [32]),
  (8, eA (.aload_n 0) [0]),
  (9, eA (.getfield 9) [2, 0, 140]),
  (12, eA (.iload_n 1) [1]),
  (13, eA (.iaload) []),
  (14, eA (.iload_n 2) [2]),
  (15, eA (.if_icmp .lt 17) [32]),
  (18, eA (.aload_n 0) [0]),
  (19, eA (.getfield 9) [2, 0, 140]),
  (22, eA (.iload_n 1) [1]),
  (23, eA (.iaload) []),
  (24, eA (.iload_n 3) [3]),
  (25, eA (.if_icmp .gt 7) [32]),
  (28, eC (.iconst 1) 1),
  (29, eA (.goto 4) [33]),
  (32, eC (.iconst 0) 0),
  (33, eA (.ireturn) [])]
def hX2_isIn : Hd := (tX2_isIn, 2, false, 2)
def tX2_isSign : List (Nat × En) := [(0, eA (.iload_n 0) [0]),
  (1, eC (.bipush 40) 40),
  (3, eA (.if_icmp .lt 9) [12]),
  (6, eA (.iload_n 0) [0]),
  (7, eC (.bipush 43) 43),
  (9, eA (.if_icmp .le 21) [30]),
  (12, eA (.iload_n 0) [0]),
  (13, eC (.bipush 45) 45),
  (15, eA (.if_icmp .eq 15) [30]),
  (18, eA (.iload_n 0) [0]),
  (19, eC (.bipush 59) 59),
  (21, eA (.if_icmp .lt 13) [34]),
  (24, eA (.iload_n 0) [0]),
  (25, eC (.bipush 61) 61),
  (27, eA (.if_icmp .gt 7) [34]),
  (30, eC (.iconst 1) 1),
  (31, eA (.goto 4) [35]),
  (34, eC (.iconst 0) 0),
  (35, eA (.ireturn) [])]
def hX2_isSign : Hd := (tX2_isSign, 2, false, 2)
def tX2_isToken : List (Nat × En) := [(0, eA (.aload_n 1) [1]),
  (1, eA (.invokevirtual 88) [1, 6, 338]),
  (4, eA (.aload_n 0) [0]),
  (5, eA (.getfield 28) [2, 5, 148]),
  (8, eA (.aload_n 0) [0]),
  (9, eA (.getfield 34) [2, 7, 150]),
  (12, eA (.isub) []),
  (13, eA (.if_icmp .eq 5) [18]),
  (16, eC (.iconst 0) 0),
  (17, eA (.ireturn) []),
  (18, eC (.iconst 0) 0),
  (19, eA (.istore_n 2) [2]),
  (20, eA (.iload_n 2) [2]),
  (21, eA (.aload_n 1) [1]),
  (22, eA (.invokevirtual 88) [1, 6, 338]),
  (25, eA (.if_icmp .ge 30) [55]),
  (28, eA (.aload_n 1) [1]),
  (29, eA (.iload_n 2) [2]),
  (30, eA (.invokevirtual 94) [1, 7, 339]),
  (33, eA (.aload_n 0) [0]),
  (34, eA (.getfield 9) [2, 0, 140]),
  (37, eA (.aload_n 0) [0]),
  (38, eA (.getfield 34) [2, 7, 150]),
  (41, eA (.iload_n 2) [2]),
  (42, eA (.iadd) []),
  (43, eA (.iaload) []),
  (44, eA (.if_icmp .eq 5) [49]),
  (47, eC (.iconst 0) 0),
  (48, eA (.ireturn) []),
  (49, (.iinc 2 1, [2], 1, 0, [])),
  (52, eA (.goto (-32)) [20]),
  (55, eC (.iconst 1) 1),
  (56, eA (.ireturn) [])]
def hX2_isToken : Hd := (tX2_isToken, 2, false, 2)
def tX2_wordOf : List (Nat × En) := [(0, eA (.iload_n 0) [0]),
  (1, (.tableswitch 92 0 10 #[59, 62, 65, 68, 71, 74, 77, 80, 83, 86, 89], [93], 0, 0, [(0, 60), (1, 63), (2, 66), (3, 69), (4, 72), (5, 75), (6, 78), (7, 81), (8, 84), (9, 87), (10, 90)])),
  (60, (.ldc 98, [0, 1], 0, 0, [])),
  (62, eA (.areturn) []),
  (63, (.ldc 100, [0, 2], 0, 0, [])),
  (65, eA (.areturn) []),
  (66, (.ldc 102, [0, 3], 0, 0, [])),
  (68, eA (.areturn) []),
  (69, (.ldc 104, [0, 4], 0, 0, [])),
  (71, eA (.areturn) []),
  (72, (.ldc 106, [0, 5], 0, 0, [])),
  (74, eA (.areturn) []),
  (75, (.ldc 108, [0, 6], 0, 0, [])),
  (77, eA (.areturn) []),
  (78, (.ldc 110, [0, 7], 0, 0, [])),
  (80, eA (.areturn) []),
  (81, (.ldc 112, [0, 8], 0, 0, [])),
  (83, eA (.areturn) []),
  (84, (.ldc 114, [0, 9], 0, 0, [])),
  (86, eA (.areturn) []),
  (87, (.ldc 116, [0, 10], 0, 0, [])),
  (89, eA (.areturn) []),
  (90, (.ldc 118, [0, 11], 0, 0, [])),
  (92, eA (.areturn) []),
  (93, (.ldc 120, [0, 12], 0, 0, [])),
  (95, eA (.areturn) [])]
def hX2_wordOf : Hd := (tX2_wordOf, 2, false, 4)
def tX3_init : List (Nat × En) := [(0, eA (.aload_n 0) [0]),
  (1, eA (.invokespecial 3) [1, 5, 228]),
  (4, eA (.aload_n 0) [0]),
  (5, eC (.iconst (-1)) (-1)),
  (6, eA (.putfield 11) [3, 0, 229]),
  (9, eA (.aload_n 0) [0]),
  (10, eC (.iconst 0) 0),
  (11, eA (.putfield 15) [3, 1, 231]),
  (14, eA (.aload_n 0) [0]),
  (15, eC (.bipush 40) 40),
  (17, eA (.newarray .int) [1]),
  (19, eA (.putfield 18) [3, 2, 233]),
  (22, eA (.return_) [])]
def hX3_init : Hd := (tX3_init, 3, true, 0)
def tX3_isSort : List (Nat × En) := [(0, eA (.iload_n 0) [0]),
  (1, eA (.ifCond .lt 12) [13]),
  (4, eA (.iload_n 0) [0]),
  (5, eC (.iconst 2) 2),
  (6, eA (.if_icmp .gt 7) [13]),
  (9, eC (.iconst 1) 1),
  (10, eA (.goto 4) [14]),
  (13, eC (.iconst 0) 0),
  (14, eA (.ireturn) [])]
def hX3_isSort : Hd := (tX3_isSort, 3, false, 2)
def tX3_isMissing : List (Nat × En) := [(0, eA (.aload_n 0) [0]),
  (1, eA (.getfield 11) [3, 0, 229]),
  (4, eC (.iconst (-1)) (-1)),
  (5, eA (.if_icmp .ne 7) [12]),
  (8, eC (.iconst 1) 1),
  (9, eA (.goto 4) [13]),
  (12, eC (.iconst 0) 0),
  (13, eA (.ireturn) [])]
def hX3_isMissing : Hd := (tX3_isMissing, 3, false, 2)
def tX3_has : List (Nat × En) := [(0, eA (.iload_n 1) [1]),
  (1, eA (.ifCond .lt 15) [16]),
  (4, eA (.iload_n 1) [1]),
  (5, eA (.aload_n 0) [0]),
  (6, eA (.getfield 15) [3, 1, 231]),
  (9, eA (.if_icmp .ge 7) [16]),
  (12, eC (.iconst 1) 1),
  (13, eA (.goto 4) [17]),
  (16, eC (.iconst 0) 0),
  (17, eA (.ireturn) [])]
def hX3_has : Hd := (tX3_has, 3, false, 2)
def tX3_hasRun : List (Nat × En) := [(0, eA (.iload_n 1) [1]),
  (1, eA (.ifCond .lt 29) [30]),
  (4, eA (.iload_n 2) [2]),
  (5, eA (.ifCond .lt 25) [30]),
  (8, eA (.iload_n 1) [1]),
  (9, eA (.aload_n 0) [0]),
  (10, eA (.getfield 15) [3, 1, 231]),
  (13, eA (.if_icmp .gt 17) [30]),
  (16, eA (.iload_n 2) [2]),
  (17, eA (.aload_n 0) [0]),
  (18, eA (.getfield 15) [3, 1, 231]),
  (21, eA (.iload_n 1) [1]),
  (22, eA (.isub) []),
  (23, eA (.if_icmp .gt 7) [30]),
  (26, eC (.iconst 1) 1),
  (27, eA (.goto 4) [31]),
  (30, eC (.iconst 0) 0),
  (31, eA (.ireturn) [])]
def hX3_hasRun : Hd := (tX3_hasRun, 3, false, 2)
def tX3_becomes : List (Nat × En) := [(0, eA (.aload_n 0) [0]),
  (1, eA (.iload_n 1) [1]),
  (2, eA (.putfield 11) [3, 0, 229]),
  (5, eA (.aload_n 0) [0]),
  (6, eA (.iload_n 2) [2]),
  (7, eA (.putfield 15) [3, 1, 231]),
  (10, eC (.iconst 0) 0),
  (11, eA (.istore_n 3) [3]),
  (12, eA (.iload_n 3) [3]),
  (13, eC (.bipush 40) 40),
  (15, eA (.if_icmp .ge 16) [31]),
  (18, eA (.aload_n 0) [0]),
  (19, eA (.getfield 18) [3, 2, 233]),
  (22, eA (.iload_n 3) [3]),
  (23, eC (.iconst 0) 0),
  (24, eA (.iastore) []),
  (25, (.iinc 3 1, [3], 1, 0, [])),
  (28, eA (.goto (-16)) [12]),
  (31, eA (.return_) [])]
def hX3_becomes : Hd := (tX3_becomes, 3, false, 0)
def tX3_put : List (Nat × En) := [(0, eA (.aload_n 0) [0]),
  (1, eA (.getfield 11) [3, 0, 229]),
  (4, eA (.ifCond .ne 14) [18]),
  (7, eA (.aload_n 0) [0]),
  (8, eA (.getfield 18) [3, 2, 233]),
  (11, eA (.iload_n 1) [1]),
  (12, eA (.iload_n 2) [2]),
  (13, eA (.i2b) []),
  (14, eA (.iastore) []),
  (15, eA (.goto 23) [38]),
  (18, eA (.aload_n 0) [0]),
  (19, eA (.getfield 18) [3, 2, 233]),
  (22, eA (.iload_n 1) [1]),
  (23, eA (.aload_n 0) [0]),
  (24, eA (.getfield 11) [3, 0, 229]),
  (27, eC (.iconst 1) 1),
  (28, eA (.if_icmp .ne 8) [36]),
  (31, eA (.iload_n 2) [2]),
  (32, eA (.i2s) []),
  (33, eA (.goto 4) [37]),
  (36, eA (.iload_n 2) [2]),
  (37, eA (.iastore) []),
  (38, eA (.return_) [])]
def hX3_put : Hd := (tX3_put, 3, false, 0)
def tX3_all : List (Nat × En) := [(0, eA (.aload_n 0) [0]),
  (1, eA (.getfield 18) [3, 2, 233]),
  (4, eC (.iconst 0) 0),
  (5, eA (.aload_n 0) [0]),
  (6, eA (.getfield 15) [3, 1, 231]),
  (9, eA (.invokestatic 22) [0, 109, 3, 0, 0]),
  (12, eA (.ireturn) [])]
def hX3_all : Hd := (tX3_all, 3, false, 1)
def tX4_init : List (Nat × En) := [(0, eA (.aload_n 0) [0]),
  (1, eA (.invokespecial 3) [1, 5, 216]),
  (4, eA (.aload_n 0) [0]),
  (5, eC (.sipush 160) 160),
  (8, eA (.newarray .int) [1]),
  (10, eA (.putfield 9) [4, 0, 217]),
  (13, eA (.aload_n 0) [0]),
  (14, eC (.iconst 4) 4),
  (15, eA (.newarray .int) [1]),
  (17, eA (.putfield 15) [4, 1, 218]),
  (20, eA (.return_) [])]
def hX4_init : Hd := (tX4_init, 4, true, 0)
def tX4_becomes : List (Nat × En) := [(0, eA (.aload_n 1) [1]),
  (1, eC (.iconst 0) 0),
  (2, eA (.aload_n 0) [0]),
  (3, eA (.getfield 9) [4, 0, 217]),
  (6, eC (.iconst 0) 0),
  (7, eC (.sipush 160) 160),
  (10, eA (.invokestatic 18) [1, 4, 373]),
  (13, eA (.aload_n 2) [2]),
  (14, eC (.iconst 0) 0),
  (15, eA (.aload_n 0) [0]),
  (16, eA (.getfield 15) [4, 1, 218]),
  (19, eC (.iconst 0) 0),
  (20, eC (.iconst 4) 4),
  (21, eA (.invokestatic 18) [1, 4, 373]),
  (24, eA (.return_) [])]
def hX4_becomes : Hd := (tX4_becomes, 4, false, 0)
def tX4_value : List (Nat × En) := [(0, eC (.iconst 0) 0),
  (1, eA (.istore 4) [4]),
  (3, eA (.aload_n 0) [0]),
  (4, eA (.getfield 15) [4, 1, 218]),
  (7, eA (.iload_n 1) [1]),
  (8, eA (.iaload) []),
  (9, eA (.istore 5) [5]),
  (11, eA (.iload 5) [5]),
  (13, eA (.aload_n 0) [0]),
  (14, eA (.getfield 15) [4, 1, 218]),
  (17, eA (.iload_n 1) [1]),
  (18, eC (.iconst 1) 1),
  (19, eA (.iadd) []),
  (20, eA (.iaload) []),
  (21, eA (.if_icmp .ge 164) [185]),
  (24, eA (.iload 5) [5]),
  (26, eA (.aload_n 0) [0]),
  (27, eA (.getfield 9) [4, 0, 217]),
  (30, eA (.arraylength) []),
  (31, eA (.if_icmp .ge 154) [185]),
  (34, eA (.aload_n 0) [0]),
  (35, eA (.getfield 9) [4, 0, 217]),
  (38, eA (.iload 5) [5]),
  (40, eA (.iaload) []),
  (41, eA (.istore 6) [6]),
  (43, eA (.iload 6) [6]),
  (45, eC (.bipush (-7)) (-7)),
  (47, eA (.if_icmp .le 36) [83]),
  (50, eA (.iload 4) [4]),
  (52, eA (.aload_n 3) [3]),
  (53, eA (.arraylength) []),
  (54, eA (.if_icmp .ge 29) [83]),
  (57, eA (.aload_n 3) [3]),
  (58, eA (.iload 4) [4]),
  (60, eA (.iload 6) [6]),
  (62, eA (.ifCond .lt 8) [70]),
  (65, eA (.iload 6) [6]),
  (67, eA (.goto 9) [76]),
  (70, eA (.aload_n 2) [2]),
  (71, eC (.iconst (-1)) (-1)),
  (72, eA (.iload 6) [6]),
  (74, eA (.isub) []),
  (75, eA (.iaload) []),
  (76, eA (.iastore) []),
  (77, (.iinc 4 1, [4], 1, 0, [])),
  (80, eA (.goto 99) [179]),
  (83, eA (.iload 6) [6]),
  (85, eC (.bipush (-7)) (-7)),
  (87, eA (.if_icmp .gt 55) [142]),
  (90, eA (.iload 6) [6]),
  (92, eC (.bipush (-8)) (-8)),
  (94, eA (.if_icmp .lt 48) [142]),
  (97, eA (.iload 4) [4]),
  (99, eA (.ifCond .le 43) [142]),
  (102, eA (.aload_n 3) [3]),
  (103, eA (.iload 4) [4]),
  (105, eC (.iconst 1) 1),
  (106, eA (.isub) []),
  (107, eA (.iload 6) [6]),
  (109, eC (.bipush (-8)) (-8)),
  (111, eA (.if_icmp .ne 13) [124]),
  (114, eA (.aload_n 3) [3]),
  (115, eA (.iload 4) [4]),
  (117, eC (.iconst 1) 1),
  (118, eA (.isub) []),
  (119, eA (.iaload) []),
  (120, eA (.ineg) []),
  (121, eA (.goto 17) [138]),
  (124, eA (.aload_n 3) [3]),
  (125, eA (.iload 4) [4]),
  (127, eC (.iconst 1) 1),
  (128, eA (.isub) []),
  (129, eA (.iaload) []),
  (130, eA (.ifCond .ne 7) [137]),
  (133, eC (.iconst 1) 1),
  (134, eA (.goto 4) [138]),
  (137, eC (.iconst 0) 0),
  (138, eA (.iastore) []),
  (139, eA (.goto 40) [179]),
  (142, eA (.iload 6) [6]),
  (144, eC (.bipush (-8)) (-8)),
  (146, eA (.if_icmp .ge 33) [179]),
  (149, eA (.iload 4) [4]),
  (151, eC (.iconst 1) 1),
  (152, eA (.if_icmp .le 27) [179]),
  (155, (.iinc 4 (-1), [4], (-1), 0, [])),
  (158, eA (.aload_n 3) [3]),
  (159, eA (.iload 4) [4]),
  (161, eC (.iconst 1) 1),
  (162, eA (.isub) []),
  (163, eA (.iload 6) [6]),
  (165, eA (.aload_n 3) [3]),
  (166, eA (.iload 4) [4]),
  (168, eC (.iconst 1) 1),
  (169, eA (.isub) []),
  (170, eA (.iaload) []),
  (171, eA (.aload_n 3) [3]),
  (172, eA (.iload 4) [4]),
  (174, eA (.iaload) []),
  (175, eA (.invokestatic 24) [0, 39, 3, 0, 481]),
  (178, eA (.iastore) []),
  (179, (.iinc 5 1, [5], 1, 0, [])),
  (182, eA (.goto (-171)) [11]),
  (185, eA (.iload 4) [4]),
  (187, eA (.ifCond .le 9) [196]),
  (190, eA (.aload_n 3) [3]),
  (191, eC (.iconst 0) 0),
  (192, eA (.iaload) []),
  (193, eA (.goto 4) [197]),
  (196, eC (.iconst 0) 0),
  (197, eA (.ireturn) [])]
def hX4_value : Hd := (tX4_value, 4, false, 1)
def tX4_joined : List (Nat × En) := [(0, eA (.iload_n 0) [0]),
  (1, (.tableswitch 97 (-14) (-9) #[93, 89, 78, 67, 53, 39], [98], 0, 0, [((-14), 94), ((-13), 90), ((-12), 79), ((-11), 68), ((-10), 54), ((-9), 40)])),
  (40, eA (.iload_n 1) [1]),
  (41, eA (.ifCond .ne 7) [48]),
  (44, eA (.iload_n 2) [2]),
  (45, eA (.ifCond .eq 7) [52]),
  (48, eC (.iconst 1) 1),
  (49, eA (.goto 4) [53]),
  (52, eC (.iconst 0) 0),
  (53, eA (.ireturn) []),
  (54, eA (.iload_n 1) [1]),
  (55, eA (.ifCond .eq 11) [66]),
  (58, eA (.iload_n 2) [2]),
  (59, eA (.ifCond .eq 7) [66]),
  (62, eC (.iconst 1) 1),
  (63, eA (.goto 4) [67]),
  (66, eC (.iconst 0) 0),
  (67, eA (.ireturn) []),
  (68, eA (.iload_n 1) [1]),
  (69, eA (.iload_n 2) [2]),
  (70, eA (.if_icmp .ge 7) [77]),
  (73, eC (.iconst 1) 1),
  (74, eA (.goto 4) [78]),
  (77, eC (.iconst 0) 0),
  (78, eA (.ireturn) []),
  (79, eA (.iload_n 1) [1]),
  (80, eA (.iload_n 2) [2]),
  (81, eA (.if_icmp .ne 7) [88]),
  (84, eC (.iconst 1) 1),
  (85, eA (.goto 4) [89]),
  (88, eC (.iconst 0) 0),
  (89, eA (.ireturn) []),
  (90, eA (.iload_n 1) [1]),
  (91, eA (.iload_n 2) [2]),
  (92, eA (.iadd) []),
  (93, eA (.ireturn) []),
  (94, eA (.iload_n 1) [1]),
  (95, eA (.iload_n 2) [2]),
  (96, eA (.isub) []),
  (97, eA (.ireturn) []),
  (98, eA (.iload_n 1) [1]),
  (99, eA (.iload_n 2) [2]),
  (100, eA (.imul) []),
  (101, eA (.ireturn) [])]
def hX4_joined : Hd := (tX4_joined, 4, false, 1)
def tX5_init : List (Nat × En) := [(0, eA (.aload_n 0) [0]),
  (1, eA (.invokespecial 3) [1, 5, 99]),
  (4, eA (.aload_n 0) [0]),
  (5, eC (.iconst 0) 0),
  (6, eA (.putfield 9) [5, 0, 100]),
  (9, eA (.aload_n 0) [0]),
  (10, eC (.iconst 0) 0),
  (11, eA (.putfield 15) [5, 1, 102]),
  (14, eA (.aload_n 0) [0]),
  (15, eC (.iconst 0) 0),
  (16, eA (.putfield 18) [5, 2, 104]),
  (19, eA (.aload_n 0) [0]),
  (20, eC (.bipush 36) 36),
  (22, eA (.newarray .int) [1]),
  (24, eA (.putfield 21) [5, 3, 106]),
  (27, eA (.aload_n 0) [0]),
  (28, eC (.bipush 30) 30),
  (30, eA (.newarray .int) [1]),
  (32, eA (.putfield 25) [5, 4, 108]),
  (35, eA (.aload_n 0) [0]),
  (36, eC (.iconst 5) 5),
  (37, eA (.newarray .int) [1]),
  (39, eA (.putfield 28) [5, 5, 110]),
  (42, eA (.aload_n 0) [0]),
  (43, eC (.iconst 5) 5),
  (44, eA (.newarray .int) [1]),
  (46, eA (.putfield 31) [5, 6, 112]),
  (49, eA (.aload_n 0) [0]),
  (50, eC (.iconst 5) 5),
  (51, eA (.newarray .int) [1]),
  (53, eA (.putfield 34) [5, 7, 114]),
  (56, eA (.return_) [])]
def hX5_init : Hd := (tX5_init, 5, true, 0)
def tX5_has : List (Nat × En) := [(0, eA (.iload_n 1) [1]),
  (1, eA (.ifCond .lt 15) [16]),
  (4, eA (.iload_n 1) [1]),
  (5, eA (.aload_n 0) [0]),
  (6, eA (.getfield 18) [5, 2, 104]),
  (9, eA (.if_icmp .ge 7) [16]),
  (12, eC (.iconst 1) 1),
  (13, eA (.goto 4) [17]),
  (16, eC (.iconst 0) 0),
  (17, eA (.ireturn) [])]
def hX5_has : Hd := (tX5_has, 5, false, 2)
def tX5_comes : List (Nat × En) := [(0, eA (.aload_n 0) [0]),
  (1, eA (.getfield 18) [5, 2, 104]),
  (4, eC (.iconst 5) 5),
  (5, eA (.if_icmp .lt 6) [11]),
  (8, eC (.bipush (-4)) (-4)),
  (10, eA (.ireturn) []),
  (11, eA (.aload_n 0) [0]),
  (12, eA (.getfield 18) [5, 2, 104]),
  (15, eA (.istore_n 3) [3]),
  (16, eA (.aload_n 0) [0]),
  (17, eA (.getfield 28) [5, 5, 110]),
  (20, eA (.iload_n 3) [3]),
  (21, eA (.iload_n 1) [1]),
  (22, eA (.iastore) []),
  (23, eA (.aload_n 0) [0]),
  (24, eA (.getfield 31) [5, 6, 112]),
  (27, eA (.iload_n 3) [3]),
  (28, eA (.iload_n 2) [2]),
  (29, eA (.iastore) []),
  (30, eA (.aload_n 0) [0]),
  (31, eA (.getfield 34) [5, 7, 114]),
  (34, eA (.iload_n 3) [3]),
  (35, eC (.iconst 0) 0),
  (36, eA (.iastore) []),
  (37, eC (.iconst 0) 0),
  (38, eA (.istore 4) [4]),
  (40, eA (.iload 4) [4]),
  (42, eC (.bipush 6) 6),
  (44, eA (.if_icmp .ge 22) [66]),
  (47, eA (.aload_n 0) [0]),
  (48, eA (.getfield 25) [5, 4, 108]),
  (51, eA (.iload_n 3) [3]),
  (52, eC (.bipush 6) 6),
  (54, eA (.imul) []),
  (55, eA (.iload 4) [4]),
  (57, eA (.iadd) []),
  (58, eC (.iconst 0) 0),
  (59, eA (.iastore) []),
  (60, (.iinc 4 1, [4], 1, 0, [])),
  (63, eA (.goto (-23)) [40]),
  (66, eA (.aload_n 0) [0]),
  (67, eA (.dup) []),
  (68, eA (.getfield 18) [5, 2, 104]),
  (71, eC (.iconst 1) 1),
  (72, eA (.iadd) []),
  (73, eA (.putfield 18) [5, 2, 104]),
  (76, eA (.iload_n 3) [3]),
  (77, eA (.ireturn) [])]
def hX5_comes : Hd := (tX5_comes, 5, false, 1)
def tX5_becomes : List (Nat × En) := [(0, eA (.aload_n 0) [0]),
  (1, eA (.aload_n 1) [1]),
  (2, eA (.getfield 9) [5, 0, 100]),
  (5, eA (.putfield 9) [5, 0, 100]),
  (8, eA (.aload_n 0) [0]),
  (9, eA (.aload_n 1) [1]),
  (10, eA (.getfield 15) [5, 1, 102]),
  (13, eA (.putfield 15) [5, 1, 102]),
  (16, eA (.aload_n 0) [0]),
  (17, eA (.aload_n 1) [1]),
  (18, eA (.getfield 18) [5, 2, 104]),
  (21, eA (.putfield 18) [5, 2, 104]),
  (24, eA (.aload_n 1) [1]),
  (25, eA (.getfield 21) [5, 3, 106]),
  (28, eC (.iconst 0) 0),
  (29, eA (.aload_n 0) [0]),
  (30, eA (.getfield 21) [5, 3, 106]),
  (33, eC (.iconst 0) 0),
  (34, eA (.aload_n 0) [0]),
  (35, eA (.getfield 21) [5, 3, 106]),
  (38, eA (.arraylength) []),
  (39, eA (.invokestatic 37) [1, 4, 721]),
  (42, eA (.aload_n 1) [1]),
  (43, eA (.getfield 25) [5, 4, 108]),
  (46, eC (.iconst 0) 0),
  (47, eA (.aload_n 0) [0]),
  (48, eA (.getfield 25) [5, 4, 108]),
  (51, eC (.iconst 0) 0),
  (52, eA (.aload_n 0) [0]),
  (53, eA (.getfield 25) [5, 4, 108]),
  (56, eA (.arraylength) []),
  (57, eA (.invokestatic 37) [1, 4, 721]),
  (60, eA (.aload_n 1) [1]),
  (61, eA (.getfield 28) [5, 5, 110]),
  (64, eC (.iconst 0) 0),
  (65, eA (.aload_n 0) [0]),
  (66, eA (.getfield 28) [5, 5, 110]),
  (69, eC (.iconst 0) 0),
  (70, eA (.aload_n 0) [0]),
  (71, eA (.getfield 28) [5, 5, 110]),
  (74, eA (.arraylength) []),
  (75, eA (.invokestatic 37) [1, 4, 721]),
  (78, eA (.aload_n 1) [1]),
  (79, eA (.getfield 31) [5, 6, 112]),
  (82, eC (.iconst 0) 0),
  (83, eA (.aload_n 0) [0]),
  (84, eA (.getfield 31) [5, 6, 112]),
  (87, eC (.iconst 0) 0),
  (88, eA (.aload_n 0) [0]),
  (89, eA (.getfield 31) [5, 6, 112]),
  (92, eA (.arraylength) []),
  (93, eA (.invokestatic 37) [1, 4, 721]),
  (96, eA (.aload_n 1) [1]),
  (97, eA (.getfield 34) [5, 7, 114]),
  (100, eC (.iconst 0) 0),
  (101, eA (.aload_n 0) [0]),
  (102, eA (.getfield 34) [5, 7, 114]),
  (105, eC (.iconst 0) 0),
  (106, eA (.aload_n 0) [0]),
  (107, eA (.getfield 34) [5, 7, 114]),
  (110, eA (.arraylength) []),
  (111, eA (.invokestatic 37) [1, 4, 721]),
  (114, eA (.return_) [])]
def hX5_becomes : Hd := (tX5_becomes, 5, false, 0)
def tX5_allOnCoast : List (Nat × En) := [(0, eA (.aload_n 0) [0]),
  (1, eA (.getfield 21) [5, 3, 106]),
  (4, eA (.iload_n 1) [1]),
  (5, eC (.bipush 6) 6),
  (7, eA (.imul) []),
  (8, eC (.bipush 6) 6),
  (10, eA (.invokestatic 43) [0, 109, 3, 0, 0]),
  (13, eA (.ireturn) [])]
def hX5_allOnCoast : Hd := (tX5_allOnCoast, 5, false, 1)
def tX5_allInShoe : List (Nat × En) := [(0, eA (.aload_n 0) [0]),
  (1, eA (.getfield 25) [5, 4, 108]),
  (4, eA (.iload_n 1) [1]),
  (5, eC (.bipush 6) 6),
  (7, eA (.imul) []),
  (8, eC (.bipush 6) 6),
  (10, eA (.invokestatic 43) [0, 109, 3, 0, 0]),
  (13, eA (.ireturn) [])]
def hX5_allInShoe : Hd := (tX5_allInShoe, 5, false, 1)
def tX5_allInShoes : List (Nat × En) := [(0, eA (.aload_n 0) [0]),
  (1, eA (.getfield 25) [5, 4, 108]),
  (4, eC (.iconst 0) 0),
  (5, eA (.aload_n 0) [0]),
  (6, eA (.getfield 18) [5, 2, 104]),
  (9, eC (.bipush 6) 6),
  (11, eA (.imul) []),
  (12, eA (.invokestatic 43) [0, 109, 3, 0, 0]),
  (15, eA (.ireturn) [])]
def hX5_allInShoes : Hd := (tX5_allInShoes, 5, false, 1)
def tX5_apart : List (Nat × En) := [(0, eC (.iconst 0) 0),
  (1, eA (.istore_n 3) [3]),
  (2, eC (.iconst 0) 0),
  (3, eA (.istore 4) [4]),
  (5, eA (.iload 4) [4]),
  (7, eC (.bipush 6) 6),
  (9, eA (.if_icmp .ge 40) [49]),
  (12, eA (.iload_n 3) [3]),
  (13, eA (.aload_n 0) [0]),
  (14, eA (.getfield 25) [5, 4, 108]),
  (17, eA (.iload_n 1) [1]),
  (18, eC (.bipush 6) 6),
  (20, eA (.imul) []),
  (21, eA (.iload 4) [4]),
  (23, eA (.iadd) []),
  (24, eA (.iaload) []),
  (25, eA (.aload_n 0) [0]),
  (26, eA (.getfield 25) [5, 4, 108]),
  (29, eA (.iload_n 2) [2]),
  (30, eC (.bipush 6) 6),
  (32, eA (.imul) []),
  (33, eA (.iload 4) [4]),
  (35, eA (.iadd) []),
  (36, eA (.iaload) []),
  (37, eA (.isub) []),
  (38, eA (.invokestatic 47) [1, 3, 543]),
  (41, eA (.iadd) []),
  (42, eA (.istore_n 3) [3]),
  (43, (.iinc 4 1, [4], 1, 0, [])),
  (46, eA (.goto (-41)) [5]),
  (49, eA (.iload_n 3) [3]),
  (50, eA (.ireturn) [])]
def hX5_apart : Hd := (tX5_apart, 5, false, 1)
def tX5_oddest : List (Nat × En) := [(0, eC (.iconst (-1)) (-1)),
  (1, eA (.istore_n 2) [2]),
  (2, eC (.iconst (-1)) (-1)),
  (3, eA (.istore_n 3) [3]),
  (4, eC (.iconst 0) 0),
  (5, eA (.istore 4) [4]),
  (7, eA (.iload 4) [4]),
  (9, eA (.aload_n 0) [0]),
  (10, eA (.getfield 18) [5, 2, 104]),
  (13, eA (.if_icmp .ge 37) [50]),
  (16, eA (.iload 4) [4]),
  (18, eA (.iload_n 1) [1]),
  (19, eA (.if_icmp .eq 25) [44]),
  (22, eA (.aload_n 0) [0]),
  (23, eA (.iload_n 1) [1]),
  (24, eA (.iload 4) [4]),
  (26, eA (.invokevirtual 53) [0, 47, 2, 5, 563]),
  (29, eA (.iload_n 3) [3]),
  (30, eA (.if_icmp .le 14) [44]),
  (33, eA (.iload 4) [4]),
  (35, eA (.istore_n 2) [2]),
  (36, eA (.aload_n 0) [0]),
  (37, eA (.iload_n 1) [1]),
  (38, eA (.iload 4) [4]),
  (40, eA (.invokevirtual 53) [0, 47, 2, 5, 563]),
  (43, eA (.istore_n 3) [3]),
  (44, (.iinc 4 1, [4], 1, 0, [])),
  (47, eA (.goto (-40)) [7]),
  (50, eA (.iload_n 2) [2]),
  (51, eA (.ireturn) [])]
def hX5_oddest : Hd := (tX5_oddest, 5, false, 1)
def tX5_poorest : List (Nat × En) := [(0, eC (.iconst 0) 0),
  (1, eA (.istore_n 1) [1]),
  (2, eC (.iconst 1) 1),
  (3, eA (.istore_n 2) [2]),
  (4, eA (.iload_n 2) [2]),
  (5, eC (.bipush 6) 6),
  (7, eA (.if_icmp .ge 24) [31]),
  (10, eA (.aload_n 0) [0]),
  (11, eA (.iload_n 2) [2]),
  (12, eA (.invokevirtual 57) [0, 44, 1, 5, 558]),
  (15, eA (.aload_n 0) [0]),
  (16, eA (.iload_n 1) [1]),
  (17, eA (.invokevirtual 57) [0, 44, 1, 5, 558]),
  (20, eA (.if_icmp .ge 5) [25]),
  (23, eA (.iload_n 2) [2]),
  (24, eA (.istore_n 1) [1]),
  (25, (.iinc 2 1, [2], 1, 0, [])),
  (28, eA (.goto (-24)) [4]),
  (31, eA (.iload_n 1) [1]),
  (32, eA (.ireturn) [])]
def hX5_poorest : Hd := (tX5_poorest, 5, false, 1)
def tX6_init : List (Nat × En) := [(0, eA (.aload_n 0) [0]),
  (1, eA (.invokespecial 1) [1, 5, 91]),
  (4, eA (.aload_n 0) [0]),
  (5, eA (.new 7) [5, 94]),
  (8, eA (.dup) []),
  (9, eA (.invokespecial 9) [0, 40, 0, 5, 0]),
  (12, eA (.putfield 10) [6, 0, 376]),
  (15, eA (.aload_n 0) [0]),
  (16, eA (.new 7) [5, 94]),
  (19, eA (.dup) []),
  (20, eA (.invokespecial 9) [0, 40, 0, 5, 0]),
  (23, eA (.putfield 16) [6, 1, 377]),
  (26, eA (.aload_n 0) [0]),
  (27, eC (.iconst 0) 0),
  (28, eA (.putfield 19) [6, 2, 378]),
  (31, eA (.aload_n 0) [0]),
  (32, eA (.new 23) [2, 134]),
  (35, eA (.dup) []),
  (36, eA (.invokespecial 25) [0, 12, 0, 2, 0]),
  (39, eA (.putfield 26) [6, 3, 379]),
  (42, eA (.aload_n 0) [0]),
  (43, eC (.bipush 6) 6),
  (45, eA (.anewarray 30) [4, 171]),
  (48, eA (.putfield 32) [6, 4, 380]),
  (51, eA (.aload_n 0) [0]),
  (52, eC (.iconst 0) 0),
  (53, eA (.putfield 36) [6, 5, 381]),
  (56, eA (.aload_n 0) [0]),
  (57, eC (.iconst 4) 4),
  (58, eA (.anewarray 40) [3, 173]),
  (61, eA (.putfield 42) [6, 6, 382]),
  (64, eA (.aload_n 0) [0]),
  (65, eA (.new 46) [1, 175]),
  (68, eA (.dup) []),
  (69, eA (.invokespecial 48) [0, 0, 0, 1, 0]),
  (72, eA (.putfield 49) [6, 7, 383]),
  (75, eA (.aload_n 0) [0]),
  (76, eC (.bipush 6) 6),
  (78, eA (.newarray .int) [1]),
  (80, eA (.putfield 53) [6, 8, 384]),
  (83, eA (.aload_n 0) [0]),
  (84, eC (.sipush 160) 160),
  (87, eA (.newarray .int) [1]),
  (89, eA (.putfield 57) [6, 9, 385]),
  (92, eA (.aload_n 0) [0]),
  (93, eC (.bipush 36) 36),
  (95, eA (.newarray .int) [1]),
  (97, eA (.putfield 60) [6, 10, 386]),
  (100, eA (.aload_n 0) [0]),
  (101, eC (.bipush 6) 6),
  (103, eA (.newarray .int) [1]),
  (105, eA (.putfield 63) [6, 11, 387]),
  (108, eC (.iconst 0) 0),
  (109, eA (.istore_n 1) [1]),
  (110, eA (.iload_n 1) [1]),
  (111, eC (.bipush 6) 6),
  (113, eA (.if_icmp .ge 22) [135]),
  (116, eA (.aload_n 0) [0]),
  (117, eA (.getfield 32) [6, 4, 380]),
  (120, eA (.iload_n 1) [1]),
  (121, eA (.new 30) [4, 171]),
  (124, eA (.dup) []),
  (125, eA (.invokespecial 66) [0, 36, 0, 4, 0]),
  (128, eA (.aastore) []),
  (129, (.iinc 1 1, [1], 1, 0, [])),
  (132, eA (.goto (-22)) [110]),
  (135, eC (.iconst 0) 0),
  (136, eA (.istore_n 1) [1]),
  (137, eA (.iload_n 1) [1]),
  (138, eC (.iconst 4) 4),
  (139, eA (.if_icmp .ge 22) [161]),
  (142, eA (.aload_n 0) [0]),
  (143, eA (.getfield 42) [6, 6, 382]),
  (146, eA (.iload_n 1) [1]),
  (147, eA (.new 40) [3, 173]),
  (150, eA (.dup) []),
  (151, eA (.invokespecial 67) [0, 28, 0, 3, 0]),
  (154, eA (.aastore) []),
  (155, (.iinc 1 1, [1], 1, 0, [])),
  (158, eA (.goto (-21)) [137]),
  (161, eC (.iconst 0) 0),
  (162, eA (.istore_n 1) [1]),
  (163, eA (.iload_n 1) [1]),
  (164, (.ldc 68, [0, 0], 0, 0, [])),
  (166, eA (.invokevirtual 70) [1, 6, 243]),
  (169, eA (.if_icmp .ge 20) [189]),
  (172, eA (.aload_n 0) [0]),
  (173, (.ldc 68, [0, 0], 0, 0, [])),
  (175, eA (.iload_n 1) [1]),
  (176, eA (.invokevirtual 76) [1, 7, 253]),
  (179, eA (.invokevirtual 80) [0, 55, 1, 6, 291]),
  (182, eA (.pop) []),
  (183, (.iinc 1 1, [1], 1, 0, [])),
  (186, eA (.goto (-23)) [163]),
  (189, eA (.aload_n 0) [0]),
  (190, eA (.invokevirtual 84) [0, 56, 0, 6, 299]),
  (193, eA (.pop) []),
  (194, eA (.return_) [])]
def hX6_init : Hd := (tX6_init, 6, true, 0)
def tX6_set : List (Nat × En) := [(0, eA (.iload_n 1) [1]),
  (1, eA (.ifCond .lt 8) [9]),
  (4, eA (.iload_n 1) [1]),
  (5, eC (.iconst 3) 3),
  (6, eA (.if_icmp .le 6) [12]),
  (9, eC (.bipush (-2)) (-2)),
  (11, eA (.ireturn) []),
  (12, eA (.aload_n 0) [0]),
  (13, eA (.iload_n 2) [2]),
  (14, eA (.iload_n 1) [1]),
  (15, eA (.invokevirtual 87) [0, 53, 2, 6, 418]),
  (18, eA (.istore 4) [4]),
  (20, eA (.iload 4) [4]),
  (22, eC (.bipush (-2)) (-2)),
  (24, eA (.if_icmp .eq 15) [39]),
  (27, eA (.iload_n 3) [3]),
  (28, eA (.ifCond .lt 11) [39]),
  (31, eA (.iload_n 3) [3]),
  (32, eA (.iload_n 1) [1]),
  (33, eA (.invokestatic 91) [0, 87, 1, 0, 446]),
  (36, eA (.if_icmp .le 6) [42]),
  (39, eC (.bipush (-2)) (-2)),
  (41, eA (.ireturn) []),
  (42, eA (.iload_n 1) [1]),
  (43, (.tableswitch 65 0 2 #[25, 36, 52], [108], 0, 0, [(0, 68), (1, 79), (2, 95)])),
  (68, eA (.aload_n 0) [0]),
  (69, eA (.getfield 10) [6, 0, 376]),
  (72, eA (.iload_n 3) [3]),
  (73, eA (.putfield 94) [5, 0, 101]),
  (76, eA (.goto 45) [121]),
  (79, eA (.aload_n 0) [0]),
  (80, eA (.getfield 10) [6, 0, 376]),
  (83, eA (.getfield 97) [5, 3, 107]),
  (86, eA (.iload_n 2) [2]),
  (87, eA (.invokestatic 100) [0, 86, 1, 0, 425]),
  (90, eA (.iload_n 3) [3]),
  (91, eA (.iastore) []),
  (92, eA (.goto 29) [121]),
  (95, eA (.aload_n 0) [0]),
  (96, eA (.getfield 10) [6, 0, 376]),
  (99, eA (.getfield 103) [5, 6, 113]),
  (102, eA (.iload_n 2) [2]),
  (103, eA (.iload_n 3) [3]),
  (104, eA (.iastore) []),
  (105, eA (.goto 16) [121]),
  (108, eA (.aload_n 0) [0]),
  (109, eA (.getfield 10) [6, 0, 376]),
  (112, eA (.getfield 106) [5, 4, 109]),
  (115, eA (.iload_n 2) [2]),
  (116, eA (.invokestatic 100) [0, 86, 1, 0, 425]),
  (119, eA (.iload_n 3) [3]),
  (120, eA (.iastore) []),
  (121, eA (.iload 4) [4]),
  (123, eA (.ireturn) [])]
def hX6_set : Hd := (tX6_set, 6, false, 1)
def tX6_person : List (Nat × En) := [(0, eA (.iload_n 1) [1]),
  (1, eA (.ifCond .lt 19) [20]),
  (4, eA (.iload_n 1) [1]),
  (5, eC (.bipush 6) 6),
  (7, eA (.if_icmp .ge 13) [20]),
  (10, eA (.iload_n 2) [2]),
  (11, eA (.ifCond .lt 9) [20]),
  (14, eA (.iload_n 2) [2]),
  (15, eC (.bipush 10) 10),
  (17, eA (.if_icmp .lt 6) [23]),
  (20, eC (.bipush (-2)) (-2)),
  (22, eA (.ireturn) []),
  (23, eA (.aload_n 0) [0]),
  (24, eA (.getfield 10) [6, 0, 376]),
  (27, eA (.iload_n 1) [1]),
  (28, eA (.iload_n 2) [2]),
  (29, eA (.invokevirtual 109) [0, 42, 2, 5, 453]),
  (32, eA (.ireturn) [])]
def hX6_person : Hd := (tX6_person, 6, false, 1)
def tX6_told : List (Nat × En) := [(0, eA (.iload_n 2) [2]),
  (1, (.tableswitch 238 0 7 #[47, 55, 82, 108, 140, 166, 192, 217], [239], 0, 0, [(0, 48), (1, 56), (2, 83), (3, 109), (4, 141), (5, 167), (6, 193), (7, 218)])),
  (48, eA (.aload_n 0) [0]),
  (49, eA (.getfield 10) [6, 0, 376]),
  (52, eA (.getfield 94) [5, 0, 101]),
  (55, eA (.ireturn) []),
  (56, eA (.iload_n 1) [1]),
  (57, eC (.bipush 6) 6),
  (59, eA (.invokestatic 112) [0, 85, 2, 0, 422]),
  (62, eA (.ifCond .eq 18) [80]),
  (65, eA (.aload_n 0) [0]),
  (66, eA (.getfield 10) [6, 0, 376]),
  (69, eA (.getfield 97) [5, 3, 107]),
  (72, eA (.iload_n 1) [1]),
  (73, eA (.invokestatic 100) [0, 86, 1, 0, 425]),
  (76, eA (.iaload) []),
  (77, eA (.goto 5) [82]),
  (80, eC (.bipush (-2)) (-2)),
  (82, eA (.ireturn) []),
  (83, eA (.aload_n 0) [0]),
  (84, eA (.getfield 10) [6, 0, 376]),
  (87, eA (.iload_n 1) [1]),
  (88, eA (.invokevirtual 116) [0, 41, 1, 5, 428]),
  (91, eA (.ifCond .eq 15) [106]),
  (94, eA (.aload_n 0) [0]),
  (95, eA (.getfield 10) [6, 0, 376]),
  (98, eA (.getfield 103) [5, 6, 113]),
  (101, eA (.iload_n 1) [1]),
  (102, eA (.iaload) []),
  (103, eA (.goto 5) [108]),
  (106, eC (.bipush (-2)) (-2)),
  (108, eA (.ireturn) []),
  (109, eA (.iload_n 1) [1]),
  (110, eA (.aload_n 0) [0]),
  (111, eA (.getfield 10) [6, 0, 376]),
  (114, eA (.getfield 120) [5, 2, 105]),
  (117, eA (.invokestatic 112) [0, 85, 2, 0, 422]),
  (120, eA (.ifCond .eq 18) [138]),
  (123, eA (.aload_n 0) [0]),
  (124, eA (.getfield 10) [6, 0, 376]),
  (127, eA (.getfield 106) [5, 4, 109]),
  (130, eA (.iload_n 1) [1]),
  (131, eA (.invokestatic 100) [0, 86, 1, 0, 425]),
  (134, eA (.iaload) []),
  (135, eA (.goto 5) [140]),
  (138, eC (.bipush (-2)) (-2)),
  (140, eA (.ireturn) []),
  (141, eA (.aload_n 0) [0]),
  (142, eA (.getfield 10) [6, 0, 376]),
  (145, eA (.iload_n 1) [1]),
  (146, eA (.invokevirtual 116) [0, 41, 1, 5, 428]),
  (149, eA (.ifCond .eq 15) [164]),
  (152, eA (.aload_n 0) [0]),
  (153, eA (.getfield 10) [6, 0, 376]),
  (156, eA (.getfield 123) [5, 5, 111]),
  (159, eA (.iload_n 1) [1]),
  (160, eA (.iaload) []),
  (161, eA (.goto 5) [166]),
  (164, eC (.bipush (-2)) (-2)),
  (166, eA (.ireturn) []),
  (167, eA (.aload_n 0) [0]),
  (168, eA (.getfield 10) [6, 0, 376]),
  (171, eA (.iload_n 1) [1]),
  (172, eA (.invokevirtual 116) [0, 41, 1, 5, 428]),
  (175, eA (.ifCond .eq 15) [190]),
  (178, eA (.aload_n 0) [0]),
  (179, eA (.getfield 10) [6, 0, 376]),
  (182, eA (.getfield 126) [5, 7, 115]),
  (185, eA (.iload_n 1) [1]),
  (186, eA (.iaload) []),
  (187, eA (.goto 5) [192]),
  (190, eC (.bipush (-2)) (-2)),
  (192, eA (.ireturn) []),
  (193, eA (.aload_n 0) [0]),
  (194, eA (.getfield 10) [6, 0, 376]),
  (197, eA (.iload_n 1) [1]),
  (198, eA (.invokevirtual 116) [0, 41, 1, 5, 428]),
  (201, eA (.ifCond .eq 14) [215]),
  (204, eA (.aload_n 0) [0]),
  (205, eA (.getfield 10) [6, 0, 376]),
  (208, eA (.iload_n 1) [1]),
  (209, eA (.invokevirtual 129) [0, 45, 1, 5, 432]),
  (212, eA (.goto 5) [217]),
  (215, eC (.bipush (-2)) (-2)),
  (217, eA (.ireturn) []),
  (218, eA (.iload_n 1) [1]),
  (219, eA (.invokestatic 132) [0, 80, 1, 0, 439]),
  (222, eA (.ifCond .eq 14) [236]),
  (225, eA (.aload_n 0) [0]),
  (226, eA (.getfield 10) [6, 0, 376]),
  (229, eA (.iload_n 1) [1]),
  (230, eA (.invokevirtual 135) [0, 44, 1, 5, 442]),
  (233, eA (.goto 5) [238]),
  (236, eC (.bipush (-2)) (-2)),
  (238, eA (.ireturn) []),
  (239, eC (.bipush (-2)) (-2)),
  (241, eA (.ireturn) [])]
def hX6_told : Hd := (tX6_told, 6, false, 1)
def tX6_asks : List (Nat × En) := [(0, eA (.aload_n 0) [0]),
  (1, eA (.getfield 10) [6, 0, 376]),
  (4, eA (.iload_n 1) [1]),
  (5, eA (.invokevirtual 116) [0, 41, 1, 5, 428]),
  (8, eA (.ifCond .eq 20) [28]),
  (11, eA (.iload_n 2) [2]),
  (12, eA (.invokestatic 138) [0, 81, 1, 0, 462]),
  (15, eA (.ifCond .eq 13) [28]),
  (18, eA (.iload_n 3) [3]),
  (19, eA (.ifCond .lt 9) [28]),
  (22, eA (.iload_n 3) [3]),
  (23, eC (.bipush 7) 7),
  (25, eA (.if_icmp .le 6) [31]),
  (28, eC (.bipush (-2)) (-2)),
  (30, eA (.ireturn) []),
  (31, eA (.iload_n 3) [3]),
  (32, eC (.bipush 6) 6),
  (34, eA (.if_icmp .ne 10) [44]),
  (37, eA (.aload_n 0) [0]),
  (38, eA (.iload_n 1) [1]),
  (39, eA (.iload_n 2) [2]),
  (40, eA (.invokevirtual 141) [0, 93, 2, 6, 465]),
  (43, eA (.ireturn) []),
  (44, eA (.iload_n 3) [3]),
  (45, eC (.bipush 7) 7),
  (47, eA (.if_icmp .ne 13) [60]),
  (50, eA (.aload_n 0) [0]),
  (51, eA (.iload_n 1) [1]),
  (52, eA (.iload_n 1) [1]),
  (53, eA (.iload_n 2) [2]),
  (54, eA (.invokevirtual 144) [0, 94, 3, 6, 494]),
  (57, eA (.goto 10) [67]),
  (60, eA (.aload_n 0) [0]),
  (61, eA (.iload_n 1) [1]),
  (62, eA (.iload_n 3) [3]),
  (63, eA (.iload_n 2) [2]),
  (64, eA (.invokevirtual 148) [0, 92, 3, 6, 501]),
  (67, eA (.ireturn) [])]
def hX6_asks : Hd := (tX6_asks, 6, false, 1)
def tX6_feed : List (Nat × En) := [(0, eA (.iload_n 1) [1]),
  (1, eA (.ifCond .lt 10) [11]),
  (4, eA (.iload_n 1) [1]),
  (5, eC (.sipush 255) 255),
  (8, eA (.if_icmp .le 6) [14]),
  (11, eC (.bipush (-2)) (-2)),
  (13, eA (.ireturn) []),
  (14, eA (.aload_n 0) [0]),
  (15, eA (.getfield 26) [6, 3, 379]),
  (18, eA (.iload_n 1) [1]),
  (19, eA (.invokevirtual 151) [0, 13, 1, 2, 295]),
  (22, eA (.ireturn) [])]
def hX6_feed : Hd := (tX6_feed, 6, false, 1)
def tX6_text : List (Nat × En) := [(0, eA (.aload_n 0) [0]),
  (1, eA (.getfield 36) [6, 5, 381]),
  (4, eC (.bipush 6) 6),
  (6, eA (.if_icmp .lt 6) [12]),
  (9, eC (.bipush (-4)) (-4)),
  (11, eA (.ireturn) []),
  (12, eA (.aload_n 0) [0]),
  (13, eA (.getfield 26) [6, 3, 379]),
  (16, eA (.invokevirtual 154) [0, 14, 0, 2, 303]),
  (19, eA (.istore_n 1) [1]),
  (20, eA (.aload_n 0) [0]),
  (21, eA (.getfield 26) [6, 3, 379]),
  (24, eC (.iconst 0) 0),
  (25, eA (.putfield 157) [2, 1, 142]),
  (28, eA (.iload_n 1) [1]),
  (29, eC (.iconst (-1)) (-1)),
  (30, eA (.if_icmp .eq 8) [38]),
  (33, eC (.bipush (-100)) (-100)),
  (35, eA (.iload_n 1) [1]),
  (36, eA (.isub) []),
  (37, eA (.ireturn) []),
  (38, eA (.aload_n 0) [0]),
  (39, eA (.getfield 32) [6, 4, 380]),
  (42, eA (.aload_n 0) [0]),
  (43, eA (.getfield 36) [6, 5, 381]),
  (46, eA (.aaload) []),
  (47, eA (.aload_n 0) [0]),
  (48, eA (.getfield 26) [6, 3, 379]),
  (51, eA (.getfield 160) [2, 2, 144]),
  (54, eA (.aload_n 0) [0]),
  (55, eA (.getfield 26) [6, 3, 379]),
  (58, eA (.getfield 163) [2, 3, 146]),
  (61, eA (.invokevirtual 166) [0, 37, 2, 4, 369]),
  (64, eA (.aload_n 0) [0]),
  (65, eA (.dup) []),
  (66, eA (.getfield 36) [6, 5, 381]),
  (69, eC (.iconst 1) 1),
  (70, eA (.iadd) []),
  (71, eA (.putfield 36) [6, 5, 381]),
  (74, eA (.aload_n 0) [0]),
  (75, eA (.getfield 36) [6, 5, 381]),
  (78, eC (.iconst 1) 1),
  (79, eA (.isub) []),
  (80, eA (.ireturn) [])]
def hX6_text : Hd := (tX6_text, 6, false, 1)
def tX6_force : List (Nat × En) := [(0, eA (.iload_n 1) [1]),
  (1, eA (.ifCond .lt 11) [12]),
  (4, eA (.iload_n 1) [1]),
  (5, eA (.aload_n 0) [0]),
  (6, eA (.getfield 36) [6, 5, 381]),
  (9, eA (.if_icmp .lt 6) [15]),
  (12, eC (.bipush (-2)) (-2)),
  (14, eA (.ireturn) []),
  (15, eA (.aload_n 0) [0]),
  (16, eA (.getfield 10) [6, 0, 376]),
  (19, eA (.getfield 170) [5, 1, 103]),
  (22, eA (.istore_n 2) [2]),
  (23, eA (.aload_n 0) [0]),
  (24, eA (.getfield 10) [6, 0, 376]),
  (27, eA (.iload_n 1) [1]),
  (28, eA (.putfield 170) [5, 1, 103]),
  (31, eA (.iload_n 2) [2]),
  (32, eA (.ireturn) [])]
def hX6_force : Hd := (tX6_force, 6, false, 1)
def tX6_stay : List (Nat × En) := [(0, eA (.aload_n 0) [0]),
  (1, eA (.getfield 10) [6, 0, 376]),
  (4, eA (.iload_n 1) [1]),
  (5, eA (.invokevirtual 116) [0, 41, 1, 5, 428]),
  (8, eA (.ifCond .eq 10) [18]),
  (11, eA (.iload_n 2) [2]),
  (12, eA (.invokestatic 132) [0, 80, 1, 0, 439]),
  (15, eA (.ifCond .ne 6) [21]),
  (18, eC (.bipush (-2)) (-2)),
  (20, eA (.ireturn) []),
  (21, eA (.aload_n 0) [0]),
  (22, eA (.getfield 10) [6, 0, 376]),
  (25, eA (.getfield 94) [5, 0, 101]),
  (28, eC (.sipush 999) 999),
  (31, eA (.if_icmp .lt 6) [37]),
  (34, eC (.bipush (-3)) (-3)),
  (36, eA (.ireturn) []),
  (37, eC (.iconst 0) 0),
  (38, eA (.istore_n 3) [3]),
  (39, eA (.iload_n 3) [3]),
  (40, eC (.bipush 6) 6),
  (42, eA (.if_icmp .ge 51) [93]),
  (45, eA (.iload_n 1) [1]),
  (46, eC (.bipush 6) 6),
  (48, eA (.imul) []),
  (49, eA (.iload_n 3) [3]),
  (50, eA (.iadd) []),
  (51, eA (.istore 4) [4]),
  (53, eA (.aload_n 0) [0]),
  (54, eA (.getfield 10) [6, 0, 376]),
  (57, eA (.getfield 106) [5, 4, 109]),
  (60, eA (.iload 4) [4]),
  (62, eA (.aload_n 0) [0]),
  (63, eA (.getfield 10) [6, 0, 376]),
  (66, eA (.getfield 106) [5, 4, 109]),
  (69, eA (.iload 4) [4]),
  (71, eA (.iaload) []),
  (72, eA (.aload_n 0) [0]),
  (73, eA (.iload_n 1) [1]),
  (74, eA (.iload_n 2) [2]),
  (75, eA (.iload_n 3) [3]),
  (76, eA (.invokevirtual 148) [0, 92, 3, 6, 501]),
  (79, eA (.iadd) []),
  (80, eC (.sipush 9999) 9999),
  (83, eA (.invokestatic 173) [1, 1, 484]),
  (86, eA (.iastore) []),
  (87, (.iinc 3 1, [3], 1, 0, [])),
  (90, eA (.goto (-51)) [39]),
  (93, eA (.aload_n 0) [0]),
  (94, eA (.getfield 10) [6, 0, 376]),
  (97, eA (.getfield 126) [5, 7, 115]),
  (100, eA (.iload_n 1) [1]),
  (101, eA (.aload_n 0) [0]),
  (102, eA (.getfield 10) [6, 0, 376]),
  (105, eA (.getfield 126) [5, 7, 115]),
  (108, eA (.iload_n 1) [1]),
  (109, eA (.iaload) []),
  (110, eC (.iconst 1) 1),
  (111, eA (.iadd) []),
  (112, eC (.sipush 9999) 9999),
  (115, eA (.invokestatic 173) [1, 1, 484]),
  (118, eA (.iastore) []),
  (119, eA (.aload_n 0) [0]),
  (120, eA (.getfield 10) [6, 0, 376]),
  (123, eA (.dup) []),
  (124, eA (.getfield 94) [5, 0, 101]),
  (127, eC (.iconst 1) 1),
  (128, eA (.iadd) []),
  (129, eA (.putfield 94) [5, 0, 101]),
  (132, eA (.aload_n 0) [0]),
  (133, eA (.getfield 10) [6, 0, 376]),
  (136, eA (.iload_n 1) [1]),
  (137, eA (.invokevirtual 129) [0, 45, 1, 5, 432]),
  (140, eA (.ireturn) [])]
def hX6_stay : Hd := (tX6_stay, 6, false, 1)
def tX6_shake : List (Nat × En) := [(0, eA (.aload_n 0) [0]),
  (1, eA (.getfield 10) [6, 0, 376]),
  (4, eA (.iload_n 1) [1]),
  (5, eA (.invokevirtual 116) [0, 41, 1, 5, 428]),
  (8, eA (.ifCond .ne 6) [14]),
  (11, eC (.bipush (-2)) (-2)),
  (13, eA (.ireturn) []),
  (14, eA (.aload_n 0) [0]),
  (15, eA (.getfield 10) [6, 0, 376]),
  (18, eA (.iload_n 1) [1]),
  (19, eA (.invokevirtual 129) [0, 45, 1, 5, 432]),
  (22, eA (.istore_n 2) [2]),
  (23, eC (.iconst 0) 0),
  (24, eA (.istore_n 3) [3]),
  (25, eA (.iload_n 3) [3]),
  (26, eC (.bipush 6) 6),
  (28, eA (.if_icmp .ge 21) [49]),
  (31, eA (.aload_n 0) [0]),
  (32, eA (.getfield 63) [6, 11, 387]),
  (35, eA (.iload_n 3) [3]),
  (36, eA (.aload_n 0) [0]),
  (37, eA (.iload_n 1) [1]),
  (38, eA (.iload_n 3) [3]),
  (39, eA (.invokevirtual 141) [0, 93, 2, 6, 465]),
  (42, eA (.iastore) []),
  (43, (.iinc 3 1, [3], 1, 0, [])),
  (46, eA (.goto (-21)) [25]),
  (49, eA (.aload_n 0) [0]),
  (50, eA (.getfield 63) [6, 11, 387]),
  (53, eC (.iconst 0) 0),
  (54, eA (.aload_n 0) [0]),
  (55, eA (.getfield 10) [6, 0, 376]),
  (58, eA (.getfield 106) [5, 4, 109]),
  (61, eA (.iload_n 1) [1]),
  (62, eC (.bipush 6) 6),
  (64, eA (.imul) []),
  (65, eC (.bipush 6) 6),
  (67, eA (.invokestatic 178) [1, 4, 530]),
  (70, eA (.iload_n 2) [2]),
  (71, eA (.aload_n 0) [0]),
  (72, eA (.getfield 10) [6, 0, 376]),
  (75, eA (.iload_n 1) [1]),
  (76, eA (.invokevirtual 129) [0, 45, 1, 5, 432]),
  (79, eA (.isub) []),
  (80, eA (.ireturn) [])]
def hX6_shake : Hd := (tX6_shake, 6, false, 1)
def tX6_like : List (Nat × En) := [(0, eA (.aload_n 0) [0]),
  (1, eA (.iload_n 1) [1]),
  (2, eA (.iload_n 2) [2]),
  (3, eA (.invokevirtual 184) [0, 84, 2, 6, 535]),
  (6, eA (.ifCond .eq 12) [18]),
  (9, eA (.iload_n 3) [3]),
  (10, eA (.ifCond .lt 8) [18]),
  (13, eA (.iload_n 3) [3]),
  (14, eC (.iconst 1) 1),
  (15, eA (.if_icmp .le 6) [21]),
  (18, eC (.bipush (-2)) (-2)),
  (20, eA (.ireturn) []),
  (21, eA (.iload_n 3) [3]),
  (22, eA (.ifCond .ne 15) [37]),
  (25, eA (.aload_n 0) [0]),
  (26, eA (.getfield 10) [6, 0, 376]),
  (29, eA (.iload_n 1) [1]),
  (30, eA (.iload_n 2) [2]),
  (31, eA (.invokevirtual 187) [0, 47, 2, 5, 539]),
  (34, eA (.goto 9) [43]),
  (37, eA (.aload_n 0) [0]),
  (38, eA (.iload_n 1) [1]),
  (39, eA (.iload_n 2) [2]),
  (40, eA (.invokevirtual 190) [0, 95, 2, 6, 546]),
  (43, eA (.ireturn) [])]
def hX6_like : Hd := (tX6_like, 6, false, 1)
def tX6_odd : List (Nat × En) := [(0, eA (.aload_n 0) [0]),
  (1, eA (.getfield 10) [6, 0, 376]),
  (4, eA (.iload_n 1) [1]),
  (5, eA (.invokevirtual 116) [0, 41, 1, 5, 428]),
  (8, eA (.ifCond .eq 12) [20]),
  (11, eA (.iload_n 2) [2]),
  (12, eA (.ifCond .lt 8) [20]),
  (15, eA (.iload_n 2) [2]),
  (16, eC (.iconst 2) 2),
  (17, eA (.if_icmp .le 6) [23]),
  (20, eC (.bipush (-2)) (-2)),
  (22, eA (.ireturn) []),
  (23, eA (.iload_n 2) [2]),
  (24, eC (.iconst 2) 2),
  (25, eA (.if_icmp .ne 11) [36]),
  (28, eA (.aload_n 0) [0]),
  (29, eA (.getfield 10) [6, 0, 376]),
  (32, eA (.invokevirtual 193) [0, 49, 0, 5, 554]),
  (35, eA (.ireturn) []),
  (36, eA (.aload_n 0) [0]),
  (37, eA (.getfield 10) [6, 0, 376]),
  (40, eA (.iload_n 1) [1]),
  (41, eA (.invokevirtual 196) [0, 48, 1, 5, 559]),
  (44, eA (.istore_n 3) [3]),
  (45, eA (.iload_n 2) [2]),
  (46, eA (.ifCond .eq 8) [54]),
  (49, eA (.iload_n 3) [3]),
  (50, eC (.iconst (-1)) (-1)),
  (51, eA (.if_icmp .ne 7) [58]),
  (54, eA (.iload_n 3) [3]),
  (55, eA (.goto 12) [67]),
  (58, eA (.aload_n 0) [0]),
  (59, eA (.getfield 10) [6, 0, 376]),
  (62, eA (.iload_n 1) [1]),
  (63, eA (.iload_n 3) [3]),
  (64, eA (.invokevirtual 187) [0, 47, 2, 5, 539]),
  (67, eA (.ireturn) [])]
def hX6_odd : Hd := (tX6_odd, 6, false, 1)
def tX6_mean : List (Nat × En) := [(0, eA (.aload_n 0) [0]),
  (1, eA (.getfield 10) [6, 0, 376]),
  (4, eA (.iload_n 1) [1]),
  (5, eA (.invokevirtual 116) [0, 41, 1, 5, 428]),
  (8, eA (.ifCond .eq 17) [25]),
  (11, eA (.iload_n 2) [2]),
  (12, eA (.invokestatic 138) [0, 81, 1, 0, 462]),
  (15, eA (.ifCond .eq 10) [25]),
  (18, eA (.iload_n 3) [3]),
  (19, eA (.invokestatic 199) [0, 82, 1, 0, 568]),
  (22, eA (.ifCond .ne 7) [29]),
  (25, (.ldc2_w 202, [571], 0, (-4611686018427387904), [])),
  (28, eA (.lreturn) []),
  (29, eA (.aload_n 0) [0]),
  (30, eA (.getfield 10) [6, 0, 376]),
  (33, eA (.getfield 106) [5, 4, 109]),
  (36, eA (.iload_n 1) [1]),
  (37, eC (.bipush 6) 6),
  (39, eA (.imul) []),
  (40, eA (.iload_n 2) [2]),
  (41, eA (.iadd) []),
  (42, eA (.iaload) []),
  (43, eA (.aload_n 0) [0]),
  (44, eA (.getfield 10) [6, 0, 376]),
  (47, eA (.iload_n 1) [1]),
  (48, eA (.invokevirtual 129) [0, 45, 1, 5, 432]),
  (51, eA (.iload_n 3) [3]),
  (52, eA (.invokestatic 204) [0, 110, 3, 0, 572]),
  (55, eA (.lreturn) [])]
def hX6_mean : Hd := (tX6_mean, 6, false, 3)
def tX6_stays : List (Nat × En) := [(0, eA (.aload_n 0) [0]),
  (1, eA (.getfield 10) [6, 0, 376]),
  (4, eA (.iload_n 1) [1]),
  (5, eA (.invokevirtual 116) [0, 41, 1, 5, 428]),
  (8, eA (.ifCond .eq 17) [25]),
  (11, eA (.iload_n 2) [2]),
  (12, eA (.invokestatic 208) [0, 88, 1, 0, 579]),
  (15, eA (.ifCond .eq 10) [25]),
  (18, eA (.iload_n 3) [3]),
  (19, eA (.invokestatic 138) [0, 81, 1, 0, 462]),
  (22, eA (.ifCond .ne 6) [28]),
  (25, eC (.bipush (-2)) (-2)),
  (27, eA (.ireturn) []),
  (28, eA (.aload_n 0) [0]),
  (29, eA (.iload_n 1) [1]),
  (30, eA (.iload_n 2) [2]),
  (31, eA (.iload_n 3) [3]),
  (32, eA (.invokevirtual 211) [0, 97, 3, 6, 583]),
  (35, eA (.ireturn) [])]
def hX6_stays : Hd := (tX6_stays, 6, false, 1)
def tX6_pack : List (Nat × En) := [(0, eA (.iload_n 1) [1]),
  (1, eA (.invokestatic 214) [0, 83, 1, 0, 591]),
  (4, eA (.ifCond .eq 21) [25]),
  (7, eA (.aload_n 0) [0]),
  (8, eA (.getfield 10) [6, 0, 376]),
  (11, eA (.iload_n 2) [2]),
  (12, eA (.invokevirtual 116) [0, 41, 1, 5, 428]),
  (15, eA (.ifCond .eq 10) [25]),
  (18, eA (.iload_n 3) [3]),
  (19, eA (.invokestatic 208) [0, 88, 1, 0, 579]),
  (22, eA (.ifCond .ne 6) [28]),
  (25, eC (.bipush (-2)) (-2)),
  (27, eA (.ireturn) []),
  (28, eA (.aload_n 0) [0]),
  (29, eA (.getfield 42) [6, 6, 382]),
  (32, eA (.iload_n 1) [1]),
  (33, eA (.aaload) []),
  (34, eA (.astore 4) [4]),
  (36, eA (.aload 4) [4]),
  (38, eC (.iconst 2) 2),
  (39, eC (.bipush 6) 6),
  (41, eA (.invokevirtual 217) [0, 33, 2, 3, 594]),
  (44, eC (.iconst 0) 0),
  (45, eA (.istore 5) [5]),
  (47, eA (.iload 5) [5]),
  (49, eC (.bipush 6) 6),
  (51, eA (.if_icmp .ge 24) [75]),
  (54, eA (.aload 4) [4]),
  (56, eA (.iload 5) [5]),
  (58, eA (.aload_n 0) [0]),
  (59, eA (.iload_n 2) [2]),
  (60, eA (.iload_n 3) [3]),
  (61, eA (.iload 5) [5]),
  (63, eA (.invokevirtual 211) [0, 97, 3, 6, 583]),
  (66, eA (.invokevirtual 220) [0, 34, 2, 3, 598]),
  (69, (.iinc 5 1, [5], 1, 0, [])),
  (72, eA (.goto (-25)) [47]),
  (75, eA (.aload 4) [4]),
  (77, eA (.invokevirtual 223) [0, 35, 0, 3, 602]),
  (80, eA (.ireturn) [])]
def hX6_pack : Hd := (tX6_pack, 6, false, 1)
def tX6_fit : List (Nat × En) := [(0, eA (.iload_n 1) [1]),
  (1, eA (.invokestatic 214) [0, 83, 1, 0, 591]),
  (4, eA (.ifCond .eq 23) [27]),
  (7, eA (.aload_n 0) [0]),
  (8, eA (.getfield 10) [6, 0, 376]),
  (11, eA (.iload_n 2) [2]),
  (12, eA (.invokevirtual 116) [0, 41, 1, 5, 428]),
  (15, eA (.ifCond .eq 12) [27]),
  (18, eA (.iload_n 3) [3]),
  (19, eA (.ifCond .lt 8) [27]),
  (22, eA (.iload_n 3) [3]),
  (23, eC (.iconst 4) 4),
  (24, eA (.if_icmp .le 6) [30]),
  (27, eC (.bipush (-2)) (-2)),
  (29, eA (.ireturn) []),
  (30, eA (.aload_n 0) [0]),
  (31, eA (.aload_n 0) [0]),
  (32, eA (.getfield 42) [6, 6, 382]),
  (35, eA (.iload_n 1) [1]),
  (36, eA (.aaload) []),
  (37, eA (.iload_n 2) [2]),
  (38, eA (.invokevirtual 226) [0, 98, 2, 6, 611]),
  (41, eA (.istore 4) [4]),
  (43, eA (.iload 4) [4]),
  (45, eA (.ifCond .eq 6) [51]),
  (48, eA (.iload 4) [4]),
  (50, eA (.ireturn) []),
  (51, eA (.iload_n 3) [3]),
  (52, (.tableswitch 64 0 3 #[32, 40, 48, 56], [116], 0, 0, [(0, 84), (1, 92), (2, 100), (3, 108)])),
  (84, eA (.aload_n 0) [0]),
  (85, eA (.getfield 49) [6, 7, 383]),
  (88, eA (.getfield 230) [1, 0, 182]),
  (91, eA (.ireturn) []),
  (92, eA (.aload_n 0) [0]),
  (93, eA (.getfield 49) [6, 7, 383]),
  (96, eA (.getfield 233) [1, 1, 184]),
  (99, eA (.ireturn) []),
  (100, eA (.aload_n 0) [0]),
  (101, eA (.getfield 49) [6, 7, 383]),
  (104, eA (.getfield 236) [1, 2, 186]),
  (107, eA (.ireturn) []),
  (108, eA (.aload_n 0) [0]),
  (109, eA (.getfield 49) [6, 7, 383]),
  (112, eA (.getfield 239) [1, 3, 188]),
  (115, eA (.ireturn) []),
  (116, eA (.aload_n 0) [0]),
  (117, eA (.getfield 49) [6, 7, 383]),
  (120, eA (.getfield 242) [1, 4, 190]),
  (123, eA (.ireturn) [])]
def hX6_fit : Hd := (tX6_fit, 6, false, 1)
def tX6_share : List (Nat × En) := [(0, eA (.iload_n 1) [1]),
  (1, eA (.invokestatic 214) [0, 83, 1, 0, 591]),
  (4, eA (.ifCond .eq 29) [33]),
  (7, eA (.aload_n 0) [0]),
  (8, eA (.getfield 10) [6, 0, 376]),
  (11, eA (.iload_n 2) [2]),
  (12, eA (.invokevirtual 116) [0, 41, 1, 5, 428]),
  (15, eA (.ifCond .eq 18) [33]),
  (18, eA (.iload_n 3) [3]),
  (19, eA (.invokestatic 132) [0, 80, 1, 0, 439]),
  (22, eA (.ifCond .eq 11) [33]),
  (25, eA (.iload 4) [4]),
  (27, eA (.invokestatic 199) [0, 82, 1, 0, 568]),
  (30, eA (.ifCond .ne 7) [37]),
  (33, (.ldc2_w 202, [571], 0, (-4611686018427387904), [])),
  (36, eA (.lreturn) []),
  (37, eA (.aload_n 0) [0]),
  (38, eA (.aload_n 0) [0]),
  (39, eA (.getfield 42) [6, 6, 382]),
  (42, eA (.iload_n 1) [1]),
  (43, eA (.aaload) []),
  (44, eA (.iload_n 2) [2]),
  (45, eA (.invokevirtual 226) [0, 98, 2, 6, 611]),
  (48, eA (.ifCond .eq 7) [55]),
  (51, (.ldc2_w 202, [571], 0, (-4611686018427387904), [])),
  (54, eA (.lreturn) []),
  (55, eA (.aload_n 0) [0]),
  (56, eA (.getfield 49) [6, 7, 383]),
  (59, eA (.getfield 245) [1, 5, 192]),
  (62, eA (.iload_n 3) [3]),
  (63, eA (.iaload) []),
  (64, eA (.aload_n 0) [0]),
  (65, eA (.getfield 49) [6, 7, 383]),
  (68, eA (.getfield 230) [1, 0, 182]),
  (71, eA (.iload 4) [4]),
  (73, eA (.invokestatic 204) [0, 110, 3, 0, 572]),
  (76, eA (.lreturn) [])]
def hX6_share : Hd := (tX6_share, 6, false, 3)
def tX6_go : List (Nat × En) := [(0, eA (.aload_n 0) [0]),
  (1, eA (.iload_n 1) [1]),
  (2, eA (.iload_n 2) [2]),
  (3, eA (.invokevirtual 184) [0, 84, 2, 6, 535]),
  (6, eA (.ifCond .eq 23) [29]),
  (9, eA (.iload_n 3) [3]),
  (10, eA (.ifCond .lt 19) [29]),
  (13, eA (.iload_n 3) [3]),
  (14, eC (.iconst 3) 3),
  (15, eA (.if_icmp .gt 14) [29]),
  (18, eA (.iload 4) [4]),
  (20, eA (.ifCond .lt 9) [29]),
  (23, eA (.iload 4) [4]),
  (25, eC (.iconst 1) 1),
  (26, eA (.if_icmp .le 6) [32]),
  (29, eC (.bipush (-2)) (-2)),
  (31, eA (.ireturn) []),
  (32, eA (.aload_n 0) [0]),
  (33, eA (.iload_n 1) [1]),
  (34, eA (.invokevirtual 248) [0, 96, 1, 6, 619]),
  (37, eC (.iconst 1) 1),
  (38, eA (.istore 5) [5]),
  (40, eC (.iconst 0) 0),
  (41, eA (.istore 6) [6]),
  (43, eA (.iload 6) [6]),
  (45, eA (.iload_n 3) [3]),
  (46, eA (.if_icmp .ge 16) [62]),
  (49, eA (.iload 5) [5]),
  (51, eC (.bipush 6) 6),
  (53, eA (.imul) []),
  (54, eA (.istore 5) [5]),
  (56, (.iinc 6 1, [6], 1, 0, [])),
  (59, eA (.goto (-16)) [43]),
  (62, eC (.iconst 0) 0),
  (63, eA (.istore 6) [6]),
  (65, eC (.iconst (-1)) (-1)),
  (66, eA (.istore 7) [7]),
  (68, eC (.iconst 0) 0),
  (69, eA (.istore 8) [8]),
  (71, eA (.iload 8) [8]),
  (73, eA (.iload 5) [5]),
  (75, eA (.if_icmp .ge 50) [125]),
  (78, eA (.iload 8) [8]),
  (80, eA (.iload_n 3) [3]),
  (81, eA (.invokestatic 252) [0, 99, 2, 0, 655]),
  (84, eA (.ifCond .eq 35) [119]),
  (87, eA (.aload_n 0) [0]),
  (88, eA (.iload_n 1) [1]),
  (89, eA (.iload_n 2) [2]),
  (90, eA (.iload 8) [8]),
  (92, eA (.iload_n 3) [3]),
  (93, eA (.invokevirtual 255) [0, 101, 4, 6, 658]),
  (96, eA (.istore 9) [9]),
  (98, eA (.iload 7) [7]),
  (100, eC (.iconst (-1)) (-1)),
  (101, eA (.if_icmp .eq 10) [111]),
  (104, eA (.iload 9) [9]),
  (106, eA (.iload 7) [7]),
  (108, eA (.if_icmp .ge 11) [119]),
  (111, eA (.iload 8) [8]),
  (113, eA (.istore 6) [6]),
  (115, eA (.iload 9) [9]),
  (117, eA (.istore 7) [7]),
  (119, (.iinc 8 1, [8], 1, 0, [])),
  (122, eA (.goto (-51)) [71]),
  (125, eA (.iload 4) [4]),
  (127, eA (.ifCond .ne 12) [139]),
  (130, eA (.iload 6) [6]),
  (132, eA (.iload_n 3) [3]),
  (133, eA (.invokestatic 259) [0, 100, 2, 0, 667]),
  (136, eA (.goto 5) [141]),
  (139, eA (.iload 7) [7]),
  (141, eA (.ireturn) [])]
def hX6_go : Hd := (tX6_go, 6, false, 1)
def tX6_tells : List (Nat × En) := [(0, eA (.iload_n 1) [1]),
  (1, eA (.invokestatic 214) [0, 83, 1, 0, 591]),
  (4, eA (.ifCond .eq 33) [37]),
  (7, eA (.aload_n 0) [0]),
  (8, eA (.getfield 10) [6, 0, 376]),
  (11, eA (.iload_n 2) [2]),
  (12, eA (.invokevirtual 116) [0, 41, 1, 5, 428]),
  (15, eA (.ifCond .eq 22) [37]),
  (18, eA (.iload_n 3) [3]),
  (19, eA (.invokestatic 132) [0, 80, 1, 0, 439]),
  (22, eA (.ifCond .eq 15) [37]),
  (25, eA (.iload 4) [4]),
  (27, eA (.ifCond .lt 10) [37]),
  (30, eA (.iload 4) [4]),
  (32, eC (.bipush 6) 6),
  (34, eA (.if_icmp .le 6) [40]),
  (37, eC (.bipush (-2)) (-2)),
  (39, eA (.ireturn) []),
  (40, eA (.aload_n 0) [0]),
  (41, eA (.getfield 42) [6, 6, 382]),
  (44, eA (.iload_n 1) [1]),
  (45, eA (.aaload) []),
  (46, eA (.astore 5) [5]),
  (48, eA (.aload 5) [5]),
  (50, eA (.invokevirtual 262) [0, 30, 0, 3, 615]),
  (53, eA (.ifCond .eq 6) [59]),
  (56, eC (.bipush (-11)) (-11)),
  (58, eA (.ireturn) []),
  (59, eA (.aload 5) [5]),
  (61, eA (.getfield 266) [3, 1, 232]),
  (64, eC (.bipush 6) 6),
  (66, eA (.if_icmp .le 6) [72]),
  (69, eC (.bipush (-2)) (-2)),
  (71, eA (.ireturn) []),
  (72, eA (.iload 4) [4]),
  (74, (.tableswitch 107 1 6 #[38, 50, 62, 71, 80, 92], [181], 0, 0, [(1, 112), (2, 124), (3, 136), (4, 145), (5, 154), (6, 166)])),
  (112, eA (.aload_n 0) [0]),
  (113, eA (.aload 5) [5]),
  (115, eA (.iload_n 2) [2]),
  (116, eA (.iload_n 3) [3]),
  (117, eC (.iconst 1) 1),
  (118, eC (.bipush 6) 6),
  (120, eA (.invokevirtual 267) [0, 106, 5, 6, 674]),
  (123, eA (.ireturn) []),
  (124, eA (.aload_n 0) [0]),
  (125, eA (.aload 5) [5]),
  (127, eA (.iload_n 2) [2]),
  (128, eA (.iload_n 3) [3]),
  (129, eC (.iconst 2) 2),
  (130, eC (.bipush 10) 10),
  (132, eA (.invokevirtual 267) [0, 106, 5, 6, 674]),
  (135, eA (.ireturn) []),
  (136, eA (.aload_n 0) [0]),
  (137, eA (.aload 5) [5]),
  (139, eA (.iload_n 2) [2]),
  (140, eA (.iload_n 3) [3]),
  (141, eA (.invokevirtual 271) [0, 107, 3, 6, 682]),
  (144, eA (.ireturn) []),
  (145, eA (.aload_n 0) [0]),
  (146, eA (.aload 5) [5]),
  (148, eA (.iload_n 2) [2]),
  (149, eA (.iload_n 3) [3]),
  (150, eA (.invokevirtual 275) [0, 108, 3, 6, 686]),
  (153, eA (.ireturn) []),
  (154, eA (.aload_n 0) [0]),
  (155, eA (.aload 5) [5]),
  (157, eA (.iload_n 2) [2]),
  (158, eA (.iload_n 3) [3]),
  (159, eC (.iconst 5) 5),
  (160, eC (.bipush 6) 6),
  (162, eA (.invokevirtual 267) [0, 106, 5, 6, 674]),
  (165, eA (.ireturn) []),
  (166, eA (.aload_n 0) [0]),
  (167, eA (.aload 5) [5]),
  (169, eA (.iload_n 2) [2]),
  (170, eA (.iload_n 3) [3]),
  (171, eC (.bipush 6) 6),
  (173, eA (.aload_n 0) [0]),
  (174, eA (.getfield 36) [6, 5, 381]),
  (177, eA (.invokevirtual 267) [0, 106, 5, 6, 674]),
  (180, eA (.ireturn) []),
  (181, eA (.aload_n 0) [0]),
  (182, eA (.aload 5) [5]),
  (184, eA (.iload_n 2) [2]),
  (185, eA (.iload_n 3) [3]),
  (186, eC (.iconst 0) 0),
  (187, eC (.iconst 0) 0),
  (188, eA (.invokevirtual 278) [0, 105, 5, 6, 678]),
  (191, eA (.ireturn) [])]
def hX6_tells : Hd := (tX6_tells, 6, false, 1)
def tX6_film : List (Nat × En) := [(0, eA (.iload_n 1) [1]),
  (1, eA (.invokestatic 214) [0, 83, 1, 0, 591]),
  (4, eA (.ifCond .eq 21) [25]),
  (7, eA (.aload_n 0) [0]),
  (8, eA (.getfield 10) [6, 0, 376]),
  (11, eA (.iload_n 2) [2]),
  (12, eA (.invokevirtual 116) [0, 41, 1, 5, 428]),
  (15, eA (.ifCond .eq 10) [25]),
  (18, eA (.iload_n 3) [3]),
  (19, eA (.invokestatic 132) [0, 80, 1, 0, 439]),
  (22, eA (.ifCond .ne 6) [28]),
  (25, eC (.bipush (-2)) (-2)),
  (27, eA (.ireturn) []),
  (28, eA (.aload_n 0) [0]),
  (29, eA (.getfield 42) [6, 6, 382]),
  (32, eA (.iload_n 1) [1]),
  (33, eA (.aaload) []),
  (34, eA (.astore 4) [4]),
  (36, eA (.aload 4) [4]),
  (38, eC (.iconst 0) 0),
  (39, eC (.bipush 6) 6),
  (41, eA (.invokevirtual 217) [0, 33, 2, 3, 594]),
  (44, eC (.iconst 0) 0),
  (45, eA (.istore 5) [5]),
  (47, eA (.iload 5) [5]),
  (49, eC (.bipush 6) 6),
  (51, eA (.if_icmp .ge 24) [75]),
  (54, eA (.aload 4) [4]),
  (56, eA (.iload 5) [5]),
  (58, eA (.aload_n 0) [0]),
  (59, eA (.iload_n 2) [2]),
  (60, eA (.iload_n 3) [3]),
  (61, eA (.iload 5) [5]),
  (63, eA (.invokevirtual 148) [0, 92, 3, 6, 501]),
  (66, eA (.invokevirtual 220) [0, 34, 2, 3, 598]),
  (69, (.iinc 5 1, [5], 1, 0, [])),
  (72, eA (.goto (-25)) [47]),
  (75, eA (.aload 4) [4]),
  (77, eA (.invokevirtual 223) [0, 35, 0, 3, 602]),
  (80, eA (.ireturn) [])]
def hX6_film : Hd := (tX6_film, 6, false, 1)
def tX6_drawn : List (Nat × En) := [(0, eA (.aload_n 0) [0]),
  (1, eA (.getfield 10) [6, 0, 376]),
  (4, eA (.iload_n 2) [2]),
  (5, eA (.invokevirtual 116) [0, 41, 1, 5, 428]),
  (8, eA (.ifCond .eq 13) [21]),
  (11, eA (.iload_n 3) [3]),
  (12, eA (.ifCond .lt 9) [21]),
  (15, eA (.iload_n 3) [3]),
  (16, eC (.bipush 40) 40),
  (18, eA (.if_icmp .le 6) [24]),
  (21, eC (.bipush (-2)) (-2)),
  (23, eA (.ireturn) []),
  (24, eA (.aload_n 0) [0]),
  (25, eA (.iload_n 1) [1]),
  (26, eA (.iload_n 2) [2]),
  (27, eA (.iload_n 3) [3]),
  (28, eA (.invokevirtual 281) [0, 103, 3, 6, 698]),
  (31, eA (.ireturn) [])]
def hX6_drawn : Hd := (tX6_drawn, 6, false, 1)
def tX6_chance : List (Nat × En) := [(0, eA (.iload_n 2) [2]),
  (1, eC (.iconst 1) 1),
  (2, eA (.if_icmp .lt 41) [43]),
  (5, eA (.iload_n 2) [2]),
  (6, eC (.bipush 20) 20),
  (8, eA (.if_icmp .gt 35) [43]),
  (11, eA (.aload_n 0) [0]),
  (12, eA (.getfield 10) [6, 0, 376]),
  (15, eA (.iload_n 3) [3]),
  (16, eA (.invokevirtual 116) [0, 41, 1, 5, 428]),
  (19, eA (.ifCond .eq 24) [43]),
  (22, eA (.iload 4) [4]),
  (24, eA (.ifCond .lt 19) [43]),
  (27, eA (.iload 4) [4]),
  (29, (.ldc_w 284, [1, 712], 99999, 0, [])),
  (32, eA (.if_icmp .gt 11) [43]),
  (35, eA (.iload 5) [5]),
  (37, eA (.invokestatic 199) [0, 82, 1, 0, 568]),
  (40, eA (.ifCond .ne 7) [47]),
  (43, (.ldc2_w 202, [571], 0, (-4611686018427387904), [])),
  (46, eA (.lreturn) []),
  (47, eC (.iconst 0) 0),
  (48, eA (.istore 6) [6]),
  (50, eC (.iconst 0) 0),
  (51, eA (.istore 7) [7]),
  (53, eA (.iload 7) [7]),
  (55, eA (.iload_n 2) [2]),
  (56, eA (.if_icmp .ge 27) [83]),
  (59, eA (.aload_n 0) [0]),
  (60, eA (.iload_n 1) [1]),
  (61, eA (.iload 7) [7]),
  (63, eA (.iadd) []),
  (64, eA (.iload_n 3) [3]),
  (65, eC (.iconst 5) 5),
  (66, eA (.invokevirtual 281) [0, 103, 3, 6, 698]),
  (69, eA (.iload 4) [4]),
  (71, eA (.if_icmp .lt 6) [77]),
  (74, (.iinc 6 1, [6], 1, 0, [])),
  (77, (.iinc 7 1, [7], 1, 0, [])),
  (80, eA (.goto (-27)) [53]),
  (83, eA (.iload 6) [6]),
  (85, eA (.iload_n 2) [2]),
  (86, eA (.iload 5) [5]),
  (88, eA (.invokestatic 204) [0, 110, 3, 0, 572]),
  (91, eA (.lreturn) [])]
def hX6_chance : Hd := (tX6_chance, 6, false, 3)
def tX6_image : List (Nat × En) := [(0, eA (.aload_n 0) [0]),
  (1, eA (.getfield 16) [6, 1, 377]),
  (4, eA (.aload_n 0) [0]),
  (5, eA (.getfield 10) [6, 0, 376]),
  (8, eA (.invokevirtual 285) [0, 43, 1, 5, 717]),
  (11, eA (.aload_n 0) [0]),
  (12, eC (.iconst 1) 1),
  (13, eA (.putfield 19) [6, 2, 378]),
  (16, eA (.aload_n 0) [0]),
  (17, eA (.getfield 10) [6, 0, 376]),
  (20, eA (.getfield 120) [5, 2, 105]),
  (23, eA (.ireturn) [])]
def hX6_image : Hd := (tX6_image, 6, false, 1)
def tX6_back : List (Nat × En) := [(0, eA (.aload_n 0) [0]),
  (1, eA (.getfield 19) [6, 2, 378]),
  (4, eA (.ifCond .ne 6) [10]),
  (7, eC (.bipush (-3)) (-3)),
  (9, eA (.ireturn) []),
  (10, eA (.aload_n 0) [0]),
  (11, eA (.getfield 10) [6, 0, 376]),
  (14, eA (.aload_n 0) [0]),
  (15, eA (.getfield 16) [6, 1, 377]),
  (18, eA (.invokevirtual 285) [0, 43, 1, 5, 717]),
  (21, eA (.aload_n 0) [0]),
  (22, eA (.getfield 10) [6, 0, 376]),
  (25, eA (.getfield 120) [5, 2, 105]),
  (28, eA (.ireturn) [])]
def hX6_back : Hd := (tX6_back, 6, false, 1)
def tX6_count : List (Nat × En) := [(0, eA (.iload_n 1) [1]),
  (1, (.tableswitch 84 0 5 #[39, 47, 55, 63, 68, 76], [85], 0, 0, [(0, 40), (1, 48), (2, 56), (3, 64), (4, 69), (5, 77)])),
  (40, eA (.aload_n 0) [0]),
  (41, eA (.getfield 10) [6, 0, 376]),
  (44, eA (.getfield 120) [5, 2, 105]),
  (47, eA (.ireturn) []),
  (48, eA (.aload_n 0) [0]),
  (49, eA (.getfield 10) [6, 0, 376]),
  (52, eA (.getfield 94) [5, 0, 101]),
  (55, eA (.ireturn) []),
  (56, eA (.aload_n 0) [0]),
  (57, eA (.getfield 10) [6, 0, 376]),
  (60, eA (.invokevirtual 288) [0, 46, 0, 5, 730]),
  (63, eA (.ireturn) []),
  (64, eA (.aload_n 0) [0]),
  (65, eA (.getfield 36) [6, 5, 381]),
  (68, eA (.ireturn) []),
  (69, eA (.aload_n 0) [0]),
  (70, eA (.getfield 26) [6, 3, 379]),
  (73, eA (.getfield 157) [2, 1, 142]),
  (76, eA (.ireturn) []),
  (77, eA (.aload_n 0) [0]),
  (78, eA (.getfield 10) [6, 0, 376]),
  (81, eA (.getfield 170) [5, 1, 103]),
  (84, eA (.ireturn) []),
  (85, eC (.bipush (-2)) (-2)),
  (87, eA (.ireturn) [])]
def hX6_count : Hd := (tX6_count, 6, false, 1)
def tX6_sheet : List (Nat × En) := [(0, eA (.iload_n 1) [1]),
  (1, eA (.invokestatic 214) [0, 83, 1, 0, 591]),
  (4, eA (.ifCond .eq 15) [19]),
  (7, eA (.iload_n 2) [2]),
  (8, eC (.iconst (-1)) (-1)),
  (9, eA (.if_icmp .eq 13) [22]),
  (12, eA (.iload_n 2) [2]),
  (13, eA (.invokestatic 291) [0, 29, 1, 0, 738]),
  (16, eA (.ifCond .ne 6) [22]),
  (19, eC (.bipush (-2)) (-2)),
  (21, eA (.ireturn) []),
  (22, eA (.iload_n 2) [2]),
  (23, eC (.iconst (-1)) (-1)),
  (24, eA (.if_icmp .ne 16) [40]),
  (27, eA (.aload_n 0) [0]),
  (28, eA (.getfield 42) [6, 6, 382]),
  (31, eA (.iload_n 1) [1]),
  (32, eA (.aaload) []),
  (33, eC (.iconst (-1)) (-1)),
  (34, eC (.iconst 0) 0),
  (35, eA (.invokevirtual 217) [0, 33, 2, 3, 594]),
  (38, eC (.iconst 1) 1),
  (39, eA (.ireturn) []),
  (40, eA (.iload_n 3) [3]),
  (41, eC (.bipush 40) 40),
  (43, eA (.if_icmp .le 6) [49]),
  (46, eC (.bipush (-2)) (-2)),
  (48, eA (.ireturn) []),
  (49, eA (.iload_n 3) [3]),
  (50, eA (.ifCond .ge 6) [56]),
  (53, eC (.bipush (-14)) (-14)),
  (55, eA (.ireturn) []),
  (56, eA (.aload_n 0) [0]),
  (57, eA (.getfield 42) [6, 6, 382]),
  (60, eA (.iload_n 1) [1]),
  (61, eA (.aaload) []),
  (62, eA (.iload_n 2) [2]),
  (63, eA (.iload_n 3) [3]),
  (64, eA (.invokevirtual 217) [0, 33, 2, 3, 594]),
  (67, eC (.iconst 1) 1),
  (68, eA (.ireturn) [])]
def hX6_sheet : Hd := (tX6_sheet, 6, false, 1)
def tX6_cell : List (Nat × En) := [(0, eA (.iload_n 1) [1]),
  (1, eA (.invokestatic 214) [0, 83, 1, 0, 591]),
  (4, eA (.ifCond .ne 6) [10]),
  (7, eC (.bipush (-2)) (-2)),
  (9, eA (.ireturn) []),
  (10, eA (.aload_n 0) [0]),
  (11, eA (.getfield 42) [6, 6, 382]),
  (14, eA (.iload_n 1) [1]),
  (15, eA (.aaload) []),
  (16, eA (.astore 4) [4]),
  (18, eA (.aload 4) [4]),
  (20, eA (.invokevirtual 262) [0, 30, 0, 3, 615]),
  (23, eA (.ifCond .eq 6) [29]),
  (26, eC (.bipush (-11)) (-11)),
  (28, eA (.ireturn) []),
  (29, eA (.aload 4) [4]),
  (31, eA (.iload_n 2) [2]),
  (32, eA (.invokevirtual 294) [0, 31, 1, 3, 745]),
  (35, eA (.ifCond .ne 6) [41]),
  (38, eC (.bipush (-12)) (-12)),
  (40, eA (.ireturn) []),
  (41, eA (.aload 4) [4]),
  (43, eA (.iload_n 2) [2]),
  (44, eA (.iload_n 3) [3]),
  (45, eA (.invokevirtual 220) [0, 34, 2, 3, 598]),
  (48, eC (.iconst 1) 1),
  (49, eA (.ireturn) [])]
def hX6_cell : Hd := (tX6_cell, 6, false, 1)
def tX6_copy : List (Nat × En) := [(0, eA (.iload_n 1) [1]),
  (1, eA (.invokestatic 214) [0, 83, 1, 0, 591]),
  (4, eA (.ifCond .eq 10) [14]),
  (7, eA (.iload_n 3) [3]),
  (8, eA (.invokestatic 214) [0, 83, 1, 0, 591]),
  (11, eA (.ifCond .ne 6) [17]),
  (14, eC (.bipush (-2)) (-2)),
  (16, eA (.ireturn) []),
  (17, eA (.aload_n 0) [0]),
  (18, eA (.getfield 42) [6, 6, 382]),
  (21, eA (.iload_n 1) [1]),
  (22, eA (.aaload) []),
  (23, eA (.astore 6) [6]),
  (25, eA (.aload_n 0) [0]),
  (26, eA (.getfield 42) [6, 6, 382]),
  (29, eA (.iload_n 3) [3]),
  (30, eA (.aaload) []),
  (31, eA (.astore 7) [7]),
  (33, eA (.aload 6) [6]),
  (35, eA (.invokevirtual 262) [0, 30, 0, 3, 615]),
  (38, eA (.ifCond .ne 11) [49]),
  (41, eA (.aload 7) [7]),
  (43, eA (.invokevirtual 262) [0, 30, 0, 3, 615]),
  (46, eA (.ifCond .eq 6) [52]),
  (49, eC (.bipush (-11)) (-11)),
  (51, eA (.ireturn) []),
  (52, eA (.aload 6) [6]),
  (54, eA (.getfield 295) [3, 0, 230]),
  (57, eA (.aload 7) [7]),
  (59, eA (.getfield 295) [3, 0, 230]),
  (62, eA (.if_icmp .eq 6) [68]),
  (65, eC (.bipush (-13)) (-13)),
  (67, eA (.ireturn) []),
  (68, eA (.aload 6) [6]),
  (70, eA (.iload_n 2) [2]),
  (71, eA (.iload 5) [5]),
  (73, eA (.invokevirtual 298) [0, 32, 2, 3, 753]),
  (76, eA (.ifCond .eq 15) [91]),
  (79, eA (.aload 7) [7]),
  (81, eA (.iload 4) [4]),
  (83, eA (.iload 5) [5]),
  (85, eA (.invokevirtual 298) [0, 32, 2, 3, 753]),
  (88, eA (.ifCond .ne 6) [94]),
  (91, eC (.bipush (-12)) (-12)),
  (93, eA (.ireturn) []),
  (94, eA (.aload 6) [6]),
  (96, eA (.getfield 301) [3, 2, 234]),
  (99, eA (.iload_n 2) [2]),
  (100, eA (.aload 7) [7]),
  (102, eA (.getfield 301) [3, 2, 234]),
  (105, eA (.iload 4) [4]),
  (107, eA (.iload 5) [5]),
  (109, eA (.invokestatic 178) [1, 4, 530]),
  (112, eA (.iload 5) [5]),
  (114, eA (.ireturn) [])]
def hX6_copy : Hd := (tX6_copy, 6, false, 1)
def tX6_people : List (Nat × En) := [(0, eA (.iload_n 1) [1]),
  (1, eA (.invokestatic 214) [0, 83, 1, 0, 591]),
  (4, eA (.ifCond .eq 21) [25]),
  (7, eA (.iload_n 2) [2]),
  (8, eA (.invokestatic 291) [0, 29, 1, 0, 738]),
  (11, eA (.ifCond .eq 14) [25]),
  (14, eA (.iload 4) [4]),
  (16, eA (.ifCond .lt 9) [25]),
  (19, eA (.iload 4) [4]),
  (21, eC (.iconst 5) 5),
  (22, eA (.if_icmp .le 6) [28]),
  (25, eC (.bipush (-2)) (-2)),
  (27, eA (.ireturn) []),
  (28, eA (.aload_n 0) [0]),
  (29, eA (.getfield 42) [6, 6, 382]),
  (32, eA (.iload_n 1) [1]),
  (33, eA (.aaload) []),
  (34, eA (.astore 5) [5]),
  (36, eA (.aload 5) [5]),
  (38, eA (.invokevirtual 262) [0, 30, 0, 3, 615]),
  (41, eA (.ifCond .eq 6) [47]),
  (44, eC (.bipush (-11)) (-11)),
  (46, eA (.ireturn) []),
  (47, eA (.aload 5) [5]),
  (49, eA (.getfield 295) [3, 0, 230]),
  (52, eA (.iload_n 2) [2]),
  (53, eA (.if_icmp .eq 6) [59]),
  (56, eC (.bipush (-13)) (-13)),
  (58, eA (.ireturn) []),
  (59, eC (.iconst 0) 0),
  (60, eA (.istore 6) [6]),
  (62, eC (.iconst 0) 0),
  (63, eA (.istore 7) [7]),
  (65, eA (.iload 7) [7]),
  (67, eA (.iload 4) [4]),
  (69, eA (.if_icmp .ge 59) [128]),
  (72, eA (.iload_n 3) [3]),
  (73, eC (.iconst 2) 2),
  (74, eA (.iload 7) [7]),
  (76, eA (.imul) []),
  (77, eA (.iadd) []),
  (78, eA (.istore 8) [8]),
  (80, eA (.aload 5) [5]),
  (82, eA (.iload 8) [8]),
  (84, eC (.iconst 2) 2),
  (85, eA (.invokevirtual 298) [0, 32, 2, 3, 753]),
  (88, eA (.ifCond .ne 6) [94]),
  (91, eC (.bipush (-12)) (-12)),
  (93, eA (.ireturn) []),
  (94, eA (.aload_n 0) [0]),
  (95, eA (.aload 5) [5]),
  (97, eA (.getfield 301) [3, 2, 234]),
  (100, eA (.iload 8) [8]),
  (102, eA (.iaload) []),
  (103, eA (.aload 5) [5]),
  (105, eA (.getfield 301) [3, 2, 234]),
  (108, eA (.iload 8) [8]),
  (110, eC (.iconst 1) 1),
  (111, eA (.iadd) []),
  (112, eA (.iaload) []),
  (113, eA (.invokevirtual 304) [0, 52, 2, 6, 761]),
  (116, eA (.ifCond .lt 6) [122]),
  (119, (.iinc 6 1, [6], 1, 0, [])),
  (122, (.iinc 7 1, [7], 1, 0, [])),
  (125, eA (.goto (-60)) [65]),
  (128, eA (.iload 6) [6]),
  (130, eA (.ireturn) [])]
def hX6_people : Hd := (tX6_people, 6, false, 1)
def tX6_taken : List (Nat × En) := [(0, eA (.iload_n 2) [2]),
  (1, eA (.ifCond .lt 9) [10]),
  (4, eA (.iload_n 2) [2]),
  (5, eC (.bipush 6) 6),
  (7, eA (.if_icmp .lt 6) [13]),
  (10, eC (.bipush (-2)) (-2)),
  (12, eA (.ireturn) []),
  (13, eA (.aload_n 0) [0]),
  (14, eA (.getfield 10) [6, 0, 376]),
  (17, eA (.iload_n 1) [1]),
  (18, eA (.invokevirtual 116) [0, 41, 1, 5, 428]),
  (21, eA (.ifCond .ne 6) [27]),
  (24, eC (.bipush (-11)) (-11)),
  (26, eA (.ireturn) []),
  (27, eA (.aload_n 0) [0]),
  (28, eA (.getfield 10) [6, 0, 376]),
  (31, eA (.getfield 123) [5, 5, 111]),
  (34, eA (.iload_n 1) [1]),
  (35, eA (.iaload) []),
  (36, eA (.iload_n 2) [2]),
  (37, eA (.invokestatic 307) [0, 11, 2, 0, 766]),
  (40, eA (.ifCond .eq 15) [55]),
  (43, eA (.aload_n 0) [0]),
  (44, eA (.getfield 10) [6, 0, 376]),
  (47, eA (.getfield 103) [5, 6, 113]),
  (50, eA (.iload_n 1) [1]),
  (51, eA (.iaload) []),
  (52, eA (.goto 5) [57]),
  (55, eC (.bipush (-13)) (-13)),
  (57, eA (.ireturn) [])]
def hX6_taken : Hd := (tX6_taken, 6, false, 1)
def tX6_isCoast : List (Nat × En) := [(0, eA (.iload_n 0) [0]),
  (1, eA (.ifCond .lt 13) [14]),
  (4, eA (.iload_n 0) [0]),
  (5, eC (.bipush 6) 6),
  (7, eA (.if_icmp .ge 7) [14]),
  (10, eC (.iconst 1) 1),
  (11, eA (.goto 4) [15]),
  (14, eC (.iconst 0) 0),
  (15, eA (.ireturn) [])]
def hX6_isCoast : Hd := (tX6_isCoast, 6, false, 2)
def tX6_isMark : List (Nat × En) := [(0, eA (.iload_n 0) [0]),
  (1, eA (.ifCond .lt 13) [14]),
  (4, eA (.iload_n 0) [0]),
  (5, eC (.bipush 6) 6),
  (7, eA (.if_icmp .ge 7) [14]),
  (10, eC (.iconst 1) 1),
  (11, eA (.goto 4) [15]),
  (14, eC (.iconst 0) 0),
  (15, eA (.ireturn) [])]
def hX6_isMark : Hd := (tX6_isMark, 6, false, 2)
def tX6_isPart : List (Nat × En) := [(0, eA (.iload_n 0) [0]),
  (1, eA (.ifCond .eq 8) [9]),
  (4, eA (.iload_n 0) [0]),
  (5, eC (.iconst 1) 1),
  (6, eA (.if_icmp .ne 7) [13]),
  (9, eC (.iconst 1) 1),
  (10, eA (.goto 4) [14]),
  (13, eC (.iconst 0) 0),
  (14, eA (.ireturn) [])]
def hX6_isPart : Hd := (tX6_isPart, 6, false, 2)
def tX6_isSheet : List (Nat × En) := [(0, eA (.iload_n 0) [0]),
  (1, eA (.ifCond .lt 12) [13]),
  (4, eA (.iload_n 0) [0]),
  (5, eC (.iconst 4) 4),
  (6, eA (.if_icmp .ge 7) [13]),
  (9, eC (.iconst 1) 1),
  (10, eA (.goto 4) [14]),
  (13, eC (.iconst 0) 0),
  (14, eA (.ireturn) [])]
def hX6_isSheet : Hd := (tX6_isSheet, 6, false, 2)
def tX6_areTwo : List (Nat × En) := [(0, eA (.aload_n 0) [0]),
  (1, eA (.getfield 10) [6, 0, 376]),
  (4, eA (.iload_n 1) [1]),
  (5, eA (.invokevirtual 116) [0, 41, 1, 5, 428]),
  (8, eA (.ifCond .eq 23) [31]),
  (11, eA (.aload_n 0) [0]),
  (12, eA (.getfield 10) [6, 0, 376]),
  (15, eA (.iload_n 2) [2]),
  (16, eA (.invokevirtual 116) [0, 41, 1, 5, 428]),
  (19, eA (.ifCond .eq 12) [31]),
  (22, eA (.iload_n 1) [1]),
  (23, eA (.iload_n 2) [2]),
  (24, eA (.if_icmp .eq 7) [31]),
  (27, eC (.iconst 1) 1),
  (28, eA (.goto 4) [32]),
  (31, eC (.iconst 0) 0),
  (32, eA (.ireturn) [])]
def hX6_areTwo : Hd := (tX6_areTwo, 6, false, 2)
def tX6_isPlace : List (Nat × En) := [(0, eA (.iload_n 0) [0]),
  (1, eA (.ifCond .lt 24) [25]),
  (4, eA (.iload_n 0) [0]),
  (5, eC (.bipush 10) 10),
  (7, eA (.idiv) []),
  (8, eA (.iload_n 1) [1]),
  (9, eA (.if_icmp .ge 16) [25]),
  (12, eA (.iload_n 0) [0]),
  (13, eC (.bipush 10) 10),
  (15, eA (.irem) []),
  (16, eC (.bipush 6) 6),
  (18, eA (.if_icmp .ge 7) [25]),
  (21, eC (.iconst 1) 1),
  (22, eA (.goto 4) [26]),
  (25, eC (.iconst 0) 0),
  (26, eA (.ireturn) [])]
def hX6_isPlace : Hd := (tX6_isPlace, 6, false, 2)
def tX6_placeOf : List (Nat × En) := [(0, eA (.iload_n 0) [0]),
  (1, eC (.bipush 10) 10),
  (3, eA (.idiv) []),
  (4, eC (.bipush 6) 6),
  (6, eA (.imul) []),
  (7, eA (.iload_n 0) [0]),
  (8, eC (.bipush 10) 10),
  (10, eA (.irem) []),
  (11, eA (.iadd) []),
  (12, eA (.ireturn) [])]
def hX6_placeOf : Hd := (tX6_placeOf, 6, false, 1)
def tX6_mostOf : List (Nat × En) := [(0, eA (.iload_n 0) [0]),
  (1, (.tableswitch 37 0 2 #[27, 31, 34], [38], 0, 0, [(0, 28), (1, 32), (2, 35)])),
  (28, eC (.sipush 999) 999),
  (31, eA (.ireturn) []),
  (32, eC (.bipush 99) 99),
  (34, eA (.ireturn) []),
  (35, eC (.bipush 9) 9),
  (37, eA (.ireturn) []),
  (38, eC (.sipush 9999) 9999),
  (41, eA (.ireturn) [])]
def hX6_mostOf : Hd := (tX6_mostOf, 6, false, 1)
def tX6_areStays : List (Nat × En) := [(0, eA (.iload_n 0) [0]),
  (1, eA (.ifCond .lt 10) [11]),
  (4, eA (.iload_n 0) [0]),
  (5, (.ldc_w 312, [1, 582], 333333, 0, [])),
  (8, eA (.if_icmp .le 5) [13]),
  (11, eC (.iconst 0) 0),
  (12, eA (.ireturn) []),
  (13, eA (.iload_n 0) [0]),
  (14, eA (.istore_n 1) [1]),
  (15, eC (.iconst 0) 0),
  (16, eA (.istore_n 2) [2]),
  (17, eA (.iload_n 2) [2]),
  (18, eC (.bipush 6) 6),
  (20, eA (.if_icmp .ge 24) [44]),
  (23, eA (.iload_n 1) [1]),
  (24, eC (.bipush 10) 10),
  (26, eA (.irem) []),
  (27, eC (.iconst 3) 3),
  (28, eA (.if_icmp .le 5) [33]),
  (31, eC (.iconst 0) 0),
  (32, eA (.ireturn) []),
  (33, eA (.iload_n 1) [1]),
  (34, eC (.bipush 10) 10),
  (36, eA (.idiv) []),
  (37, eA (.istore_n 1) [1]),
  (38, (.iinc 2 1, [2], 1, 0, [])),
  (41, eA (.goto (-24)) [17]),
  (44, eC (.iconst 1) 1),
  (45, eA (.ireturn) [])]
def hX6_areStays : Hd := (tX6_areStays, 6, false, 2)
def tX6_valueOf : List (Nat × En) := [(0, eA (.aload_n 0) [0]),
  (1, eA (.getfield 32) [6, 4, 380]),
  (4, eA (.iload_n 1) [1]),
  (5, eA (.aaload) []),
  (6, eA (.iload_n 2) [2]),
  (7, eA (.aload_n 0) [0]),
  (8, eA (.getfield 53) [6, 8, 384]),
  (11, eA (.aload_n 0) [0]),
  (12, eA (.getfield 57) [6, 9, 385]),
  (15, eA (.invokevirtual 313) [0, 38, 3, 4, 477]),
  (18, eA (.istore 4) [4]),
  (20, eC (.iconst 0) 0),
  (21, eA (.iload 4) [4]),
  (23, eA (.iload_n 3) [3]),
  (24, eA (.invokestatic 173) [1, 1, 484]),
  (27, eA (.invokestatic 317) [1, 2, 487]),
  (30, eA (.ireturn) [])]
def hX6_valueOf : Hd := (tX6_valueOf, 6, false, 1)
def tX6_nameAll : List (Nat × En) := [(0, eA (.aload_n 0) [0]),
  (1, eA (.getfield 53) [6, 8, 384]),
  (4, eC (.iconst 0) 0),
  (5, eA (.iload_n 1) [1]),
  (6, eA (.iastore) []),
  (7, eA (.aload_n 0) [0]),
  (8, eA (.getfield 53) [6, 8, 384]),
  (11, eC (.iconst 1) 1),
  (12, eA (.iload_n 2) [2]),
  (13, eA (.iastore) []),
  (14, eA (.aload_n 0) [0]),
  (15, eA (.getfield 53) [6, 8, 384]),
  (18, eC (.iconst 2) 2),
  (19, eA (.iload_n 3) [3]),
  (20, eA (.iastore) []),
  (21, eA (.aload_n 0) [0]),
  (22, eA (.getfield 53) [6, 8, 384]),
  (25, eC (.iconst 3) 3),
  (26, eA (.iload 4) [4]),
  (28, eA (.iastore) []),
  (29, eA (.aload_n 0) [0]),
  (30, eA (.getfield 53) [6, 8, 384]),
  (33, eC (.iconst 4) 4),
  (34, eA (.iload 5) [5]),
  (36, eA (.iastore) []),
  (37, eA (.aload_n 0) [0]),
  (38, eA (.getfield 53) [6, 8, 384]),
  (41, eC (.iconst 5) 5),
  (42, eA (.iload 6) [6]),
  (44, eA (.iastore) []),
  (45, eA (.return_) [])]
def hX6_nameAll : Hd := (tX6_nameAll, 6, false, 0)
def tX6_takesOf : List (Nat × En) := [(0, eA (.aload_n 0) [0]),
  (1, eA (.aload_n 0) [0]),
  (2, eA (.getfield 10) [6, 0, 376]),
  (5, eA (.getfield 97) [5, 3, 107]),
  (8, eA (.iload 4) [4]),
  (10, eC (.bipush 6) 6),
  (12, eA (.imul) []),
  (13, eA (.iload 5) [5]),
  (15, eA (.iadd) []),
  (16, eA (.iaload) []),
  (17, eA (.iload 5) [5]),
  (19, eA (.iload_n 2) [2]),
  (20, eA (.iload_n 3) [3]),
  (21, eA (.iload 4) [4]),
  (23, eC (.iconst 0) 0),
  (24, eA (.invokevirtual 320) [0, 90, 6, 6, 469]),
  (27, eA (.iload_n 1) [1]),
  (28, eA (.aload_n 0) [0]),
  (29, eA (.iload 6) [6]),
  (31, eC (.iconst 0) 0),
  (32, eC (.bipush 99) 99),
  (34, eA (.invokevirtual 324) [0, 89, 3, 6, 473]),
  (37, eA (.iload 5) [5]),
  (39, eA (.iload_n 2) [2]),
  (40, eA (.invokestatic 327) [0, 7, 4, 0, 509]),
  (43, eA (.ireturn) [])]
def hX6_takesOf : Hd := (tX6_takesOf, 6, false, 1)
def tX6_takesNow : List (Nat × En) := [(0, eA (.aload_n 0) [0]),
  (1, eA (.aload_n 0) [0]),
  (2, eA (.getfield 10) [6, 0, 376]),
  (5, eA (.getfield 123) [5, 5, 111]),
  (8, eA (.iload_n 1) [1]),
  (9, eA (.iaload) []),
  (10, eA (.aload_n 0) [0]),
  (11, eA (.getfield 10) [6, 0, 376]),
  (14, eA (.getfield 103) [5, 6, 113]),
  (17, eA (.iload_n 1) [1]),
  (18, eA (.iaload) []),
  (19, eA (.aload_n 0) [0]),
  (20, eA (.getfield 10) [6, 0, 376]),
  (23, eA (.getfield 94) [5, 0, 101]),
  (26, eA (.iload_n 2) [2]),
  (27, eA (.iload_n 3) [3]),
  (28, eA (.aload_n 0) [0]),
  (29, eA (.getfield 10) [6, 0, 376]),
  (32, eA (.getfield 170) [5, 1, 103]),
  (35, eA (.invokevirtual 330) [0, 91, 6, 6, 505]),
  (38, eA (.ireturn) [])]
def hX6_takesNow : Hd := (tX6_takesNow, 6, false, 1)
def tX6_keepsOf : List (Nat × En) := [(0, eA (.aload_n 0) [0]),
  (1, eA (.getfield 10) [6, 0, 376]),
  (4, eA (.getfield 106) [5, 4, 109]),
  (7, eA (.iload_n 1) [1]),
  (8, eC (.bipush 6) 6),
  (10, eA (.imul) []),
  (11, eA (.iload_n 2) [2]),
  (12, eA (.iadd) []),
  (13, eA (.iaload) []),
  (14, eA (.istore_n 3) [3]),
  (15, eA (.aload_n 0) [0]),
  (16, eA (.iload_n 3) [3]),
  (17, eA (.iload_n 2) [2]),
  (18, eA (.aload_n 0) [0]),
  (19, eA (.getfield 10) [6, 0, 376]),
  (22, eA (.getfield 103) [5, 6, 113]),
  (25, eA (.iload_n 1) [1]),
  (26, eA (.iaload) []),
  (27, eA (.aload_n 0) [0]),
  (28, eA (.getfield 10) [6, 0, 376]),
  (31, eA (.getfield 94) [5, 0, 101]),
  (34, eC (.iconst 0) 0),
  (35, eA (.aload_n 0) [0]),
  (36, eA (.getfield 10) [6, 0, 376]),
  (39, eA (.iload_n 1) [1]),
  (40, eA (.invokevirtual 129) [0, 45, 1, 5, 432]),
  (43, eA (.invokevirtual 320) [0, 90, 6, 6, 469]),
  (46, eA (.aload_n 0) [0]),
  (47, eA (.getfield 10) [6, 0, 376]),
  (50, eA (.getfield 123) [5, 5, 111]),
  (53, eA (.iload_n 1) [1]),
  (54, eA (.iaload) []),
  (55, eA (.aload_n 0) [0]),
  (56, eA (.aload_n 0) [0]),
  (57, eA (.getfield 10) [6, 0, 376]),
  (60, eA (.getfield 170) [5, 1, 103]),
  (63, eC (.iconst 1) 1),
  (64, eC (.bipush 100) 100),
  (66, eA (.invokevirtual 324) [0, 89, 3, 6, 473]),
  (69, eA (.iload_n 3) [3]),
  (70, eA (.invokestatic 334) [0, 9, 3, 0, 490]),
  (73, eA (.ireturn) [])]
def hX6_keepsOf : Hd := (tX6_keepsOf, 6, false, 1)
def tX6_sureOf : List (Nat × En) := [(0, eA (.aload_n 0) [0]),
  (1, eA (.getfield 10) [6, 0, 376]),
  (4, eA (.getfield 103) [5, 6, 113]),
  (7, eA (.iload_n 1) [1]),
  (8, eA (.iaload) []),
  (9, eA (.istore 4) [4]),
  (11, eA (.aload_n 0) [0]),
  (12, eA (.aload_n 0) [0]),
  (13, eA (.getfield 10) [6, 0, 376]),
  (16, eA (.getfield 106) [5, 4, 109]),
  (19, eA (.iload_n 2) [2]),
  (20, eC (.bipush 6) 6),
  (22, eA (.imul) []),
  (23, eA (.iload_n 3) [3]),
  (24, eA (.iadd) []),
  (25, eA (.iaload) []),
  (26, eA (.iload_n 3) [3]),
  (27, eA (.iload 4) [4]),
  (29, eA (.aload_n 0) [0]),
  (30, eA (.getfield 10) [6, 0, 376]),
  (33, eA (.getfield 94) [5, 0, 101]),
  (36, eC (.iconst 0) 0),
  (37, eA (.aload_n 0) [0]),
  (38, eA (.getfield 10) [6, 0, 376]),
  (41, eA (.iload_n 2) [2]),
  (42, eA (.invokevirtual 129) [0, 45, 1, 5, 432]),
  (45, eA (.invokevirtual 320) [0, 90, 6, 6, 469]),
  (48, eA (.aload_n 0) [0]),
  (49, eA (.getfield 10) [6, 0, 376]),
  (52, eA (.getfield 123) [5, 5, 111]),
  (55, eA (.iload_n 1) [1]),
  (56, eA (.iaload) []),
  (57, eA (.aload_n 0) [0]),
  (58, eA (.aload_n 0) [0]),
  (59, eA (.getfield 10) [6, 0, 376]),
  (62, eA (.getfield 170) [5, 1, 103]),
  (65, eC (.iconst 2) 2),
  (66, eC (.bipush 99) 99),
  (68, eA (.invokevirtual 324) [0, 89, 3, 6, 473]),
  (71, eA (.iload 4) [4]),
  (73, eA (.invokestatic 337) [0, 10, 3, 0, 498]),
  (76, eA (.ireturn) [])]
def hX6_sureOf : Hd := (tX6_sureOf, 6, false, 1)
def tX6_tellsExaminer : List (Nat × En) := [(0, eC (.iconst 0) 0),
  (1, eA (.istore_n 3) [3]),
  (2, eC (.iconst 0) 0),
  (3, eA (.istore 4) [4]),
  (5, eA (.iload 4) [4]),
  (7, eC (.bipush 6) 6),
  (9, eA (.if_icmp .ge 38) [47]),
  (12, eA (.aload_n 0) [0]),
  (13, eA (.getfield 10) [6, 0, 376]),
  (16, eA (.getfield 106) [5, 4, 109]),
  (19, eA (.iload_n 1) [1]),
  (20, eC (.bipush 6) 6),
  (22, eA (.imul) []),
  (23, eA (.iload 4) [4]),
  (25, eA (.iadd) []),
  (26, eA (.iaload) []),
  (27, eA (.ifCond .le 14) [41]),
  (30, eA (.iload_n 3) [3]),
  (31, eA (.aload_n 0) [0]),
  (32, eA (.iload_n 2) [2]),
  (33, eA (.iload_n 1) [1]),
  (34, eA (.iload 4) [4]),
  (36, eA (.invokevirtual 144) [0, 94, 3, 6, 494]),
  (39, eA (.iadd) []),
  (40, eA (.istore_n 3) [3]),
  (41, (.iinc 4 1, [4], 1, 0, [])),
  (44, eA (.goto (-39)) [5]),
  (47, eA (.iload_n 3) [3]),
  (48, eA (.ireturn) [])]
def hX6_tellsExaminer : Hd := (tX6_tellsExaminer, 6, false, 1)
def tX6_tellDailyTakes : List (Nat × En) := [(0, eA (.aload_n 0) [0]),
  (1, eA (.getfield 10) [6, 0, 376]),
  (4, eA (.getfield 123) [5, 5, 111]),
  (7, eA (.iload_n 1) [1]),
  (8, eA (.iaload) []),
  (9, eA (.istore_n 2) [2]),
  (10, eA (.aload_n 0) [0]),
  (11, eA (.getfield 10) [6, 0, 376]),
  (14, eA (.getfield 103) [5, 6, 113]),
  (17, eA (.iload_n 1) [1]),
  (18, eA (.iaload) []),
  (19, eA (.istore_n 3) [3]),
  (20, eC (.iconst 0) 0),
  (21, eA (.istore 4) [4]),
  (23, eA (.iload 4) [4]),
  (25, eC (.bipush 6) 6),
  (27, eA (.if_icmp .ge 62) [89]),
  (30, eC (.iconst 0) 0),
  (31, eA (.istore 5) [5]),
  (33, eA (.iload 5) [5]),
  (35, eC (.bipush 6) 6),
  (37, eA (.if_icmp .ge 46) [83]),
  (40, eA (.aload_n 0) [0]),
  (41, eA (.getfield 60) [6, 10, 386]),
  (44, eA (.iload 4) [4]),
  (46, eC (.bipush 6) 6),
  (48, eA (.imul) []),
  (49, eA (.iload 5) [5]),
  (51, eA (.iadd) []),
  (52, eA (.aload_n 0) [0]),
  (53, eA (.iload_n 2) [2]),
  (54, eA (.iload_n 3) [3]),
  (55, eA (.aload_n 0) [0]),
  (56, eA (.getfield 10) [6, 0, 376]),
  (59, eA (.getfield 94) [5, 0, 101]),
  (62, eA (.iload 4) [4]),
  (64, eA (.iload 5) [5]),
  (66, eA (.aload_n 0) [0]),
  (67, eA (.getfield 10) [6, 0, 376]),
  (70, eA (.getfield 170) [5, 1, 103]),
  (73, eA (.invokevirtual 330) [0, 91, 6, 6, 505]),
  (76, eA (.iastore) []),
  (77, (.iinc 5 1, [5], 1, 0, [])),
  (80, eA (.goto (-47)) [33]),
  (83, (.iinc 4 1, [4], 1, 0, [])),
  (86, eA (.goto (-63)) [23]),
  (89, eA (.return_) [])]
def hX6_tellDailyTakes : Hd := (tX6_tellDailyTakes, 6, false, 0)
def tX6_takesByStays : List (Nat × En) := [(0, eC (.iconst 0) 0),
  (1, eA (.istore 4) [4]),
  (3, eA (.iload_n 2) [2]),
  (4, eA (.istore 5) [5]),
  (6, eC (.iconst 5) 5),
  (7, eA (.istore 6) [6]),
  (9, eA (.iload 6) [6]),
  (11, eA (.ifCond .lt 35) [46]),
  (14, eA (.iload 4) [4]),
  (16, eA (.iload 5) [5]),
  (18, eC (.bipush 10) 10),
  (20, eA (.irem) []),
  (21, eA (.aload_n 0) [0]),
  (22, eA (.iload_n 1) [1]),
  (23, eA (.iload 6) [6]),
  (25, eA (.iload_n 3) [3]),
  (26, eA (.invokevirtual 148) [0, 92, 3, 6, 501]),
  (29, eA (.imul) []),
  (30, eA (.iadd) []),
  (31, eA (.istore 4) [4]),
  (33, eA (.iload 5) [5]),
  (35, eC (.bipush 10) 10),
  (37, eA (.idiv) []),
  (38, eA (.istore 5) [5]),
  (40, (.iinc 6 (-1), [6], (-1), 0, [])),
  (43, eA (.goto (-34)) [9]),
  (46, eA (.iload 4) [4]),
  (48, eA (.ireturn) [])]
def hX6_takesByStays : Hd := (tX6_takesByStays, 6, false, 1)
def tX6_findFits : List (Nat × En) := [(0, eA (.aload_n 1) [1]),
  (1, eA (.invokevirtual 262) [0, 30, 0, 3, 615]),
  (4, eA (.ifCond .eq 6) [10]),
  (7, eC (.bipush (-11)) (-11)),
  (9, eA (.ireturn) []),
  (10, eA (.aload_n 1) [1]),
  (11, eA (.getfield 266) [3, 1, 232]),
  (14, eC (.bipush 6) 6),
  (16, eA (.if_icmp .eq 6) [22]),
  (19, eC (.bipush (-2)) (-2)),
  (21, eA (.ireturn) []),
  (22, eA (.aload_n 0) [0]),
  (23, eA (.iload_n 2) [2]),
  (24, eA (.invokevirtual 248) [0, 96, 1, 6, 619]),
  (27, eA (.aload_n 0) [0]),
  (28, eA (.getfield 49) [6, 7, 383]),
  (31, eA (.aload_n 0) [0]),
  (32, eA (.getfield 60) [6, 10, 386]),
  (35, eA (.aload_n 1) [1]),
  (36, eA (.getfield 301) [3, 2, 234]),
  (39, eA (.invokevirtual 340) [0, 1, 2, 1, 623]),
  (42, eC (.iconst 0) 0),
  (43, eA (.ireturn) [])]
def hX6_findFits : Hd := (tX6_findFits, 6, false, 1)
def tX6_neverGoesBack : List (Nat × En) := [(0, eA (.iload_n 0) [0]),
  (1, eA (.istore_n 2) [2]),
  (2, eC (.iconst 5) 5),
  (3, eA (.istore_n 3) [3]),
  (4, eC (.iconst 0) 0),
  (5, eA (.istore 4) [4]),
  (7, eA (.iload 4) [4]),
  (9, eA (.iload_n 1) [1]),
  (10, eA (.if_icmp .ge 31) [41]),
  (13, eA (.iload_n 2) [2]),
  (14, eC (.bipush 6) 6),
  (16, eA (.irem) []),
  (17, eA (.istore 5) [5]),
  (19, eA (.iload 5) [5]),
  (21, eA (.iload_n 3) [3]),
  (22, eA (.if_icmp .le 5) [27]),
  (25, eC (.iconst 0) 0),
  (26, eA (.ireturn) []),
  (27, eA (.iload 5) [5]),
  (29, eA (.istore_n 3) [3]),
  (30, eA (.iload_n 2) [2]),
  (31, eC (.bipush 6) 6),
  (33, eA (.idiv) []),
  (34, eA (.istore_n 2) [2]),
  (35, (.iinc 4 1, [4], 1, 0, [])),
  (38, eA (.goto (-31)) [7]),
  (41, eC (.iconst 1) 1),
  (42, eA (.ireturn) [])]
def hX6_neverGoesBack : Hd := (tX6_neverGoesBack, 6, false, 2)
def tX6_digitsOfWay : List (Nat × En) := [(0, eC (.iconst 0) 0),
  (1, eA (.istore_n 2) [2]),
  (2, eA (.iload_n 0) [0]),
  (3, eA (.istore_n 3) [3]),
  (4, eC (.iconst 1) 1),
  (5, eA (.istore 4) [4]),
  (7, eC (.iconst 0) 0),
  (8, eA (.istore 5) [5]),
  (10, eA (.iload 5) [5]),
  (12, eA (.iload_n 1) [1]),
  (13, eA (.if_icmp .ge 33) [46]),
  (16, eA (.iload_n 2) [2]),
  (17, eA (.iload_n 3) [3]),
  (18, eC (.bipush 6) 6),
  (20, eA (.irem) []),
  (21, eC (.iconst 1) 1),
  (22, eA (.iadd) []),
  (23, eA (.iload 4) [4]),
  (25, eA (.imul) []),
  (26, eA (.iadd) []),
  (27, eA (.istore_n 2) [2]),
  (28, eA (.iload_n 3) [3]),
  (29, eC (.bipush 6) 6),
  (31, eA (.idiv) []),
  (32, eA (.istore_n 3) [3]),
  (33, eA (.iload 4) [4]),
  (35, eC (.bipush 10) 10),
  (37, eA (.imul) []),
  (38, eA (.istore 4) [4]),
  (40, (.iinc 5 1, [5], 1, 0, [])),
  (43, eA (.goto (-33)) [10]),
  (46, eA (.iload_n 2) [2]),
  (47, eA (.ireturn) [])]
def hX6_digitsOfWay : Hd := (tX6_digitsOfWay, 6, false, 1)
def tX6_apartAfter : List (Nat × En) := [(0, eA (.aload_n 0) [0]),
  (1, eA (.getfield 10) [6, 0, 376]),
  (4, eA (.getfield 106) [5, 4, 109]),
  (7, eA (.iload_n 1) [1]),
  (8, eC (.bipush 6) 6),
  (10, eA (.imul) []),
  (11, eA (.aload_n 0) [0]),
  (12, eA (.getfield 63) [6, 11, 387]),
  (15, eC (.iconst 0) 0),
  (16, eC (.bipush 6) 6),
  (18, eA (.invokestatic 178) [1, 4, 530]),
  (21, eA (.iload_n 3) [3]),
  (22, eA (.istore 5) [5]),
  (24, eC (.iconst 0) 0),
  (25, eA (.istore 6) [6]),
  (27, eA (.iload 6) [6]),
  (29, eA (.iload 4) [4]),
  (31, eA (.if_icmp .ge 25) [56]),
  (34, eA (.aload_n 0) [0]),
  (35, eA (.iload 5) [5]),
  (37, eC (.bipush 6) 6),
  (39, eA (.irem) []),
  (40, eA (.invokevirtual 343) [0, 102, 1, 6, 662]),
  (43, eA (.iload 5) [5]),
  (45, eC (.bipush 6) 6),
  (47, eA (.idiv) []),
  (48, eA (.istore 5) [5]),
  (50, (.iinc 6 1, [6], 1, 0, [])),
  (53, eA (.goto (-26)) [27]),
  (56, eC (.iconst 0) 0),
  (57, eA (.istore 6) [6]),
  (59, eC (.iconst 0) 0),
  (60, eA (.istore 7) [7]),
  (62, eA (.iload 7) [7]),
  (64, eC (.bipush 6) 6),
  (66, eA (.if_icmp .ge 40) [106]),
  (69, eA (.iload 6) [6]),
  (71, eA (.aload_n 0) [0]),
  (72, eA (.getfield 63) [6, 11, 387]),
  (75, eA (.iload 7) [7]),
  (77, eA (.iaload) []),
  (78, eA (.aload_n 0) [0]),
  (79, eA (.getfield 10) [6, 0, 376]),
  (82, eA (.getfield 106) [5, 4, 109]),
  (85, eA (.iload_n 2) [2]),
  (86, eC (.bipush 6) 6),
  (88, eA (.imul) []),
  (89, eA (.iload 7) [7]),
  (91, eA (.iadd) []),
  (92, eA (.iaload) []),
  (93, eA (.isub) []),
  (94, eA (.invokestatic 346) [1, 3, 666]),
  (97, eA (.iadd) []),
  (98, eA (.istore 6) [6]),
  (100, (.iinc 7 1, [7], 1, 0, [])),
  (103, eA (.goto (-41)) [62]),
  (106, eA (.iload 6) [6]),
  (108, eA (.ireturn) [])]
def hX6_apartAfter : Hd := (tX6_apartAfter, 6, false, 1)
def tX6_goInThought : List (Nat × En) := [(0, eC (.iconst 0) 0),
  (1, eA (.istore_n 2) [2]),
  (2, eA (.iload_n 2) [2]),
  (3, eC (.bipush 6) 6),
  (5, eA (.if_icmp .ge 39) [44]),
  (8, eA (.aload_n 0) [0]),
  (9, eA (.getfield 63) [6, 11, 387]),
  (12, eA (.iload_n 2) [2]),
  (13, eA (.aload_n 0) [0]),
  (14, eA (.getfield 63) [6, 11, 387]),
  (17, eA (.iload_n 2) [2]),
  (18, eA (.iaload) []),
  (19, eA (.aload_n 0) [0]),
  (20, eA (.getfield 60) [6, 10, 386]),
  (23, eA (.iload_n 1) [1]),
  (24, eC (.bipush 6) 6),
  (26, eA (.imul) []),
  (27, eA (.iload_n 2) [2]),
  (28, eA (.iadd) []),
  (29, eA (.iaload) []),
  (30, eA (.iadd) []),
  (31, eC (.sipush 9999) 9999),
  (34, eA (.invokestatic 173) [1, 1, 484]),
  (37, eA (.iastore) []),
  (38, (.iinc 2 1, [2], 1, 0, [])),
  (41, eA (.goto (-39)) [2]),
  (44, eA (.return_) [])]
def hX6_goInThought : Hd := (tX6_goInThought, 6, false, 0)
def tX6_allAfterDrawn : List (Nat × En) := [(0, eA (.aload_n 0) [0]),
  (1, eA (.getfield 10) [6, 0, 376]),
  (4, eA (.getfield 106) [5, 4, 109]),
  (7, eA (.iload_n 2) [2]),
  (8, eC (.bipush 6) 6),
  (10, eA (.imul) []),
  (11, eA (.aload_n 0) [0]),
  (12, eA (.getfield 63) [6, 11, 387]),
  (15, eC (.iconst 0) 0),
  (16, eC (.bipush 6) 6),
  (18, eA (.invokestatic 178) [1, 4, 530]),
  (21, eA (.iload_n 1) [1]),
  (22, eA (.istore 4) [4]),
  (24, eC (.iconst 0) 0),
  (25, eA (.istore 5) [5]),
  (27, eA (.iload 5) [5]),
  (29, eA (.iload_n 3) [3]),
  (30, eA (.if_icmp .ge 44) [74]),
  (33, eA (.iload 4) [4]),
  (35, (.ldc_w 349, [1, 702], 1103515245, 0, [])),
  (38, eA (.imul) []),
  (39, eC (.sipush 12345) 12345),
  (42, eA (.iadd) []),
  (43, eA (.istore 4) [4]),
  (45, eA (.aload_n 0) [0]),
  (46, eA (.iload_n 2) [2]),
  (47, eA (.aload_n 0) [0]),
  (48, eA (.getfield 10) [6, 0, 376]),
  (51, eA (.getfield 94) [5, 0, 101]),
  (54, eA (.iload 5) [5]),
  (56, eA (.iadd) []),
  (57, eA (.iload 4) [4]),
  (59, eC (.bipush 9) 9),
  (61, eA (.iushr) []),
  (62, eC (.bipush 6) 6),
  (64, eA (.irem) []),
  (65, eA (.invokevirtual 350) [0, 104, 3, 6, 703]),
  (68, (.iinc 5 1, [5], 1, 0, [])),
  (71, eA (.goto (-44)) [27]),
  (74, eA (.aload_n 0) [0]),
  (75, eA (.getfield 63) [6, 11, 387]),
  (78, eC (.iconst 0) 0),
  (79, eC (.bipush 6) 6),
  (81, eA (.invokestatic 354) [0, 109, 3, 0, 707]),
  (84, eA (.ireturn) [])]
def hX6_allAfterDrawn : Hd := (tX6_allAfterDrawn, 6, false, 1)
def tX6_stayInThought : List (Nat × En) := [(0, eC (.iconst 0) 0),
  (1, eA (.istore 4) [4]),
  (3, eA (.iload 4) [4]),
  (5, eC (.bipush 6) 6),
  (7, eA (.if_icmp .ge 67) [74]),
  (10, eA (.aload_n 0) [0]),
  (11, eA (.aload_n 0) [0]),
  (12, eA (.getfield 10) [6, 0, 376]),
  (15, eA (.getfield 123) [5, 5, 111]),
  (18, eA (.iload_n 1) [1]),
  (19, eA (.iaload) []),
  (20, eA (.aload_n 0) [0]),
  (21, eA (.getfield 10) [6, 0, 376]),
  (24, eA (.getfield 103) [5, 6, 113]),
  (27, eA (.iload_n 1) [1]),
  (28, eA (.iaload) []),
  (29, eA (.iload_n 2) [2]),
  (30, eA (.iload_n 3) [3]),
  (31, eA (.iload 4) [4]),
  (33, eA (.aload_n 0) [0]),
  (34, eA (.getfield 10) [6, 0, 376]),
  (37, eA (.getfield 170) [5, 1, 103]),
  (40, eA (.invokevirtual 330) [0, 91, 6, 6, 505]),
  (43, eA (.istore 5) [5]),
  (45, eA (.aload_n 0) [0]),
  (46, eA (.getfield 63) [6, 11, 387]),
  (49, eA (.iload 4) [4]),
  (51, eA (.aload_n 0) [0]),
  (52, eA (.getfield 63) [6, 11, 387]),
  (55, eA (.iload 4) [4]),
  (57, eA (.iaload) []),
  (58, eA (.iload 5) [5]),
  (60, eA (.iadd) []),
  (61, eC (.sipush 9999) 9999),
  (64, eA (.invokestatic 173) [1, 1, 484]),
  (67, eA (.iastore) []),
  (68, (.iinc 4 1, [4], 1, 0, [])),
  (71, eA (.goto (-68)) [3]),
  (74, eA (.return_) [])]
def hX6_stayInThought : Hd := (tX6_stayInThought, 6, false, 0)
def tX6_firstOtherwise : List (Nat × En) := [(0, eA (.iload 4) [4]),
  (2, eC (.iconst 1) 1),
  (3, eA (.if_icmp .ne 8) [11]),
  (6, eA (.iload 5) [5]),
  (8, eA (.goto 12) [20]),
  (11, eA (.aload_n 0) [0]),
  (12, eA (.getfield 10) [6, 0, 376]),
  (15, eA (.getfield 123) [5, 5, 111]),
  (18, eA (.iload_n 2) [2]),
  (19, eA (.iaload) []),
  (20, eA (.istore 6) [6]),
  (22, eA (.iload 4) [4]),
  (24, eC (.iconst 2) 2),
  (25, eA (.if_icmp .ne 8) [33]),
  (28, eA (.iload 5) [5]),
  (30, eA (.goto 12) [42]),
  (33, eA (.aload_n 0) [0]),
  (34, eA (.getfield 10) [6, 0, 376]),
  (37, eA (.getfield 103) [5, 6, 113]),
  (40, eA (.iload_n 2) [2]),
  (41, eA (.iaload) []),
  (42, eA (.istore 7) [7]),
  (44, eA (.iload 4) [4]),
  (46, eC (.iconst 3) 3),
  (47, eA (.if_icmp .ne 8) [55]),
  (50, eA (.iload 5) [5]),
  (52, eA (.goto 10) [62]),
  (55, eA (.aload_n 0) [0]),
  (56, eA (.getfield 10) [6, 0, 376]),
  (59, eA (.getfield 94) [5, 0, 101]),
  (62, eA (.istore 8) [8]),
  (64, eA (.iload 4) [4]),
  (66, eC (.iconst 5) 5),
  (67, eA (.if_icmp .ne 8) [75]),
  (70, eA (.iload 5) [5]),
  (72, eA (.goto 4) [76]),
  (75, eA (.iload_n 3) [3]),
  (76, eA (.istore 9) [9]),
  (78, eA (.iload 4) [4]),
  (80, eC (.bipush 6) 6),
  (82, eA (.if_icmp .ne 8) [90]),
  (85, eA (.iload 5) [5]),
  (87, eA (.goto 10) [97]),
  (90, eA (.aload_n 0) [0]),
  (91, eA (.getfield 10) [6, 0, 376]),
  (94, eA (.getfield 170) [5, 1, 103]),
  (97, eA (.istore 10) [10]),
  (99, eC (.iconst 0) 0),
  (100, eA (.istore 11) [11]),
  (102, eA (.iload 11) [11]),
  (104, eA (.aload_n 1) [1]),
  (105, eA (.getfield 266) [3, 1, 232]),
  (108, eA (.if_icmp .ge 45) [153]),
  (111, eA (.iload 11) [11]),
  (113, eC (.bipush 6) 6),
  (115, eA (.if_icmp .ge 38) [153]),
  (118, eA (.aload_n 0) [0]),
  (119, eA (.iload 6) [6]),
  (121, eA (.iload 7) [7]),
  (123, eA (.iload 8) [8]),
  (125, eA (.iload 9) [9]),
  (127, eA (.iload 11) [11]),
  (129, eA (.iload 10) [10]),
  (131, eA (.invokevirtual 330) [0, 91, 6, 6, 505]),
  (134, eA (.aload_n 1) [1]),
  (135, eA (.getfield 301) [3, 2, 234]),
  (138, eA (.iload 11) [11]),
  (140, eA (.iaload) []),
  (141, eA (.if_icmp .eq 6) [147]),
  (144, eA (.iload 11) [11]),
  (146, eA (.ireturn) []),
  (147, (.iinc 11 1, [11], 1, 0, [])),
  (150, eA (.goto (-48)) [102]),
  (153, eC (.iconst (-1)) (-1)),
  (154, eA (.ireturn) [])]
def hX6_firstOtherwise : Hd := (tX6_firstOtherwise, 6, false, 1)
def tX6_bitsThatTell : List (Nat × En) := [(0, eC (.iconst 0) 0),
  (1, eA (.istore 6) [6]),
  (3, eC (.iconst 0) 0),
  (4, eA (.istore 7) [7]),
  (6, eA (.iload 7) [7]),
  (8, eA (.iload 5) [5]),
  (10, eA (.if_icmp .ge 33) [43]),
  (13, eA (.aload_n 0) [0]),
  (14, eA (.aload_n 1) [1]),
  (15, eA (.iload_n 2) [2]),
  (16, eA (.iload_n 3) [3]),
  (17, eA (.iload 4) [4]),
  (19, eA (.iload 7) [7]),
  (21, eA (.invokevirtual 278) [0, 105, 5, 6, 678]),
  (24, eC (.iconst (-1)) (-1)),
  (25, eA (.if_icmp .ne 12) [37]),
  (28, eA (.iload 6) [6]),
  (30, eC (.iconst 1) 1),
  (31, eA (.iload 7) [7]),
  (33, eA (.ishl) []),
  (34, eA (.ior) []),
  (35, eA (.istore 6) [6]),
  (37, (.iinc 7 1, [7], 1, 0, [])),
  (40, eA (.goto (-34)) [6]),
  (43, eA (.iload 6) [6]),
  (45, eA (.ireturn) [])]
def hX6_bitsThatTell : Hd := (tX6_bitsThatTell, 6, false, 1)
def tX6_daysThatTell : List (Nat × En) := [(0, eC (.iconst 0) 0),
  (1, eA (.istore 4) [4]),
  (3, eC (.iconst 0) 0),
  (4, eA (.istore 5) [5]),
  (6, eA (.iload 5) [5]),
  (8, eC (.bipush 100) 100),
  (10, eA (.if_icmp .ge 26) [36]),
  (13, eA (.aload_n 0) [0]),
  (14, eA (.aload_n 1) [1]),
  (15, eA (.iload_n 2) [2]),
  (16, eA (.iload_n 3) [3]),
  (17, eC (.iconst 3) 3),
  (18, eA (.iload 5) [5]),
  (20, eA (.invokevirtual 278) [0, 105, 5, 6, 678]),
  (23, eC (.iconst (-1)) (-1)),
  (24, eA (.if_icmp .ne 6) [30]),
  (27, (.iinc 4 1, [4], 1, 0, [])),
  (30, (.iinc 5 1, [5], 1, 0, [])),
  (33, eA (.goto (-27)) [6]),
  (36, eA (.iload 4) [4]),
  (38, eA (.ireturn) [])]
def hX6_daysThatTell : Hd := (tX6_daysThatTell, 6, false, 1)
def tX6_leastDayThatTells : List (Nat × En) := [(0, eC (.iconst 0) 0),
  (1, eA (.istore 4) [4]),
  (3, eA (.iload 4) [4]),
  (5, eC (.bipush 100) 100),
  (7, eA (.if_icmp .ge 26) [33]),
  (10, eA (.aload_n 0) [0]),
  (11, eA (.aload_n 1) [1]),
  (12, eA (.iload_n 2) [2]),
  (13, eA (.iload_n 3) [3]),
  (14, eC (.iconst 3) 3),
  (15, eA (.iload 4) [4]),
  (17, eA (.invokevirtual 278) [0, 105, 5, 6, 678]),
  (20, eC (.iconst (-1)) (-1)),
  (21, eA (.if_icmp .ne 6) [27]),
  (24, eA (.iload 4) [4]),
  (26, eA (.ireturn) []),
  (27, (.iinc 4 1, [4], 1, 0, [])),
  (30, eA (.goto (-27)) [3]),
  (33, eC (.iconst (-1)) (-1)),
  (34, eA (.ireturn) [])]
def hX6_leastDayThatTells : Hd := (tX6_leastDayThatTells, 6, false, 1)
def tX6_sum : List (Nat × En) := [(0, eC (.iconst 0) 0),
  (1, eA (.istore_n 3) [3]),
  (2, eC (.iconst 0) 0),
  (3, eA (.istore 4) [4]),
  (5, eA (.iload 4) [4]),
  (7, eA (.iload_n 2) [2]),
  (8, eA (.if_icmp .ge 18) [26]),
  (11, eA (.iload_n 3) [3]),
  (12, eA (.aload_n 0) [0]),
  (13, eA (.iload_n 1) [1]),
  (14, eA (.iload 4) [4]),
  (16, eA (.iadd) []),
  (17, eA (.iaload) []),
  (18, eA (.iadd) []),
  (19, eA (.istore_n 3) [3]),
  (20, (.iinc 4 1, [4], 1, 0, [])),
  (23, eA (.goto (-18)) [5]),
  (26, eA (.iload_n 3) [3]),
  (27, eA (.ireturn) [])]
def hX6_sum : Hd := (tX6_sum, 6, false, 1)
def tX6_lowestTerms : List (Nat × En) := [(0, eA (.iload_n 1) [1]),
  (1, eA (.istore_n 3) [3]),
  (2, eA (.iload_n 0) [0]),
  (3, eA (.istore 4) [4]),
  (5, eC (.iconst 0) 0),
  (6, eA (.istore 5) [5]),
  (8, eA (.iload 5) [5]),
  (10, eC (.bipush 100) 100),
  (12, eA (.if_icmp .ge 27) [39]),
  (15, eA (.iload 4) [4]),
  (17, eA (.ifCond .eq 22) [39]),
  (20, eA (.iload_n 3) [3]),
  (21, eA (.iload 4) [4]),
  (23, eA (.irem) []),
  (24, eA (.istore 6) [6]),
  (26, eA (.iload 4) [4]),
  (28, eA (.istore_n 3) [3]),
  (29, eA (.iload 6) [6]),
  (31, eA (.istore 4) [4]),
  (33, (.iinc 5 1, [5], 1, 0, [])),
  (36, eA (.goto (-28)) [8]),
  (39, eA (.iload_n 1) [1]),
  (40, eA (.ifCond .eq 7) [47]),
  (43, eA (.iload_n 3) [3]),
  (44, eA (.ifCond .ne 7) [51]),
  (47, (.ldc2_w 202, [571], 0, (-4611686018427387904), [])),
  (50, eA (.lreturn) []),
  (51, eA (.iload_n 2) [2]),
  (52, eA (.ifCond .ne 7) [59]),
  (55, eA (.iload_n 0) [0]),
  (56, eA (.goto 4) [60]),
  (59, eA (.iload_n 1) [1]),
  (60, eA (.iload_n 3) [3]),
  (61, eA (.idiv) []),
  (62, eA (.i2l) []),
  (63, eA (.lreturn) [])]
def hX6_lowestTerms : Hd := (tX6_lowestTerms, 6, false, 3)
def tX7_in : List (Nat × En) := [(0, eA (.lload_n 0) [0]),
  (1, eA (.lload_n 2) [2]),
  (2, eA (.lcmp) []),
  (3, eA (.ifCond .lt 14) [17]),
  (6, eA (.lload_n 0) [0]),
  (7, eA (.lload 4) [4]),
  (9, eA (.lcmp) []),
  (10, eA (.ifCond .gt 7) [17]),
  (13, eC (.iconst 1) 1),
  (14, eA (.goto 4) [18]),
  (17, eC (.iconst 0) 0),
  (18, eA (.ireturn) [])]
def hX7_in : Hd := (tX7_in, 7, false, 2)
def tX7_within : List (Nat × En) := [(0, eA (.iload_n 0) [0]),
  (1, eA (.iload_n 1) [1]),
  (2, eA (.if_icmp .ge 7) [9]),
  (5, eA (.iload_n 1) [1]),
  (6, eA (.goto 13) [19]),
  (9, eA (.iload_n 0) [0]),
  (10, eA (.iload_n 2) [2]),
  (11, eA (.if_icmp .le 7) [18]),
  (14, eA (.iload_n 2) [2]),
  (15, eA (.goto 4) [19]),
  (18, eA (.iload_n 0) [0]),
  (19, eA (.ireturn) [])]
def hX7_within : Hd := (tX7_within, 7, false, 1)
def tX7_init : List (Nat × En) := [(0, eA (.aload_n 0) [0]),
  (1, eA (.invokespecial 7) [1, 5, 774]),
  (4, eA (.aload_n 0) [0]),
  (5, eC (.sipush 960) 960),
  (8, eA (.newarray .int) [1]),
  (10, eA (.putfield 13) [7, 1, 779]),
  (13, eA (.aload_n 0) [0]),
  (14, eC (.bipush 6) 6),
  (16, eA (.newarray .int) [1]),
  (18, eA (.putfield 17) [7, 2, 780]),
  (21, eA (.aload_n 0) [0]),
  (22, eC (.sipush 160) 160),
  (25, eA (.newarray .int) [1]),
  (27, eA (.putfield 20) [7, 5, 783]),
  (30, eA (.aload_n 0) [0]),
  (31, eC (.bipush 36) 36),
  (33, eA (.newarray .int) [1]),
  (35, eA (.putfield 23) [7, 8, 786]),
  (38, eA (.aload_n 0) [0]),
  (39, eC (.iconst 5) 5),
  (40, eA (.newarray .int) [1]),
  (42, eA (.putfield 26) [7, 9, 787]),
  (45, eA (.aload_n 0) [0]),
  (46, eC (.bipush 10) 10),
  (48, eA (.newarray .int) [1]),
  (50, eA (.putfield 29) [7, 10, 788]),
  (53, eA (.aload_n 0) [0]),
  (54, eC (.bipush 30) 30),
  (56, eA (.newarray .int) [1]),
  (58, eA (.putfield 32) [7, 11, 789]),
  (61, eA (.aload_n 0) [0]),
  (62, eC (.bipush 6) 6),
  (64, eA (.newarray .int) [1]),
  (66, eA (.putfield 35) [7, 28, 806]),
  (69, eA (.aload_n 0) [0]),
  (70, eC (.bipush 36) 36),
  (72, eA (.newarray .int) [1]),
  (74, eA (.putfield 38) [7, 29, 807]),
  (77, eA (.aload_n 0) [0]),
  (78, eC (.bipush 6) 6),
  (80, eA (.newarray .int) [1]),
  (82, eA (.putfield 41) [7, 35, 813]),
  (85, eA (.aload_n 0) [0]),
  (86, eC (.bipush 6) 6),
  (88, eA (.newarray .int) [1]),
  (90, eA (.putfield 44) [7, 38, 816]),
  (93, eA (.aload_n 0) [0]),
  (94, eC (.bipush 36) 36),
  (96, eA (.newarray .int) [1]),
  (98, eA (.putfield 47) [7, 39, 817]),
  (101, eA (.aload_n 0) [0]),
  (102, eC (.bipush 10) 10),
  (104, eA (.newarray .int) [1]),
  (106, eA (.putfield 50) [7, 40, 818]),
  (109, eA (.aload_n 0) [0]),
  (110, eC (.bipush 30) 30),
  (112, eA (.newarray .int) [1]),
  (114, eA (.putfield 53) [7, 41, 819]),
  (117, eA (.aload_n 0) [0]),
  (118, eC (.iconst (-1)) (-1)),
  (119, eA (.putfield 56) [7, 42, 820]),
  (122, eA (.aload_n 0) [0]),
  (123, eC (.iconst 4) 4),
  (124, eA (.newarray .boolean) [2]),
  (126, eA (.putfield 59) [7, 45, 823]),
  (129, eA (.aload_n 0) [0]),
  (130, eC (.iconst 4) 4),
  (131, eA (.newarray .int) [1]),
  (133, eA (.putfield 63) [7, 46, 824]),
  (136, eA (.aload_n 0) [0]),
  (137, eC (.iconst 4) 4),
  (138, eA (.newarray .int) [1]),
  (140, eA (.putfield 66) [7, 47, 825]),
  (143, eA (.aload_n 0) [0]),
  (144, eC (.sipush 160) 160),
  (147, eA (.newarray .int) [1]),
  (149, eA (.putfield 69) [7, 48, 826]),
  (152, eA (.aload_n 0) [0]),
  (153, eC (.iconst 0) 0),
  (154, eC (.bipush 116) 116),
  (156, eC (.bipush 97) 97),
  (158, eC (.bipush 107) 107),
  (160, eC (.bipush 101) 101),
  (162, eC (.bipush 115) 115),
  (164, eC (.bipush 32) 32),
  (166, eC (.bipush 103) 103),
  (168, eC (.bipush 114) 114),
  (170, eA (.invokevirtual 72) [0, 114, 9, 7, 775]),
  (173, eA (.aload_n 0) [0]),
  (174, eC (.bipush 8) 8),
  (176, eC (.bipush 97) 97),
  (178, eC (.bipush 105) 105),
  (180, eC (.bipush 110) 110),
  (182, eC (.bipush 115) 115),
  (184, eC (.bipush 32) 32),
  (186, eC (.bipush 59) 59),
  (188, eC (.bipush 32) 32),
  (190, eC (.bipush 107) 107),
  (192, eA (.invokevirtual 72) [0, 114, 9, 7, 775]),
  (195, eA (.aload_n 0) [0]),
  (196, eC (.bipush 16) 16),
  (198, eC (.bipush 101) 101),
  (200, eC (.bipush 101) 101),
  (202, eC (.bipush 112) 112),
  (204, eC (.bipush 115) 115),
  (206, eC (.bipush 32) 32),
  (208, eC (.bipush 53) 53),
  (210, eC (.bipush 48) 48),
  (212, eC (.bipush 32) 32),
  (214, eA (.invokevirtual 72) [0, 114, 9, 7, 775]),
  (217, eA (.aload_n 0) [0]),
  (218, eC (.bipush 24) 24),
  (220, eC (.bipush 59) 59),
  (222, eC (.bipush 32) 32),
  (224, eC (.bipush 115) 115),
  (226, eC (.bipush 117) 117),
  (228, eC (.bipush 114) 114),
  (230, eC (.bipush 101) 101),
  (232, eC (.bipush 32) 32),
  (234, eC (.bipush 103) 103),
  (236, eA (.invokevirtual 72) [0, 114, 9, 7, 775]),
  (239, eA (.aload_n 0) [0]),
  (240, eC (.bipush 32) 32),
  (242, eC (.bipush 114) 114),
  (244, eC (.bipush 97) 97),
  (246, eC (.bipush 105) 105),
  (248, eC (.bipush 110) 110),
  (250, eC (.bipush 115) 115),
  (252, eC (.bipush 32) 32),
  (254, eC (.bipush 59) 59),
  (256, eC (.bipush 32) 32),
  (258, eA (.invokevirtual 72) [0, 114, 9, 7, 775]),
  (261, eA (.aload_n 0) [0]),
  (262, eA (.getfield 17) [7, 2, 780]),
  (265, eC (.iconst 0) 0),
  (266, eC (.bipush 40) 40),
  (268, eA (.iastore) []),
  (269, eA (.aload_n 0) [0]),
  (270, eC (.iconst 1) 1),
  (271, eA (.putfield 76) [7, 3, 781]),
  (274, eA (.return_) [])]
def hX7_init : Hd := (tX7_init, 7, true, 0)
def tX7_spell : List (Nat × En) := [(0, eA (.aload_n 0) [0]),
  (1, eA (.getfield 13) [7, 1, 779]),
  (4, eA (.iload_n 1) [1]),
  (5, eA (.iload_n 2) [2]),
  (6, eA (.iastore) []),
  (7, eA (.aload_n 0) [0]),
  (8, eA (.getfield 13) [7, 1, 779]),
  (11, eA (.iload_n 1) [1]),
  (12, eC (.iconst 1) 1),
  (13, eA (.iadd) []),
  (14, eA (.iload_n 3) [3]),
  (15, eA (.iastore) []),
  (16, eA (.aload_n 0) [0]),
  (17, eA (.getfield 13) [7, 1, 779]),
  (20, eA (.iload_n 1) [1]),
  (21, eC (.iconst 2) 2),
  (22, eA (.iadd) []),
  (23, eA (.iload 4) [4]),
  (25, eA (.iastore) []),
  (26, eA (.aload_n 0) [0]),
  (27, eA (.getfield 13) [7, 1, 779]),
  (30, eA (.iload_n 1) [1]),
  (31, eC (.iconst 3) 3),
  (32, eA (.iadd) []),
  (33, eA (.iload 5) [5]),
  (35, eA (.iastore) []),
  (36, eA (.aload_n 0) [0]),
  (37, eA (.getfield 13) [7, 1, 779]),
  (40, eA (.iload_n 1) [1]),
  (41, eC (.iconst 4) 4),
  (42, eA (.iadd) []),
  (43, eA (.iload 6) [6]),
  (45, eA (.iastore) []),
  (46, eA (.aload_n 0) [0]),
  (47, eA (.getfield 13) [7, 1, 779]),
  (50, eA (.iload_n 1) [1]),
  (51, eC (.iconst 5) 5),
  (52, eA (.iadd) []),
  (53, eA (.iload 7) [7]),
  (55, eA (.iastore) []),
  (56, eA (.aload_n 0) [0]),
  (57, eA (.getfield 13) [7, 1, 779]),
  (60, eA (.iload_n 1) [1]),
  (61, eC (.bipush 6) 6),
  (63, eA (.iadd) []),
  (64, eA (.iload 8) [8]),
  (66, eA (.iastore) []),
  (67, eA (.aload_n 0) [0]),
  (68, eA (.getfield 13) [7, 1, 779]),
  (71, eA (.iload_n 1) [1]),
  (72, eC (.bipush 7) 7),
  (74, eA (.iadd) []),
  (75, eA (.iload 9) [9]),
  (77, eA (.iastore) []),
  (78, eA (.return_) [])]
def hX7_spell : Hd := (tX7_spell, 7, false, 0)
def tX7_isOne : List (Nat × En) := [(0, eA (.iload_n 1) [1]),
  (1, eA (.i2l) []),
  (2, eL (.lconst 0) 0),
  (3, eA (.aload_n 0) [0]),
  (4, eA (.getfield 79) [7, 12, 790]),
  (7, eC (.iconst 1) 1),
  (8, eA (.isub) []),
  (9, eA (.i2l) []),
  (10, eA (.invokestatic 82) [0, 111, 3, 0, 932]),
  (13, eA (.ireturn) [])]
def hX7_isOne : Hd := (tX7_isOne, 7, false, 2)
def tX7_isCoast : List (Nat × En) := [(0, eA (.iload_n 0) [0]),
  (1, eA (.i2l) []),
  (2, eL (.lconst 0) 0),
  (3, (.ldc2_w 86, [943], 0, 5, [])),
  (6, eA (.invokestatic 82) [0, 111, 3, 0, 932]),
  (9, eA (.ireturn) [])]
def hX7_isCoast : Hd := (tX7_isCoast, 7, false, 2)
def tX7_isMark : List (Nat × En) := [(0, eA (.iload_n 0) [0]),
  (1, eA (.i2l) []),
  (2, eL (.lconst 0) 0),
  (3, (.ldc2_w 86, [943], 0, 5, [])),
  (6, eA (.invokestatic 82) [0, 111, 3, 0, 932]),
  (9, eA (.ireturn) [])]
def hX7_isMark : Hd := (tX7_isMark, 7, false, 2)
def tX7_isOf : List (Nat × En) := [(0, eA (.iload_n 1) [1]),
  (1, eC (.iconst 1) 1),
  (2, eA (.if_icmp .eq 8) [10]),
  (5, eA (.iload_n 1) [1]),
  (6, eC (.iconst 3) 3),
  (7, eA (.if_icmp .ne 47) [54]),
  (10, eA (.iload_n 2) [2]),
  (11, eA (.i2l) []),
  (12, eL (.lconst 0) 0),
  (13, (.ldc2_w 88, [939], 0, 55, [])),
  (16, eA (.invokestatic 82) [0, 111, 3, 0, 932]),
  (19, eA (.ifCond .eq 33) [52]),
  (22, eA (.iload_n 2) [2]),
  (23, eC (.bipush 10) 10),
  (25, eA (.irem) []),
  (26, eA (.invokestatic 90) [0, 117, 1, 0, 940]),
  (29, eA (.ifCond .eq 23) [52]),
  (32, eA (.iload_n 1) [1]),
  (33, eC (.iconst 1) 1),
  (34, eA (.if_icmp .eq 14) [48]),
  (37, eA (.aload_n 0) [0]),
  (38, eA (.iload_n 2) [2]),
  (39, eC (.bipush 10) 10),
  (41, eA (.idiv) []),
  (42, eA (.invokevirtual 94) [0, 115, 1, 7, 944]),
  (45, eA (.ifCond .eq 7) [52]),
  (48, eC (.iconst 1) 1),
  (49, eA (.goto 4) [53]),
  (52, eC (.iconst 0) 0),
  (53, eA (.ireturn) []),
  (54, eA (.iload_n 1) [1]),
  (55, eA (.ifCond .eq 27) [82]),
  (58, eA (.iload_n 1) [1]),
  (59, eC (.bipush 7) 7),
  (61, eA (.if_icmp .ne 13) [74]),
  (64, eA (.iload_n 2) [2]),
  (65, eA (.invokestatic 97) [0, 116, 1, 0, 948]),
  (68, eA (.ifCond .eq 18) [86]),
  (71, eA (.goto 11) [82]),
  (74, eA (.aload_n 0) [0]),
  (75, eA (.iload_n 2) [2]),
  (76, eA (.invokevirtual 94) [0, 115, 1, 7, 944]),
  (79, eA (.ifCond .eq 7) [86]),
  (82, eC (.iconst 1) 1),
  (83, eA (.goto 4) [87]),
  (86, eC (.iconst 0) 0),
  (87, eA (.ireturn) [])]
def hX7_isOf : Hd := (tX7_isOf, 7, false, 2)
def tX7_mostOf : List (Nat × En) := [(0, eA (.iload_n 0) [0]),
  (1, eA (.ifCond .ne 9) [10]),
  (4, eC (.sipush 999) 999),
  (7, eA (.goto 26) [33]),
  (10, eA (.iload_n 0) [0]),
  (11, eC (.iconst 1) 1),
  (12, eA (.if_icmp .ne 8) [20]),
  (15, eC (.bipush 99) 99),
  (17, eA (.goto 16) [33]),
  (20, eA (.iload_n 0) [0]),
  (21, eC (.iconst 2) 2),
  (22, eA (.if_icmp .ne 8) [30]),
  (25, eC (.bipush 9) 9),
  (27, eA (.goto 6) [33]),
  (30, eC (.sipush 9999) 9999),
  (33, eA (.ireturn) [])]
def hX7_mostOf : Hd := (tX7_mostOf, 7, false, 1)
def tX7_placeOf : List (Nat × En) := [(0, eC (.bipush 6) 6),
  (2, eA (.iload_n 0) [0]),
  (3, eC (.bipush 10) 10),
  (5, eA (.idiv) []),
  (6, eA (.imul) []),
  (7, eA (.iload_n 0) [0]),
  (8, eC (.bipush 10) 10),
  (10, eA (.irem) []),
  (11, eA (.iadd) []),
  (12, eA (.ireturn) [])]
def hX7_placeOf : Hd := (tX7_placeOf, 7, false, 1)
def tX7_set : List (Nat × En) := [(0, eA (.iload_n 1) [1]),
  (1, eA (.i2l) []),
  (2, eL (.lconst 0) 0),
  (3, (.ldc2_w 100, [931], 0, 3, [])),
  (6, eA (.invokestatic 82) [0, 111, 3, 0, 932]),
  (9, eA (.ifCond .eq 26) [35]),
  (12, eA (.aload_n 0) [0]),
  (13, eA (.iload_n 1) [1]),
  (14, eA (.iload_n 2) [2]),
  (15, eA (.invokevirtual 102) [0, 118, 2, 7, 935]),
  (18, eA (.ifCond .eq 17) [35]),
  (21, eA (.iload_n 3) [3]),
  (22, eA (.i2l) []),
  (23, eL (.lconst 0) 0),
  (24, eA (.iload_n 1) [1]),
  (25, eA (.invokestatic 106) [0, 119, 1, 0, 951]),
  (28, eA (.i2l) []),
  (29, eA (.invokestatic 82) [0, 111, 3, 0, 932]),
  (32, eA (.ifCond .ne 6) [38]),
  (35, eC (.bipush (-2)) (-2)),
  (37, eA (.ireturn) []),
  (38, eA (.aload_n 0) [0]),
  (39, eA (.iload_n 2) [2]),
  (40, eA (.iload_n 1) [1]),
  (41, eA (.invokevirtual 110) [0, 124, 2, 7, 954]),
  (44, eA (.istore 4) [4]),
  (46, eA (.aload_n 0) [0]),
  (47, eA (.iload_n 1) [1]),
  (48, eA (.iload_n 2) [2]),
  (49, eA (.iload_n 3) [3]),
  (50, eA (.invokevirtual 114) [0, 122, 3, 7, 970]),
  (53, eA (.iload 4) [4]),
  (55, eA (.ireturn) [])]
def hX7_set : Hd := (tX7_set, 7, false, 1)
def tX7_lays : List (Nat × En) := [(0, eA (.iload_n 1) [1]),
  (1, eA (.ifCond .ne 11) [12]),
  (4, eA (.aload_n 0) [0]),
  (5, eA (.iload_n 3) [3]),
  (6, eA (.putfield 118) [7, 7, 785]),
  (9, eA (.goto 76) [85]),
  (12, eA (.iload_n 1) [1]),
  (13, eC (.iconst 1) 1),
  (14, eA (.if_icmp .ne 16) [30]),
  (17, eA (.aload_n 0) [0]),
  (18, eA (.getfield 23) [7, 8, 786]),
  (21, eA (.iload_n 2) [2]),
  (22, eA (.invokestatic 121) [0, 120, 1, 0, 959]),
  (25, eA (.iload_n 3) [3]),
  (26, eA (.iastore) []),
  (27, eA (.goto 58) [85]),
  (30, eA (.iload_n 1) [1]),
  (31, eC (.iconst 2) 2),
  (32, eA (.if_icmp .ne 15) [47]),
  (35, eA (.aload_n 0) [0]),
  (36, eA (.getfield 29) [7, 10, 788]),
  (39, eC (.iconst 2) 2),
  (40, eA (.iload_n 2) [2]),
  (41, eA (.imul) []),
  (42, eA (.iload_n 3) [3]),
  (43, eA (.iastore) []),
  (44, eA (.goto 41) [85]),
  (47, eA (.iload_n 1) [1]),
  (48, eC (.iconst 3) 3),
  (49, eA (.if_icmp .ne 16) [65]),
  (52, eA (.aload_n 0) [0]),
  (53, eA (.getfield 32) [7, 11, 789]),
  (56, eA (.iload_n 2) [2]),
  (57, eA (.invokestatic 121) [0, 120, 1, 0, 959]),
  (60, eA (.iload_n 3) [3]),
  (61, eA (.iastore) []),
  (62, eA (.goto 23) [85]),
  (65, eA (.iload_n 1) [1]),
  (66, eC (.iconst 4) 4),
  (67, eA (.if_icmp .ne 13) [80]),
  (70, eA (.aload_n 0) [0]),
  (71, eA (.getfield 26) [7, 9, 787]),
  (74, eA (.iload_n 2) [2]),
  (75, eA (.iload_n 3) [3]),
  (76, eA (.iastore) []),
  (77, eA (.goto 8) [85]),
  (80, eA (.aload_n 0) [0]),
  (81, eA (.iload_n 3) [3]),
  (82, eA (.putfield 124) [7, 4, 782]),
  (85, eA (.return_) [])]
def hX7_lays : Hd := (tX7_lays, 7, false, 0)
def tX7_person : List (Nat × En) := [(0, eA (.iload_n 1) [1]),
  (1, eA (.i2l) []),
  (2, eL (.lconst 0) 0),
  (3, (.ldc2_w 86, [943], 0, 5, [])),
  (6, eA (.invokestatic 82) [0, 111, 3, 0, 932]),
  (9, eA (.ifCond .eq 15) [24]),
  (12, eA (.iload_n 2) [2]),
  (13, eA (.i2l) []),
  (14, eL (.lconst 0) 0),
  (15, (.ldc2_w 127, [978], 0, 9, [])),
  (18, eA (.invokestatic 82) [0, 111, 3, 0, 932]),
  (21, eA (.ifCond .ne 6) [27]),
  (24, eC (.bipush (-2)) (-2)),
  (26, eA (.ireturn) []),
  (27, eA (.aload_n 0) [0]),
  (28, eA (.getfield 79) [7, 12, 790]),
  (31, eC (.iconst 5) 5),
  (32, eA (.if_icmp .ne 6) [38]),
  (35, eC (.bipush (-4)) (-4)),
  (37, eA (.ireturn) []),
  (38, eA (.aload_n 0) [0]),
  (39, eA (.getfield 26) [7, 9, 787]),
  (42, eA (.aload_n 0) [0]),
  (43, eA (.getfield 79) [7, 12, 790]),
  (46, eA (.iload_n 1) [1]),
  (47, eA (.iastore) []),
  (48, eA (.aload_n 0) [0]),
  (49, eA (.getfield 29) [7, 10, 788]),
  (52, eC (.iconst 2) 2),
  (53, eA (.aload_n 0) [0]),
  (54, eA (.getfield 79) [7, 12, 790]),
  (57, eA (.imul) []),
  (58, eA (.iload_n 2) [2]),
  (59, eA (.iastore) []),
  (60, eA (.aload_n 0) [0]),
  (61, eA (.getfield 29) [7, 10, 788]),
  (64, eC (.iconst 2) 2),
  (65, eA (.aload_n 0) [0]),
  (66, eA (.getfield 79) [7, 12, 790]),
  (69, eA (.imul) []),
  (70, eC (.iconst 1) 1),
  (71, eA (.iadd) []),
  (72, eC (.iconst 0) 0),
  (73, eA (.iastore) []),
  (74, eC (.iconst 0) 0),
  (75, eA (.istore_n 3) [3]),
  (76, eA (.iload_n 3) [3]),
  (77, eC (.bipush 6) 6),
  (79, eA (.if_icmp .ge 24) [103]),
  (82, eA (.aload_n 0) [0]),
  (83, eA (.getfield 32) [7, 11, 789]),
  (86, eC (.bipush 6) 6),
  (88, eA (.aload_n 0) [0]),
  (89, eA (.getfield 79) [7, 12, 790]),
  (92, eA (.imul) []),
  (93, eA (.iload_n 3) [3]),
  (94, eA (.iadd) []),
  (95, eC (.iconst 0) 0),
  (96, eA (.iastore) []),
  (97, (.iinc 3 1, [3], 1, 0, [])),
  (100, eA (.goto (-24)) [76]),
  (103, eA (.aload_n 0) [0]),
  (104, eA (.dup) []),
  (105, eA (.getfield 79) [7, 12, 790]),
  (108, eC (.iconst 1) 1),
  (109, eA (.iadd) []),
  (110, eA (.putfield 79) [7, 12, 790]),
  (113, eA (.aload_n 0) [0]),
  (114, eA (.getfield 79) [7, 12, 790]),
  (117, eC (.iconst 1) 1),
  (118, eA (.isub) []),
  (119, eA (.ireturn) [])]
def hX7_person : Hd := (tX7_person, 7, false, 1)
def tX7_told : List (Nat × En) := [(0, eA (.iload_n 2) [2]),
  (1, eA (.i2l) []),
  (2, eL (.lconst 0) 0),
  (3, (.ldc2_w 129, [958], 0, 7, [])),
  (6, eA (.invokestatic 82) [0, 111, 3, 0, 932]),
  (9, eA (.ifCond .eq 12) [21]),
  (12, eA (.aload_n 0) [0]),
  (13, eA (.iload_n 2) [2]),
  (14, eA (.iload_n 1) [1]),
  (15, eA (.invokevirtual 102) [0, 118, 2, 7, 935]),
  (18, eA (.ifCond .ne 6) [24]),
  (21, eC (.bipush (-2)) (-2)),
  (23, eA (.ireturn) []),
  (24, eA (.iload_n 2) [2]),
  (25, eC (.iconst 4) 4),
  (26, eA (.if_icmp .ge 57) [83]),
  (29, eA (.iload_n 2) [2]),
  (30, eA (.ifCond .ne 10) [40]),
  (33, eA (.aload_n 0) [0]),
  (34, eA (.getfield 118) [7, 7, 785]),
  (37, eA (.goto 45) [82]),
  (40, eA (.iload_n 2) [2]),
  (41, eC (.iconst 1) 1),
  (42, eA (.if_icmp .ne 15) [57]),
  (45, eA (.aload_n 0) [0]),
  (46, eA (.getfield 23) [7, 8, 786]),
  (49, eA (.iload_n 1) [1]),
  (50, eA (.invokestatic 121) [0, 120, 1, 0, 959]),
  (53, eA (.iaload) []),
  (54, eA (.goto 28) [82]),
  (57, eA (.iload_n 2) [2]),
  (58, eC (.iconst 2) 2),
  (59, eA (.if_icmp .ne 14) [73]),
  (62, eA (.aload_n 0) [0]),
  (63, eA (.getfield 29) [7, 10, 788]),
  (66, eC (.iconst 2) 2),
  (67, eA (.iload_n 1) [1]),
  (68, eA (.imul) []),
  (69, eA (.iaload) []),
  (70, eA (.goto 12) [82]),
  (73, eA (.aload_n 0) [0]),
  (74, eA (.getfield 32) [7, 11, 789]),
  (77, eA (.iload_n 1) [1]),
  (78, eA (.invokestatic 121) [0, 120, 1, 0, 959]),
  (81, eA (.iaload) []),
  (82, eA (.ireturn) []),
  (83, eA (.iload_n 2) [2]),
  (84, eC (.iconst 4) 4),
  (85, eA (.if_icmp .ne 12) [97]),
  (88, eA (.aload_n 0) [0]),
  (89, eA (.getfield 26) [7, 9, 787]),
  (92, eA (.iload_n 1) [1]),
  (93, eA (.iaload) []),
  (94, eA (.goto 40) [134]),
  (97, eA (.iload_n 2) [2]),
  (98, eC (.iconst 5) 5),
  (99, eA (.if_icmp .ne 16) [115]),
  (102, eA (.aload_n 0) [0]),
  (103, eA (.getfield 29) [7, 10, 788]),
  (106, eC (.iconst 2) 2),
  (107, eA (.iload_n 1) [1]),
  (108, eA (.imul) []),
  (109, eC (.iconst 1) 1),
  (110, eA (.iadd) []),
  (111, eA (.iaload) []),
  (112, eA (.goto 22) [134]),
  (115, eA (.iload_n 2) [2]),
  (116, eC (.bipush 6) 6),
  (118, eA (.if_icmp .ne 11) [129]),
  (121, eA (.aload_n 0) [0]),
  (122, eA (.iload_n 1) [1]),
  (123, eA (.invokevirtual 131) [0, 125, 1, 7, 962]),
  (126, eA (.goto 8) [134]),
  (129, eA (.aload_n 0) [0]),
  (130, eA (.iload_n 1) [1]),
  (131, eA (.invokevirtual 134) [0, 126, 1, 7, 966]),
  (134, eA (.ireturn) [])]
def hX7_told : Hd := (tX7_told, 7, false, 1)
def tX7_shoeOf : List (Nat × En) := [(0, eC (.iconst 0) 0),
  (1, eA (.istore_n 2) [2]),
  (2, eC (.iconst 0) 0),
  (3, eA (.istore_n 3) [3]),
  (4, eA (.iload_n 3) [3]),
  (5, eC (.bipush 6) 6),
  (7, eA (.if_icmp .ge 23) [30]),
  (10, eA (.iload_n 2) [2]),
  (11, eA (.aload_n 0) [0]),
  (12, eA (.getfield 32) [7, 11, 789]),
  (15, eC (.bipush 6) 6),
  (17, eA (.iload_n 1) [1]),
  (18, eA (.imul) []),
  (19, eA (.iload_n 3) [3]),
  (20, eA (.iadd) []),
  (21, eA (.iaload) []),
  (22, eA (.iadd) []),
  (23, eA (.istore_n 2) [2]),
  (24, (.iinc 3 1, [3], 1, 0, [])),
  (27, eA (.goto (-23)) [4]),
  (30, eA (.iload_n 2) [2]),
  (31, eA (.ireturn) [])]
def hX7_shoeOf : Hd := (tX7_shoeOf, 7, false, 1)
def tX7_coastOf : List (Nat × En) := [(0, eC (.iconst 0) 0),
  (1, eA (.istore_n 2) [2]),
  (2, eC (.iconst 0) 0),
  (3, eA (.istore_n 3) [3]),
  (4, eA (.iload_n 3) [3]),
  (5, eC (.bipush 6) 6),
  (7, eA (.if_icmp .ge 23) [30]),
  (10, eA (.iload_n 2) [2]),
  (11, eA (.aload_n 0) [0]),
  (12, eA (.getfield 23) [7, 8, 786]),
  (15, eC (.bipush 6) 6),
  (17, eA (.iload_n 1) [1]),
  (18, eA (.imul) []),
  (19, eA (.iload_n 3) [3]),
  (20, eA (.iadd) []),
  (21, eA (.iaload) []),
  (22, eA (.iadd) []),
  (23, eA (.istore_n 2) [2]),
  (24, (.iinc 3 1, [3], 1, 0, [])),
  (27, eA (.goto (-23)) [4]),
  (30, eA (.iload_n 2) [2]),
  (31, eA (.ireturn) [])]
def hX7_coastOf : Hd := (tX7_coastOf, 7, false, 1)
def tX7_feed : List (Nat × En) := [(0, eA (.iload_n 1) [1]),
  (1, eA (.i2l) []),
  (2, eL (.lconst 0) 0),
  (3, (.ldc2_w 137, [984], 0, 255, [])),
  (6, eA (.invokestatic 82) [0, 111, 3, 0, 932]),
  (9, eA (.ifCond .ne 6) [15]),
  (12, eC (.bipush (-2)) (-2)),
  (14, eA (.ireturn) []),
  (15, eA (.aload_n 0) [0]),
  (16, eA (.getfield 139) [7, 6, 784]),
  (19, eC (.sipush 160) 160),
  (22, eA (.if_icmp .ne 6) [28]),
  (25, eC (.bipush (-4)) (-4)),
  (27, eA (.ireturn) []),
  (28, eA (.aload_n 0) [0]),
  (29, eA (.getfield 20) [7, 5, 783]),
  (32, eA (.aload_n 0) [0]),
  (33, eA (.getfield 139) [7, 6, 784]),
  (36, eA (.iload_n 1) [1]),
  (37, eA (.iastore) []),
  (38, eA (.aload_n 0) [0]),
  (39, eA (.dup) []),
  (40, eA (.getfield 139) [7, 6, 784]),
  (43, eC (.iconst 1) 1),
  (44, eA (.iadd) []),
  (45, eA (.putfield 139) [7, 6, 784]),
  (48, eA (.aload_n 0) [0]),
  (49, eA (.getfield 139) [7, 6, 784]),
  (52, eA (.ireturn) [])]
def hX7_feed : Hd := (tX7_feed, 7, false, 1)
def tX7_byteAt : List (Nat × En) := [(0, eA (.iload_n 1) [1]),
  (1, eA (.aload_n 0) [0]),
  (2, eA (.getfield 142) [7, 20, 798]),
  (5, eA (.if_icmp .ge 17) [22]),
  (8, eA (.aload_n 0) [0]),
  (9, eA (.getfield 13) [7, 1, 779]),
  (12, eA (.aload_n 0) [0]),
  (13, eA (.getfield 145) [7, 19, 797]),
  (16, eA (.iload_n 1) [1]),
  (17, eA (.iadd) []),
  (18, eA (.iaload) []),
  (19, eA (.goto 4) [23]),
  (22, eC (.iconst (-1)) (-1)),
  (23, eA (.ireturn) [])]
def hX7_byteAt : Hd := (tX7_byteAt, 7, false, 1)
def tX7_next : List (Nat × En) := [(0, eA (.aload_n 0) [0]),
  (1, eA (.aload_n 0) [0]),
  (2, eA (.getfield 148) [7, 21, 799]),
  (5, eA (.invokevirtual 151) [0, 128, 1, 7, 997]),
  (8, eC (.bipush 32) 32),
  (10, eA (.if_icmp .eq 16) [26]),
  (13, eA (.aload_n 0) [0]),
  (14, eA (.aload_n 0) [0]),
  (15, eA (.getfield 148) [7, 21, 799]),
  (18, eA (.invokevirtual 151) [0, 128, 1, 7, 997]),
  (21, eC (.bipush 10) 10),
  (23, eA (.if_icmp .ne 16) [39]),
  (26, eA (.aload_n 0) [0]),
  (27, eA (.dup) []),
  (28, eA (.getfield 148) [7, 21, 799]),
  (31, eC (.iconst 1) 1),
  (32, eA (.iadd) []),
  (33, eA (.putfield 148) [7, 21, 799]),
  (36, eA (.goto (-36)) [0]),
  (39, eA (.aload_n 0) [0]),
  (40, eA (.aload_n 0) [0]),
  (41, eA (.getfield 148) [7, 21, 799]),
  (44, eA (.putfield 154) [7, 23, 801]),
  (47, eA (.aload_n 0) [0]),
  (48, eA (.aload_n 0) [0]),
  (49, eA (.getfield 148) [7, 21, 799]),
  (52, eA (.invokevirtual 151) [0, 128, 1, 7, 997]),
  (55, eA (.istore_n 1) [1]),
  (56, eA (.aload_n 0) [0]),
  (57, eC (.iconst 4) 4),
  (58, eA (.putfield 157) [7, 22, 800]),
  (61, eA (.iload_n 1) [1]),
  (62, eA (.ifCond .ge 19) [81]),
  (65, eA (.aload_n 0) [0]),
  (66, eC (.iconst 0) 0),
  (67, eA (.putfield 157) [7, 22, 800]),
  (70, eA (.aload_n 0) [0]),
  (71, eA (.aload_n 0) [0]),
  (72, eA (.getfield 142) [7, 20, 798]),
  (75, eA (.putfield 154) [7, 23, 801]),
  (78, eA (.goto 243) [321]),
  (81, eA (.iload_n 1) [1]),
  (82, eA (.i2l) []),
  (83, (.ldc2_w 160, [1001], 0, 97, [])),
  (86, (.ldc2_w 162, [1002], 0, 122, [])),
  (89, eA (.invokestatic 82) [0, 111, 3, 0, 932]),
  (92, eA (.ifCond .eq 42) [134]),
  (95, eA (.aload_n 0) [0]),
  (96, eC (.iconst 1) 1),
  (97, eA (.putfield 157) [7, 22, 800]),
  (100, eA (.aload_n 0) [0]),
  (101, eA (.aload_n 0) [0]),
  (102, eA (.getfield 148) [7, 21, 799]),
  (105, eA (.invokevirtual 151) [0, 128, 1, 7, 997]),
  (108, eA (.i2l) []),
  (109, (.ldc2_w 160, [1001], 0, 97, [])),
  (112, (.ldc2_w 162, [1002], 0, 122, [])),
  (115, eA (.invokestatic 82) [0, 111, 3, 0, 932]),
  (118, eA (.ifCond .eq 203) [321]),
  (121, eA (.aload_n 0) [0]),
  (122, eA (.dup) []),
  (123, eA (.getfield 148) [7, 21, 799]),
  (126, eC (.iconst 1) 1),
  (127, eA (.iadd) []),
  (128, eA (.putfield 148) [7, 21, 799]),
  (131, eA (.goto (-31)) [100]),
  (134, eA (.iload_n 1) [1]),
  (135, eA (.i2l) []),
  (136, (.ldc2_w 164, [1003], 0, 48, [])),
  (139, (.ldc2_w 166, [1004], 0, 57, [])),
  (142, eA (.invokestatic 82) [0, 111, 3, 0, 932]),
  (145, eA (.ifCond .eq 107) [252]),
  (148, eA (.aload_n 0) [0]),
  (149, eC (.iconst 2) 2),
  (150, eA (.putfield 157) [7, 22, 800]),
  (153, eA (.aload_n 0) [0]),
  (154, eL (.lconst 0) 0),
  (155, eA (.putfield 168) [7, 24, 802]),
  (158, eC (.iconst 0) 0),
  (159, eA (.istore_n 2) [2]),
  (160, eA (.aload_n 0) [0]),
  (161, eA (.aload_n 0) [0]),
  (162, eA (.getfield 148) [7, 21, 799]),
  (165, eA (.invokevirtual 151) [0, 128, 1, 7, 997]),
  (168, eA (.i2l) []),
  (169, (.ldc2_w 164, [1003], 0, 48, [])),
  (172, (.ldc2_w 166, [1004], 0, 57, [])),
  (175, eA (.invokestatic 82) [0, 111, 3, 0, 932]),
  (178, eA (.ifCond .eq 57) [235]),
  (181, eA (.aload_n 0) [0]),
  (182, eA (.iload_n 2) [2]),
  (183, eC (.iconst 4) 4),
  (184, eA (.if_icmp .ge 28) [212]),
  (187, (.ldc2_w 172, [1005], 0, 10, [])),
  (190, eA (.aload_n 0) [0]),
  (191, eA (.getfield 168) [7, 24, 802]),
  (194, eA (.lmul) []),
  (195, eA (.aload_n 0) [0]),
  (196, eA (.aload_n 0) [0]),
  (197, eA (.getfield 148) [7, 21, 799]),
  (200, eA (.invokevirtual 151) [0, 128, 1, 7, 997]),
  (203, eA (.i2l) []),
  (204, eA (.ladd) []),
  (205, (.ldc2_w 164, [1003], 0, 48, [])),
  (208, eA (.lsub) []),
  (209, eA (.goto 7) [216]),
  (212, eA (.aload_n 0) [0]),
  (213, eA (.getfield 168) [7, 24, 802]),
  (216, eA (.putfield 168) [7, 24, 802]),
  (219, (.iinc 2 1, [2], 1, 0, [])),
  (222, eA (.aload_n 0) [0]),
  (223, eA (.dup) []),
  (224, eA (.getfield 148) [7, 21, 799]),
  (227, eC (.iconst 1) 1),
  (228, eA (.iadd) []),
  (229, eA (.putfield 148) [7, 21, 799]),
  (232, eA (.goto (-72)) [160]),
  (235, eA (.aload_n 0) [0]),
  (236, eA (.iload_n 2) [2]),
  (237, eC (.iconst 4) 4),
  (238, eA (.if_icmp .le 7) [245]),
  (241, eC (.iconst 4) 4),
  (242, eA (.goto 4) [246]),
  (245, eC (.iconst 2) 2),
  (246, eA (.putfield 157) [7, 22, 800]),
  (249, eA (.goto 72) [321]),
  (252, eA (.iload_n 1) [1]),
  (253, eC (.bipush 40) 40),
  (255, eA (.if_icmp .eq 45) [300]),
  (258, eA (.iload_n 1) [1]),
  (259, eC (.bipush 41) 41),
  (261, eA (.if_icmp .eq 39) [300]),
  (264, eA (.iload_n 1) [1]),
  (265, eC (.bipush 59) 59),
  (267, eA (.if_icmp .eq 33) [300]),
  (270, eA (.iload_n 1) [1]),
  (271, eC (.bipush 43) 43),
  (273, eA (.if_icmp .eq 27) [300]),
  (276, eA (.iload_n 1) [1]),
  (277, eC (.bipush 45) 45),
  (279, eA (.if_icmp .eq 21) [300]),
  (282, eA (.iload_n 1) [1]),
  (283, eC (.bipush 42) 42),
  (285, eA (.if_icmp .eq 15) [300]),
  (288, eA (.iload_n 1) [1]),
  (289, eC (.bipush 60) 60),
  (291, eA (.if_icmp .eq 9) [300]),
  (294, eA (.iload_n 1) [1]),
  (295, eC (.bipush 61) 61),
  (297, eA (.if_icmp .ne 24) [321]),
  (300, eA (.aload_n 0) [0]),
  (301, eC (.iconst 3) 3),
  (302, eA (.putfield 157) [7, 22, 800]),
  (305, eA (.aload_n 0) [0]),
  (306, eA (.iload_n 1) [1]),
  (307, eA (.i2l) []),
  (308, eA (.putfield 168) [7, 24, 802]),
  (311, eA (.aload_n 0) [0]),
  (312, eA (.dup) []),
  (313, eA (.getfield 148) [7, 21, 799]),
  (316, eC (.iconst 1) 1),
  (317, eA (.iadd) []),
  (318, eA (.putfield 148) [7, 21, 799]),
  (321, eA (.return_) [])]
def hX7_next : Hd := (tX7_next, 7, false, 0)
def tX7_fail : List (Nat × En) := [(0, eA (.aload_n 0) [0]),
  (1, eA (.getfield 174) [7, 26, 804]),
  (4, eA (.ifCond .ne 16) [20]),
  (7, eA (.aload_n 0) [0]),
  (8, eC (.iconst 1) 1),
  (9, eA (.putfield 174) [7, 26, 804]),
  (12, eA (.aload_n 0) [0]),
  (13, eA (.aload_n 0) [0]),
  (14, eA (.getfield 154) [7, 23, 801]),
  (17, eA (.putfield 178) [7, 27, 805]),
  (20, eA (.return_) [])]
def hX7_fail : Hd := (tX7_fail, 7, false, 0)
def tX7_isLetter : List (Nat × En) := [(0, eA (.aload_n 0) [0]),
  (1, eA (.getfield 154) [7, 23, 801]),
  (4, eA (.iload_n 1) [1]),
  (5, eA (.iadd) []),
  (6, eA (.aload_n 0) [0]),
  (7, eA (.getfield 148) [7, 21, 799]),
  (10, eA (.if_icmp .ge 25) [35]),
  (13, eA (.aload_n 0) [0]),
  (14, eA (.aload_n 0) [0]),
  (15, eA (.getfield 154) [7, 23, 801]),
  (18, eA (.iload_n 1) [1]),
  (19, eA (.iadd) []),
  (20, eA (.invokevirtual 151) [0, 128, 1, 7, 997]),
  (23, eA (.iload_n 2) [2]),
  (24, eA (.if_icmp .ne 7) [31]),
  (27, eC (.iconst 1) 1),
  (28, eA (.goto 16) [44]),
  (31, eC (.iconst 0) 0),
  (32, eA (.goto 12) [44]),
  (35, eA (.iload_n 2) [2]),
  (36, eA (.ifCond .ne 7) [43]),
  (39, eC (.iconst 1) 1),
  (40, eA (.goto 4) [44]),
  (43, eC (.iconst 0) 0),
  (44, eA (.ireturn) [])]
def hX7_isLetter : Hd := (tX7_isLetter, 7, false, 2)
def tX7_isWord : List (Nat × En) := [(0, eA (.aload_n 0) [0]),
  (1, eA (.getfield 174) [7, 26, 804]),
  (4, eA (.ifCond .ne 108) [112]),
  (7, eA (.aload_n 0) [0]),
  (8, eA (.getfield 157) [7, 22, 800]),
  (11, eC (.iconst 1) 1),
  (12, eA (.if_icmp .ne 100) [112]),
  (15, eA (.aload_n 0) [0]),
  (16, eA (.getfield 148) [7, 21, 799]),
  (19, eA (.aload_n 0) [0]),
  (20, eA (.getfield 154) [7, 23, 801]),
  (23, eC (.bipush 8) 8),
  (25, eA (.iadd) []),
  (26, eA (.if_icmp .gt 86) [112]),
  (29, eA (.aload_n 0) [0]),
  (30, eC (.iconst 0) 0),
  (31, eA (.iload_n 1) [1]),
  (32, eA (.invokevirtual 181) [0, 131, 2, 7, 1010]),
  (35, eA (.ifCond .eq 77) [112]),
  (38, eA (.aload_n 0) [0]),
  (39, eC (.iconst 1) 1),
  (40, eA (.iload_n 2) [2]),
  (41, eA (.invokevirtual 181) [0, 131, 2, 7, 1010]),
  (44, eA (.ifCond .eq 68) [112]),
  (47, eA (.aload_n 0) [0]),
  (48, eC (.iconst 2) 2),
  (49, eA (.iload_n 3) [3]),
  (50, eA (.invokevirtual 181) [0, 131, 2, 7, 1010]),
  (53, eA (.ifCond .eq 59) [112]),
  (56, eA (.aload_n 0) [0]),
  (57, eC (.iconst 3) 3),
  (58, eA (.iload 4) [4]),
  (60, eA (.invokevirtual 181) [0, 131, 2, 7, 1010]),
  (63, eA (.ifCond .eq 49) [112]),
  (66, eA (.aload_n 0) [0]),
  (67, eC (.iconst 4) 4),
  (68, eA (.iload 5) [5]),
  (70, eA (.invokevirtual 181) [0, 131, 2, 7, 1010]),
  (73, eA (.ifCond .eq 39) [112]),
  (76, eA (.aload_n 0) [0]),
  (77, eC (.iconst 5) 5),
  (78, eA (.iload 6) [6]),
  (80, eA (.invokevirtual 181) [0, 131, 2, 7, 1010]),
  (83, eA (.ifCond .eq 29) [112]),
  (86, eA (.aload_n 0) [0]),
  (87, eC (.bipush 6) 6),
  (89, eA (.iload 7) [7]),
  (91, eA (.invokevirtual 181) [0, 131, 2, 7, 1010]),
  (94, eA (.ifCond .eq 18) [112]),
  (97, eA (.aload_n 0) [0]),
  (98, eC (.bipush 7) 7),
  (100, eA (.iload 8) [8]),
  (102, eA (.invokevirtual 181) [0, 131, 2, 7, 1010]),
  (105, eA (.ifCond .eq 7) [112]),
  (108, eC (.iconst 1) 1),
  (109, eA (.goto 4) [113]),
  (112, eC (.iconst 0) 0),
  (113, eA (.ireturn) [])]
def hX7_isWord : Hd := (tX7_isWord, 7, false, 2)
def tX7_isSign : List (Nat × En) := [(0, eA (.aload_n 0) [0]),
  (1, eA (.getfield 174) [7, 26, 804]),
  (4, eA (.ifCond .ne 25) [29]),
  (7, eA (.aload_n 0) [0]),
  (8, eA (.getfield 157) [7, 22, 800]),
  (11, eC (.iconst 3) 3),
  (12, eA (.if_icmp .ne 17) [29]),
  (15, eA (.aload_n 0) [0]),
  (16, eA (.getfield 168) [7, 24, 802]),
  (19, eA (.iload_n 1) [1]),
  (20, eA (.i2l) []),
  (21, eA (.lcmp) []),
  (22, eA (.ifCond .ne 7) [29]),
  (25, eC (.iconst 1) 1),
  (26, eA (.goto 4) [30]),
  (29, eC (.iconst 0) 0),
  (30, eA (.ireturn) [])]
def hX7_isSign : Hd := (tX7_isSign, 7, false, 2)
def tX7_opens : List (Nat × En) := [(0, eA (.aload_n 0) [0]),
  (1, eA (.getfield 184) [7, 25, 803]),
  (4, eC (.iconst 5) 5),
  (5, eA (.if_icmp .ne 9) [14]),
  (8, eA (.aload_n 0) [0]),
  (9, eA (.invokevirtual 187) [0, 130, 0, 7, 1018]),
  (12, eC (.iconst 0) 0),
  (13, eA (.ireturn) []),
  (14, eA (.aload_n 0) [0]),
  (15, eA (.dup) []),
  (16, eA (.getfield 184) [7, 25, 803]),
  (19, eC (.iconst 1) 1),
  (20, eA (.iadd) []),
  (21, eA (.putfield 184) [7, 25, 803]),
  (24, eA (.aload_n 0) [0]),
  (25, eA (.invokevirtual 190) [0, 129, 0, 7, 993]),
  (28, eC (.iconst 1) 1),
  (29, eA (.ireturn) [])]
def hX7_opens : Hd := (tX7_opens, 7, false, 2)
def tX7_name : List (Nat × En) := [(0, eA (.aload_n 0) [0]),
  (1, eC (.bipush 103) 103),
  (3, eC (.bipush 114) 114),
  (5, eC (.bipush 97) 97),
  (7, eC (.bipush 105) 105),
  (9, eC (.bipush 110) 110),
  (11, eC (.bipush 115) 115),
  (13, eC (.iconst 0) 0),
  (14, eC (.iconst 0) 0),
  (15, eA (.invokevirtual 193) [0, 132, 8, 7, 1006]),
  (18, eA (.ifCond .eq 8) [26]),
  (21, eA (.aload_n 0) [0]),
  (22, eA (.getfield 197) [7, 13, 791]),
  (25, eA (.ireturn) []),
  (26, eA (.aload_n 0) [0]),
  (27, eC (.bipush 109) 109),
  (29, eC (.bipush 97) 97),
  (31, eC (.bipush 114) 114),
  (33, eC (.bipush 107) 107),
  (35, eC (.iconst 0) 0),
  (36, eC (.iconst 0) 0),
  (37, eC (.iconst 0) 0),
  (38, eC (.iconst 0) 0),
  (39, eA (.invokevirtual 193) [0, 132, 8, 7, 1006]),
  (42, eA (.ifCond .eq 8) [50]),
  (45, eA (.aload_n 0) [0]),
  (46, eA (.getfield 200) [7, 14, 792]),
  (49, eA (.ireturn) []),
  (50, eA (.aload_n 0) [0]),
  (51, eC (.bipush 110) 110),
  (53, eC (.bipush 117) 117),
  (55, eC (.bipush 109) 109),
  (57, eC (.bipush 98) 98),
  (59, eC (.bipush 101) 101),
  (61, eC (.bipush 114) 114),
  (63, eC (.iconst 0) 0),
  (64, eC (.iconst 0) 0),
  (65, eA (.invokevirtual 193) [0, 132, 8, 7, 1006]),
  (68, eA (.ifCond .eq 8) [76]),
  (71, eA (.aload_n 0) [0]),
  (72, eA (.getfield 203) [7, 15, 793]),
  (75, eA (.ireturn) []),
  (76, eA (.aload_n 0) [0]),
  (77, eC (.bipush 100) 100),
  (79, eC (.bipush 97) 97),
  (81, eC (.bipush 121) 121),
  (83, eC (.iconst 0) 0),
  (84, eC (.iconst 0) 0),
  (85, eC (.iconst 0) 0),
  (86, eC (.iconst 0) 0),
  (87, eC (.iconst 0) 0),
  (88, eA (.invokevirtual 193) [0, 132, 8, 7, 1006]),
  (91, eA (.ifCond .eq 8) [99]),
  (94, eA (.aload_n 0) [0]),
  (95, eA (.getfield 206) [7, 16, 794]),
  (98, eA (.ireturn) []),
  (99, eA (.aload_n 0) [0]),
  (100, eC (.bipush 99) 99),
  (102, eC (.bipush 111) 111),
  (104, eC (.bipush 97) 97),
  (106, eC (.bipush 115) 115),
  (108, eC (.bipush 116) 116),
  (110, eC (.iconst 0) 0),
  (111, eC (.iconst 0) 0),
  (112, eC (.iconst 0) 0),
  (113, eA (.invokevirtual 193) [0, 132, 8, 7, 1006]),
  (116, eA (.ifCond .eq 8) [124]),
  (119, eA (.aload_n 0) [0]),
  (120, eA (.getfield 209) [7, 17, 795]),
  (123, eA (.ireturn) []),
  (124, eA (.aload_n 0) [0]),
  (125, eC (.bipush 115) 115),
  (127, eC (.bipush 104) 104),
  (129, eC (.bipush 111) 111),
  (131, eC (.bipush 101) 101),
  (133, eC (.iconst 0) 0),
  (134, eC (.iconst 0) 0),
  (135, eC (.iconst 0) 0),
  (136, eC (.iconst 0) 0),
  (137, eA (.invokevirtual 193) [0, 132, 8, 7, 1006]),
  (140, eA (.ifCond .eq 8) [148]),
  (143, eA (.aload_n 0) [0]),
  (144, eA (.getfield 212) [7, 18, 796]),
  (147, eA (.ireturn) []),
  (148, eA (.aload_n 0) [0]),
  (149, eA (.invokevirtual 187) [0, 130, 0, 7, 1018]),
  (152, eC (.iconst 0) 0),
  (153, eA (.ireturn) [])]
def hX7_name : Hd := (tX7_name, 7, false, 1)
def tX7_atom : List (Nat × En) := [(0, eC (.iconst 0) 0),
  (1, eA (.istore_n 1) [1]),
  (2, eA (.aload_n 0) [0]),
  (3, eC (.bipush 45) 45),
  (5, eA (.invokevirtual 215) [0, 133, 1, 7, 1050]),
  (8, eA (.ifCond .eq 29) [37]),
  (11, eA (.aload_n 0) [0]),
  (12, eA (.invokevirtual 218) [0, 134, 0, 7, 1034]),
  (15, eA (.ifCond .eq 146) [161]),
  (18, eA (.aload_n 0) [0]),
  (19, eA (.invokevirtual 222) [0, 136, 0, 7, 1046]),
  (22, eA (.ineg) []),
  (23, eA (.istore_n 1) [1]),
  (24, eA (.aload_n 0) [0]),
  (25, eA (.dup) []),
  (26, eA (.getfield 184) [7, 25, 803]),
  (29, eC (.iconst 1) 1),
  (30, eA (.isub) []),
  (31, eA (.putfield 184) [7, 25, 803]),
  (34, eA (.goto 127) [161]),
  (37, eA (.aload_n 0) [0]),
  (38, eC (.bipush 40) 40),
  (40, eA (.invokevirtual 215) [0, 133, 1, 7, 1050]),
  (43, eA (.ifCond .eq 52) [95]),
  (46, eA (.aload_n 0) [0]),
  (47, eA (.invokevirtual 218) [0, 134, 0, 7, 1034]),
  (50, eA (.ifCond .eq 111) [161]),
  (53, eA (.aload_n 0) [0]),
  (54, eA (.invokevirtual 226) [0, 141, 0, 7, 1022]),
  (57, eA (.istore_n 1) [1]),
  (58, eA (.aload_n 0) [0]),
  (59, eC (.bipush 41) 41),
  (61, eA (.invokevirtual 215) [0, 133, 1, 7, 1050]),
  (64, eA (.ifCond .ne 7) [71]),
  (67, eA (.aload_n 0) [0]),
  (68, eA (.invokevirtual 187) [0, 130, 0, 7, 1018]),
  (71, eA (.aload_n 0) [0]),
  (72, eA (.dup) []),
  (73, eA (.getfield 184) [7, 25, 803]),
  (76, eC (.iconst 1) 1),
  (77, eA (.isub) []),
  (78, eA (.putfield 184) [7, 25, 803]),
  (81, eA (.aload_n 0) [0]),
  (82, eA (.getfield 174) [7, 26, 804]),
  (85, eA (.ifCond .ne 76) [161]),
  (88, eA (.aload_n 0) [0]),
  (89, eA (.invokevirtual 190) [0, 129, 0, 7, 993]),
  (92, eA (.goto 69) [161]),
  (95, eA (.aload_n 0) [0]),
  (96, eA (.getfield 174) [7, 26, 804]),
  (99, eA (.ifCond .ne 24) [123]),
  (102, eA (.aload_n 0) [0]),
  (103, eA (.getfield 157) [7, 22, 800]),
  (106, eC (.iconst 2) 2),
  (107, eA (.if_icmp .ne 16) [123]),
  (110, eA (.aload_n 0) [0]),
  (111, eA (.getfield 168) [7, 24, 802]),
  (114, eA (.l2i) []),
  (115, eA (.istore_n 1) [1]),
  (116, eA (.aload_n 0) [0]),
  (117, eA (.invokevirtual 190) [0, 129, 0, 7, 993]),
  (120, eA (.goto 41) [161]),
  (123, eA (.aload_n 0) [0]),
  (124, eA (.getfield 174) [7, 26, 804]),
  (127, eA (.ifCond .ne 30) [157]),
  (130, eA (.aload_n 0) [0]),
  (131, eA (.getfield 157) [7, 22, 800]),
  (134, eC (.iconst 1) 1),
  (135, eA (.if_icmp .ne 22) [157]),
  (138, eA (.aload_n 0) [0]),
  (139, eA (.invokevirtual 229) [0, 135, 0, 7, 1054]),
  (142, eA (.istore_n 1) [1]),
  (143, eA (.aload_n 0) [0]),
  (144, eA (.getfield 174) [7, 26, 804]),
  (147, eA (.ifCond .ne 14) [161]),
  (150, eA (.aload_n 0) [0]),
  (151, eA (.invokevirtual 190) [0, 129, 0, 7, 993]),
  (154, eA (.goto 7) [161]),
  (157, eA (.aload_n 0) [0]),
  (158, eA (.invokevirtual 187) [0, 130, 0, 7, 1018]),
  (161, eA (.iload_n 1) [1]),
  (162, eA (.ireturn) [])]
def hX7_atom : Hd := (tX7_atom, 7, false, 1)
def tX7_term : List (Nat × En) := [(0, eA (.aload_n 0) [0]),
  (1, eA (.invokevirtual 222) [0, 136, 0, 7, 1046]),
  (4, eA (.istore_n 1) [1]),
  (5, eA (.aload_n 0) [0]),
  (6, eC (.bipush 42) 42),
  (8, eA (.invokevirtual 215) [0, 133, 1, 7, 1050]),
  (11, eA (.ifCond .eq 17) [28]),
  (14, eA (.aload_n 0) [0]),
  (15, eA (.invokevirtual 190) [0, 129, 0, 7, 993]),
  (18, eA (.iload_n 1) [1]),
  (19, eA (.aload_n 0) [0]),
  (20, eA (.invokevirtual 222) [0, 136, 0, 7, 1046]),
  (23, eA (.imul) []),
  (24, eA (.istore_n 1) [1]),
  (25, eA (.goto (-20)) [5]),
  (28, eA (.iload_n 1) [1]),
  (29, eA (.ireturn) [])]
def hX7_term : Hd := (tX7_term, 7, false, 1)
def tX7_added : List (Nat × En) := [(0, eA (.aload_n 0) [0]),
  (1, eA (.invokevirtual 232) [0, 137, 0, 7, 1042]),
  (4, eA (.istore_n 1) [1]),
  (5, eA (.aload_n 0) [0]),
  (6, eC (.bipush 43) 43),
  (8, eA (.invokevirtual 215) [0, 133, 1, 7, 1050]),
  (11, eA (.ifCond .ne 12) [23]),
  (14, eA (.aload_n 0) [0]),
  (15, eC (.bipush 45) 45),
  (17, eA (.invokevirtual 215) [0, 133, 1, 7, 1050]),
  (20, eA (.ifCond .eq 46) [66]),
  (23, eA (.aload_n 0) [0]),
  (24, eA (.getfield 168) [7, 24, 802]),
  (27, (.ldc2_w 235, [1058], 0, 43, [])),
  (30, eA (.lcmp) []),
  (31, eA (.ifCond .ne 7) [38]),
  (34, eC (.iconst 1) 1),
  (35, eA (.goto 4) [39]),
  (38, eC (.iconst 0) 0),
  (39, eA (.istore_n 2) [2]),
  (40, eA (.aload_n 0) [0]),
  (41, eA (.invokevirtual 190) [0, 129, 0, 7, 993]),
  (44, eA (.aload_n 0) [0]),
  (45, eA (.invokevirtual 232) [0, 137, 0, 7, 1042]),
  (48, eA (.istore_n 3) [3]),
  (49, eA (.iload_n 2) [2]),
  (50, eA (.ifCond .eq 9) [59]),
  (53, eA (.iload_n 1) [1]),
  (54, eA (.iload_n 3) [3]),
  (55, eA (.iadd) []),
  (56, eA (.goto 6) [62]),
  (59, eA (.iload_n 1) [1]),
  (60, eA (.iload_n 3) [3]),
  (61, eA (.isub) []),
  (62, eA (.istore_n 1) [1]),
  (63, eA (.goto (-58)) [5]),
  (66, eA (.iload_n 1) [1]),
  (67, eA (.ireturn) [])]
def hX7_added : Hd := (tX7_added, 7, false, 1)
def tX7_not : List (Nat × En) := [(0, eA (.aload_n 0) [0]),
  (1, eC (.bipush 110) 110),
  (3, eC (.bipush 111) 111),
  (5, eC (.bipush 116) 116),
  (7, eC (.iconst 0) 0),
  (8, eC (.iconst 0) 0),
  (9, eC (.iconst 0) 0),
  (10, eC (.iconst 0) 0),
  (11, eC (.iconst 0) 0),
  (12, eA (.invokevirtual 193) [0, 132, 8, 7, 1006]),
  (15, eA (.ifCond .eq 37) [52]),
  (18, eA (.aload_n 0) [0]),
  (19, eA (.invokevirtual 218) [0, 134, 0, 7, 1034]),
  (22, eA (.ifCond .ne 5) [27]),
  (25, eC (.iconst 0) 0),
  (26, eA (.ireturn) []),
  (27, eA (.aload_n 0) [0]),
  (28, eA (.invokevirtual 237) [0, 139, 0, 7, 1030]),
  (31, eA (.istore_n 1) [1]),
  (32, eA (.aload_n 0) [0]),
  (33, eA (.dup) []),
  (34, eA (.getfield 184) [7, 25, 803]),
  (37, eC (.iconst 1) 1),
  (38, eA (.isub) []),
  (39, eA (.putfield 184) [7, 25, 803]),
  (42, eA (.iload_n 1) [1]),
  (43, eA (.ifCond .ne 7) [50]),
  (46, eC (.iconst 1) 1),
  (47, eA (.goto 4) [51]),
  (50, eC (.iconst 0) 0),
  (51, eA (.ireturn) []),
  (52, eA (.aload_n 0) [0]),
  (53, eA (.invokevirtual 240) [0, 138, 0, 7, 1038]),
  (56, eA (.istore_n 1) [1]),
  (57, eA (.aload_n 0) [0]),
  (58, eC (.bipush 60) 60),
  (60, eA (.invokevirtual 215) [0, 133, 1, 7, 1050]),
  (63, eA (.ifCond .ne 14) [77]),
  (66, eA (.aload_n 0) [0]),
  (67, eC (.bipush 61) 61),
  (69, eA (.invokevirtual 215) [0, 133, 1, 7, 1050]),
  (72, eA (.ifCond .ne 5) [77]),
  (75, eA (.iload_n 1) [1]),
  (76, eA (.ireturn) []),
  (77, eA (.aload_n 0) [0]),
  (78, eA (.getfield 168) [7, 24, 802]),
  (81, (.ldc2_w 243, [1059], 0, 60, [])),
  (84, eA (.lcmp) []),
  (85, eA (.ifCond .ne 7) [92]),
  (88, eC (.iconst 1) 1),
  (89, eA (.goto 4) [93]),
  (92, eC (.iconst 0) 0),
  (93, eA (.istore_n 2) [2]),
  (94, eA (.aload_n 0) [0]),
  (95, eA (.invokevirtual 190) [0, 129, 0, 7, 993]),
  (98, eA (.aload_n 0) [0]),
  (99, eA (.invokevirtual 240) [0, 138, 0, 7, 1038]),
  (102, eA (.istore_n 3) [3]),
  (103, eA (.iload_n 2) [2]),
  (104, eA (.ifCond .eq 11) [115]),
  (107, eA (.iload_n 1) [1]),
  (108, eA (.iload_n 3) [3]),
  (109, eA (.if_icmp .ge 15) [124]),
  (112, eA (.goto 8) [120]),
  (115, eA (.iload_n 1) [1]),
  (116, eA (.iload_n 3) [3]),
  (117, eA (.if_icmp .ne 7) [124]),
  (120, eC (.iconst 1) 1),
  (121, eA (.goto 4) [125]),
  (124, eC (.iconst 0) 0),
  (125, eA (.ireturn) [])]
def hX7_not : Hd := (tX7_not, 7, false, 1)
def tX7_both : List (Nat × En) := [(0, eA (.aload_n 0) [0]),
  (1, eA (.invokevirtual 237) [0, 139, 0, 7, 1030]),
  (4, eA (.istore_n 1) [1]),
  (5, eA (.aload_n 0) [0]),
  (6, eC (.bipush 97) 97),
  (8, eC (.bipush 110) 110),
  (10, eC (.bipush 100) 100),
  (12, eC (.iconst 0) 0),
  (13, eC (.iconst 0) 0),
  (14, eC (.iconst 0) 0),
  (15, eC (.iconst 0) 0),
  (16, eC (.iconst 0) 0),
  (17, eA (.invokevirtual 193) [0, 132, 8, 7, 1006]),
  (20, eA (.ifCond .eq 29) [49]),
  (23, eA (.aload_n 0) [0]),
  (24, eA (.invokevirtual 190) [0, 129, 0, 7, 993]),
  (27, eA (.aload_n 0) [0]),
  (28, eA (.invokevirtual 237) [0, 139, 0, 7, 1030]),
  (31, eA (.istore_n 2) [2]),
  (32, eA (.iload_n 1) [1]),
  (33, eA (.ifCond .eq 11) [44]),
  (36, eA (.iload_n 2) [2]),
  (37, eA (.ifCond .eq 7) [44]),
  (40, eC (.iconst 1) 1),
  (41, eA (.goto 4) [45]),
  (44, eC (.iconst 0) 0),
  (45, eA (.istore_n 1) [1]),
  (46, eA (.goto (-41)) [5]),
  (49, eA (.iload_n 1) [1]),
  (50, eA (.ireturn) [])]
def hX7_both : Hd := (tX7_both, 7, false, 1)
def tX7_either : List (Nat × En) := [(0, eA (.aload_n 0) [0]),
  (1, eA (.invokevirtual 245) [0, 140, 0, 7, 1026]),
  (4, eA (.istore_n 1) [1]),
  (5, eA (.aload_n 0) [0]),
  (6, eC (.bipush 111) 111),
  (8, eC (.bipush 114) 114),
  (10, eC (.iconst 0) 0),
  (11, eC (.iconst 0) 0),
  (12, eC (.iconst 0) 0),
  (13, eC (.iconst 0) 0),
  (14, eC (.iconst 0) 0),
  (15, eC (.iconst 0) 0),
  (16, eA (.invokevirtual 193) [0, 132, 8, 7, 1006]),
  (19, eA (.ifCond .eq 29) [48]),
  (22, eA (.aload_n 0) [0]),
  (23, eA (.invokevirtual 190) [0, 129, 0, 7, 993]),
  (26, eA (.aload_n 0) [0]),
  (27, eA (.invokevirtual 245) [0, 140, 0, 7, 1026]),
  (30, eA (.istore_n 2) [2]),
  (31, eA (.iload_n 1) [1]),
  (32, eA (.ifCond .ne 7) [39]),
  (35, eA (.iload_n 2) [2]),
  (36, eA (.ifCond .eq 7) [43]),
  (39, eC (.iconst 1) 1),
  (40, eA (.goto 4) [44]),
  (43, eC (.iconst 0) 0),
  (44, eA (.istore_n 1) [1]),
  (45, eA (.goto (-40)) [5]),
  (48, eA (.iload_n 1) [1]),
  (49, eA (.ireturn) [])]
def hX7_either : Hd := (tX7_either, 7, false, 1)
def tX7_part : List (Nat × En) := [(0, eA (.iload_n 1) [1]),
  (1, eA (.ifCond .ne 7) [8]),
  (4, eA (.aload_n 0) [0]),
  (5, eA (.invokevirtual 187) [0, 130, 0, 7, 1018]),
  (8, eA (.aload_n 0) [0]),
  (9, eA (.getfield 174) [7, 26, 804]),
  (12, eA (.ifCond .ne 7) [19]),
  (15, eA (.aload_n 0) [0]),
  (16, eA (.invokevirtual 190) [0, 129, 0, 7, 993]),
  (19, eA (.aload_n 0) [0]),
  (20, eA (.getfield 174) [7, 26, 804]),
  (23, eA (.ifCond .eq 7) [30]),
  (26, eC (.iconst 0) 0),
  (27, eA (.goto 7) [34]),
  (30, eA (.aload_n 0) [0]),
  (31, eA (.invokevirtual 226) [0, 141, 0, 7, 1022]),
  (34, eA (.istore_n 2) [2]),
  (35, eA (.aload_n 0) [0]),
  (36, eC (.bipush 59) 59),
  (38, eA (.invokevirtual 215) [0, 133, 1, 7, 1050]),
  (41, eA (.ifCond .ne 7) [48]),
  (44, eA (.aload_n 0) [0]),
  (45, eA (.invokevirtual 187) [0, 130, 0, 7, 1018]),
  (48, eA (.aload_n 0) [0]),
  (49, eA (.getfield 174) [7, 26, 804]),
  (52, eA (.ifCond .ne 7) [59]),
  (55, eA (.aload_n 0) [0]),
  (56, eA (.invokevirtual 190) [0, 129, 0, 7, 993]),
  (59, eA (.iload_n 2) [2]),
  (60, eA (.ireturn) [])]
def hX7_part : Hd := (tX7_part, 7, false, 1)
def tX7_read : List (Nat × En) := [(0, eA (.aload_n 0) [0]),
  (1, eC (.sipush 160) 160),
  (4, eA (.iload_n 1) [1]),
  (5, eA (.imul) []),
  (6, eA (.putfield 145) [7, 19, 797]),
  (9, eA (.aload_n 0) [0]),
  (10, eA (.aload_n 0) [0]),
  (11, eA (.getfield 17) [7, 2, 780]),
  (14, eA (.iload_n 1) [1]),
  (15, eA (.iaload) []),
  (16, eA (.putfield 142) [7, 20, 798]),
  (19, eA (.aload_n 0) [0]),
  (20, eC (.iconst 0) 0),
  (21, eA (.putfield 148) [7, 21, 799]),
  (24, eA (.aload_n 0) [0]),
  (25, eC (.iconst 0) 0),
  (26, eA (.putfield 184) [7, 25, 803]),
  (29, eA (.aload_n 0) [0]),
  (30, eC (.iconst 0) 0),
  (31, eA (.putfield 174) [7, 26, 804]),
  (34, eA (.aload_n 0) [0]),
  (35, eA (.invokevirtual 190) [0, 129, 0, 7, 993]),
  (38, eA (.aload_n 0) [0]),
  (39, eA (.aload_n 0) [0]),
  (40, eC (.bipush 116) 116),
  (42, eC (.bipush 97) 97),
  (44, eC (.bipush 107) 107),
  (46, eC (.bipush 101) 101),
  (48, eC (.bipush 115) 115),
  (50, eC (.iconst 0) 0),
  (51, eC (.iconst 0) 0),
  (52, eC (.iconst 0) 0),
  (53, eA (.invokevirtual 193) [0, 132, 8, 7, 1006]),
  (56, eA (.invokevirtual 248) [0, 142, 1, 7, 1014]),
  (59, eA (.istore_n 3) [3]),
  (60, eA (.aload_n 0) [0]),
  (61, eA (.getfield 174) [7, 26, 804]),
  (64, eA (.ifCond .eq 7) [71]),
  (67, eC (.iconst 0) 0),
  (68, eA (.goto 24) [92]),
  (71, eA (.aload_n 0) [0]),
  (72, eA (.aload_n 0) [0]),
  (73, eC (.bipush 107) 107),
  (75, eC (.bipush 101) 101),
  (77, eC (.bipush 101) 101),
  (79, eC (.bipush 112) 112),
  (81, eC (.bipush 115) 115),
  (83, eC (.iconst 0) 0),
  (84, eC (.iconst 0) 0),
  (85, eC (.iconst 0) 0),
  (86, eA (.invokevirtual 193) [0, 132, 8, 7, 1006]),
  (89, eA (.invokevirtual 248) [0, 142, 1, 7, 1014]),
  (92, eA (.istore 4) [4]),
  (94, eA (.aload_n 0) [0]),
  (95, eA (.getfield 174) [7, 26, 804]),
  (98, eA (.ifCond .eq 7) [105]),
  (101, eC (.iconst 0) 0),
  (102, eA (.goto 23) [125]),
  (105, eA (.aload_n 0) [0]),
  (106, eA (.aload_n 0) [0]),
  (107, eC (.bipush 115) 115),
  (109, eC (.bipush 117) 117),
  (111, eC (.bipush 114) 114),
  (113, eC (.bipush 101) 101),
  (115, eC (.iconst 0) 0),
  (116, eC (.iconst 0) 0),
  (117, eC (.iconst 0) 0),
  (118, eC (.iconst 0) 0),
  (119, eA (.invokevirtual 193) [0, 132, 8, 7, 1006]),
  (122, eA (.invokevirtual 248) [0, 142, 1, 7, 1014]),
  (125, eA (.istore 5) [5]),
  (127, eA (.aload_n 0) [0]),
  (128, eA (.getfield 174) [7, 26, 804]),
  (131, eA (.ifCond .ne 14) [145]),
  (134, eA (.aload_n 0) [0]),
  (135, eA (.getfield 157) [7, 22, 800]),
  (138, eA (.ifCond .eq 7) [145]),
  (141, eA (.aload_n 0) [0]),
  (142, eA (.invokevirtual 187) [0, 130, 0, 7, 1018]),
  (145, eA (.iload_n 2) [2]),
  (146, eA (.ifCond .ne 7) [153]),
  (149, eA (.iload_n 3) [3]),
  (150, eA (.goto 15) [165]),
  (153, eA (.iload_n 2) [2]),
  (154, eC (.iconst 1) 1),
  (155, eA (.if_icmp .ne 8) [163]),
  (158, eA (.iload 4) [4]),
  (160, eA (.goto 5) [165]),
  (163, eA (.iload 5) [5]),
  (165, eA (.ireturn) [])]
def hX7_read : Hd := (tX7_read, 7, false, 1)
def tX7_text : List (Nat × En) := [(0, eA (.aload_n 0) [0]),
  (1, eA (.getfield 76) [7, 3, 781]),
  (4, eC (.bipush 6) 6),
  (6, eA (.if_icmp .ne 6) [12]),
  (9, eC (.bipush (-4)) (-4)),
  (11, eA (.ireturn) []),
  (12, eC (.iconst 0) 0),
  (13, eA (.istore_n 1) [1]),
  (14, eA (.iload_n 1) [1]),
  (15, eA (.aload_n 0) [0]),
  (16, eA (.getfield 139) [7, 6, 784]),
  (19, eA (.if_icmp .ge 30) [49]),
  (22, eA (.aload_n 0) [0]),
  (23, eA (.getfield 13) [7, 1, 779]),
  (26, eC (.sipush 160) 160),
  (29, eA (.aload_n 0) [0]),
  (30, eA (.getfield 76) [7, 3, 781]),
  (33, eA (.imul) []),
  (34, eA (.iload_n 1) [1]),
  (35, eA (.iadd) []),
  (36, eA (.aload_n 0) [0]),
  (37, eA (.getfield 20) [7, 5, 783]),
  (40, eA (.iload_n 1) [1]),
  (41, eA (.iaload) []),
  (42, eA (.iastore) []),
  (43, (.iinc 1 1, [1], 1, 0, [])),
  (46, eA (.goto (-32)) [14]),
  (49, eA (.aload_n 0) [0]),
  (50, eA (.getfield 17) [7, 2, 780]),
  (53, eA (.aload_n 0) [0]),
  (54, eA (.getfield 76) [7, 3, 781]),
  (57, eA (.aload_n 0) [0]),
  (58, eA (.getfield 139) [7, 6, 784]),
  (61, eA (.iastore) []),
  (62, eA (.aload_n 0) [0]),
  (63, eC (.iconst 0) 0),
  (64, eA (.putfield 139) [7, 6, 784]),
  (67, eA (.aload_n 0) [0]),
  (68, eA (.aload_n 0) [0]),
  (69, eA (.getfield 76) [7, 3, 781]),
  (72, eC (.iconst 0) 0),
  (73, eA (.invokevirtual 252) [0, 143, 2, 7, 989]),
  (76, eA (.istore_n 1) [1]),
  (77, eA (.aload_n 0) [0]),
  (78, eA (.getfield 174) [7, 26, 804]),
  (81, eA (.ifCond .eq 11) [92]),
  (84, eC (.bipush (-100)) (-100)),
  (86, eA (.aload_n 0) [0]),
  (87, eA (.getfield 178) [7, 27, 805]),
  (90, eA (.isub) []),
  (91, eA (.ireturn) []),
  (92, eA (.aload_n 0) [0]),
  (93, eA (.dup) []),
  (94, eA (.getfield 76) [7, 3, 781]),
  (97, eC (.iconst 1) 1),
  (98, eA (.iadd) []),
  (99, eA (.putfield 76) [7, 3, 781]),
  (102, eA (.aload_n 0) [0]),
  (103, eA (.getfield 76) [7, 3, 781]),
  (106, eC (.iconst 1) 1),
  (107, eA (.isub) []),
  (108, eA (.ireturn) [])]
def hX7_text : Hd := (tX7_text, 7, false, 1)
def tX7_force : List (Nat × En) := [(0, eA (.iload_n 1) [1]),
  (1, eA (.i2l) []),
  (2, eL (.lconst 0) 0),
  (3, eA (.aload_n 0) [0]),
  (4, eA (.getfield 76) [7, 3, 781]),
  (7, eC (.iconst 1) 1),
  (8, eA (.isub) []),
  (9, eA (.i2l) []),
  (10, eA (.invokestatic 82) [0, 111, 3, 0, 932]),
  (13, eA (.ifCond .ne 6) [19]),
  (16, eC (.bipush (-2)) (-2)),
  (18, eA (.ireturn) []),
  (19, eA (.aload_n 0) [0]),
  (20, eA (.getfield 124) [7, 4, 782]),
  (23, eA (.istore_n 2) [2]),
  (24, eA (.aload_n 0) [0]),
  (25, eA (.iload_n 1) [1]),
  (26, eA (.putfield 124) [7, 4, 782]),
  (29, eA (.iload_n 2) [2]),
  (30, eA (.ireturn) [])]
def hX7_force : Hd := (tX7_force, 7, false, 1)
def tX7_says : List (Nat × En) := [(0, eA (.aload_n 0) [0]),
  (1, eA (.iload 4) [4]),
  (3, eA (.putfield 197) [7, 13, 791]),
  (6, eA (.aload_n 0) [0]),
  (7, eA (.iload_n 3) [3]),
  (8, eA (.putfield 200) [7, 14, 792]),
  (11, eA (.aload_n 0) [0]),
  (12, eA (.aload_n 0) [0]),
  (13, eA (.getfield 29) [7, 10, 788]),
  (16, eC (.iconst 2) 2),
  (17, eA (.iload_n 2) [2]),
  (18, eA (.imul) []),
  (19, eA (.iaload) []),
  (20, eA (.putfield 203) [7, 15, 793]),
  (23, eA (.aload_n 0) [0]),
  (24, eA (.aload_n 0) [0]),
  (25, eA (.getfield 118) [7, 7, 785]),
  (28, eA (.putfield 206) [7, 16, 794]),
  (31, eA (.aload_n 0) [0]),
  (32, eA (.iload 5) [5]),
  (34, eA (.putfield 209) [7, 17, 795]),
  (37, eA (.aload_n 0) [0]),
  (38, eA (.iload 6) [6]),
  (40, eA (.putfield 212) [7, 18, 796]),
  (43, eA (.aload_n 0) [0]),
  (44, eA (.aload_n 0) [0]),
  (45, eA (.getfield 124) [7, 4, 782]),
  (48, eA (.iload_n 1) [1]),
  (49, eA (.invokevirtual 252) [0, 143, 2, 7, 989]),
  (52, eC (.iconst 0) 0),
  (53, eA (.iload_n 1) [1]),
  (54, eC (.iconst 1) 1),
  (55, eA (.if_icmp .ne 8) [63]),
  (58, eC (.bipush 100) 100),
  (60, eA (.goto 5) [65]),
  (63, eC (.bipush 99) 99),
  (65, eA (.invokestatic 255) [0, 112, 3, 0, 1076]),
  (68, eA (.ireturn) [])]
def hX7_says : Hd := (tX7_says, 7, false, 1)
def tX7_takesOf : List (Nat × En) := [(0, eA (.aload_n 0) [0]),
  (1, eA (.getfield 26) [7, 9, 787]),
  (4, eA (.iload_n 1) [1]),
  (5, eA (.iaload) []),
  (6, eA (.istore 4) [4]),
  (8, eA (.aload_n 0) [0]),
  (9, eA (.getfield 29) [7, 10, 788]),
  (12, eC (.iconst 2) 2),
  (13, eA (.iload_n 1) [1]),
  (14, eA (.imul) []),
  (15, eA (.iaload) []),
  (16, eA (.istore 5) [5]),
  (18, eA (.iload 4) [4]),
  (20, eC (.iconst 4) 4),
  (21, eA (.if_icmp .ne 10) [31]),
  (24, eA (.iload_n 2) [2]),
  (25, eC (.iconst 5) 5),
  (26, eA (.if_icmp .ne 5) [31]),
  (29, eC (.iconst 0) 0),
  (30, eA (.ireturn) []),
  (31, eA (.aload_n 0) [0]),
  (32, eC (.iconst 0) 0),
  (33, eA (.iload_n 1) [1]),
  (34, eA (.iload_n 2) [2]),
  (35, eA (.aload_n 0) [0]),
  (36, eA (.getfield 23) [7, 8, 786]),
  (39, eC (.bipush 6) 6),
  (41, eA (.iload_n 3) [3]),
  (42, eA (.imul) []),
  (43, eA (.iload_n 2) [2]),
  (44, eA (.iadd) []),
  (45, eA (.iaload) []),
  (46, eA (.iload_n 3) [3]),
  (47, eC (.iconst 0) 0),
  (48, eA (.invokevirtual 259) [0, 146, 6, 7, 1072]),
  (51, eA (.istore 6) [6]),
  (53, eA (.iload 4) [4]),
  (55, eC (.iconst 1) 1),
  (56, eA (.if_icmp .ne 10) [66]),
  (59, eC (.iconst 2) 2),
  (60, eA (.iload 6) [6]),
  (62, eA (.imul) []),
  (63, eA (.goto 66) [129]),
  (66, eA (.iload 4) [4]),
  (68, eC (.iconst 3) 3),
  (69, eA (.if_icmp .ne 26) [95]),
  (72, eC (.iconst 2) 2),
  (73, eA (.iload 6) [6]),
  (75, eA (.imul) []),
  (76, eA (.iload_n 2) [2]),
  (77, eA (.iload 5) [5]),
  (79, eC (.bipush 6) 6),
  (81, eA (.irem) []),
  (82, eA (.if_icmp .ne 8) [90]),
  (85, eA (.iload 5) [5]),
  (87, eA (.goto 4) [91]),
  (90, eC (.iconst 0) 0),
  (91, eA (.iadd) []),
  (92, eA (.goto 37) [129]),
  (95, eA (.iload 4) [4]),
  (97, eC (.iconst 2) 2),
  (98, eA (.if_icmp .eq 9) [107]),
  (101, eA (.iload 4) [4]),
  (103, eC (.iconst 4) 4),
  (104, eA (.if_icmp .ne 10) [114]),
  (107, eA (.iload 6) [6]),
  (109, eC (.iconst 2) 2),
  (110, eA (.idiv) []),
  (111, eA (.goto 18) [129]),
  (114, eA (.iload 4) [4]),
  (116, eC (.iconst 5) 5),
  (117, eA (.if_icmp .ne 10) [127]),
  (120, eA (.iload 6) [6]),
  (122, eA (.iload_n 2) [2]),
  (123, eA (.iadd) []),
  (124, eA (.goto 5) [129]),
  (127, eA (.iload 6) [6]),
  (129, eA (.istore 7) [7]),
  (131, eA (.iload 7) [7]),
  (133, eC (.iconst 0) 0),
  (134, eC (.bipush 99) 99),
  (136, eA (.invokestatic 255) [0, 112, 3, 0, 1076]),
  (139, eA (.ireturn) [])]
def hX7_takesOf : Hd := (tX7_takesOf, 7, false, 1)
def tX7_keepsOf : List (Nat × En) := [(0, eA (.aload_n 0) [0]),
  (1, eA (.getfield 26) [7, 9, 787]),
  (4, eA (.iload_n 1) [1]),
  (5, eA (.iaload) []),
  (6, eA (.istore_n 3) [3]),
  (7, eA (.aload_n 0) [0]),
  (8, eA (.getfield 32) [7, 11, 789]),
  (11, eC (.bipush 6) 6),
  (13, eA (.iload_n 1) [1]),
  (14, eA (.imul) []),
  (15, eA (.iload_n 2) [2]),
  (16, eA (.iadd) []),
  (17, eA (.iaload) []),
  (18, eA (.istore 4) [4]),
  (20, eA (.iload_n 3) [3]),
  (21, eC (.iconst 5) 5),
  (22, eA (.if_icmp .eq 8) [30]),
  (25, eA (.iload_n 3) [3]),
  (26, eC (.iconst 2) 2),
  (27, eA (.if_icmp .ne 15) [42]),
  (30, eA (.iload_n 3) [3]),
  (31, eC (.iconst 5) 5),
  (32, eA (.if_icmp .ne 7) [39]),
  (35, eC (.iconst 0) 0),
  (36, eA (.goto 5) [41]),
  (39, eA (.iload 4) [4]),
  (41, eA (.ireturn) []),
  (42, eA (.iload_n 3) [3]),
  (43, eC (.iconst 4) 4),
  (44, eA (.if_icmp .ne 20) [64]),
  (47, eA (.iload 4) [4]),
  (49, eC (.bipush 10) 10),
  (51, eA (.if_icmp .ge 7) [58]),
  (54, eC (.iconst 0) 0),
  (55, eA (.goto 8) [63]),
  (58, eA (.iload 4) [4]),
  (60, eC (.bipush 10) 10),
  (62, eA (.isub) []),
  (63, eA (.ireturn) []),
  (64, eA (.iload 4) [4]),
  (66, eA (.aload_n 0) [0]),
  (67, eC (.iconst 1) 1),
  (68, eA (.iload_n 1) [1]),
  (69, eA (.iload_n 2) [2]),
  (70, eA (.iload 4) [4]),
  (72, eC (.iconst 0) 0),
  (73, eA (.aload_n 0) [0]),
  (74, eA (.iload_n 1) [1]),
  (75, eA (.invokevirtual 131) [0, 125, 1, 7, 962]),
  (78, eA (.invokevirtual 259) [0, 146, 6, 7, 1072]),
  (81, eA (.imul) []),
  (82, eC (.bipush 100) 100),
  (84, eA (.idiv) []),
  (85, eA (.istore 5) [5]),
  (87, eA (.iload_n 3) [3]),
  (88, eC (.iconst 3) 3),
  (89, eA (.if_icmp .ne 10) [99]),
  (92, eA (.iload 5) [5]),
  (94, eC (.iconst 2) 2),
  (95, eA (.idiv) []),
  (96, eA (.goto 5) [101]),
  (99, eA (.iload 5) [5]),
  (101, eA (.ireturn) [])]
def hX7_keepsOf : Hd := (tX7_keepsOf, 7, false, 1)
def tX7_sureOf : List (Nat × En) := [(0, eA (.aload_n 0) [0]),
  (1, eA (.getfield 26) [7, 9, 787]),
  (4, eA (.iload_n 1) [1]),
  (5, eA (.iaload) []),
  (6, eA (.istore 4) [4]),
  (8, eA (.iload 4) [4]),
  (10, eC (.iconst 3) 3),
  (11, eA (.if_icmp .eq 9) [20]),
  (14, eA (.iload 4) [4]),
  (16, eC (.iconst 5) 5),
  (17, eA (.if_icmp .ne 15) [32]),
  (20, eA (.iload 4) [4]),
  (22, eC (.iconst 5) 5),
  (23, eA (.if_icmp .ne 7) [30]),
  (26, eC (.iconst 1) 1),
  (27, eA (.goto 4) [31]),
  (30, eC (.iconst 0) 0),
  (31, eA (.ireturn) []),
  (32, eA (.aload_n 0) [0]),
  (33, eC (.iconst 2) 2),
  (34, eA (.iload_n 1) [1]),
  (35, eA (.iload_n 2) [2]),
  (36, eA (.aload_n 0) [0]),
  (37, eA (.getfield 32) [7, 11, 789]),
  (40, eC (.bipush 6) 6),
  (42, eA (.iload_n 3) [3]),
  (43, eA (.imul) []),
  (44, eA (.iload_n 2) [2]),
  (45, eA (.iadd) []),
  (46, eA (.iaload) []),
  (47, eC (.iconst 0) 0),
  (48, eA (.aload_n 0) [0]),
  (49, eA (.iload_n 3) [3]),
  (50, eA (.invokevirtual 131) [0, 125, 1, 7, 962]),
  (53, eA (.invokevirtual 259) [0, 146, 6, 7, 1072]),
  (56, eA (.istore 5) [5]),
  (58, eA (.iload 5) [5]),
  (60, eA (.aload_n 0) [0]),
  (61, eA (.getfield 29) [7, 10, 788]),
  (64, eC (.iconst 2) 2),
  (65, eA (.iload_n 1) [1]),
  (66, eA (.imul) []),
  (67, eA (.iaload) []),
  (68, eA (.iadd) []),
  (69, eA (.istore 6) [6]),
  (71, eA (.iload 4) [4]),
  (73, eC (.iconst 2) 2),
  (74, eA (.if_icmp .ne 8) [82]),
  (77, eA (.iload 6) [6]),
  (79, eA (.goto 18) [97]),
  (82, eA (.iload 4) [4]),
  (84, eC (.iconst 4) 4),
  (85, eA (.if_icmp .ne 10) [95]),
  (88, eC (.iconst 2) 2),
  (89, eA (.iload 6) [6]),
  (91, eA (.imul) []),
  (92, eA (.goto 5) [97]),
  (95, eA (.iload 5) [5]),
  (97, eC (.iconst 0) 0),
  (98, eC (.sipush 999) 999),
  (101, eA (.invokestatic 255) [0, 112, 3, 0, 1076]),
  (104, eA (.ireturn) [])]
def hX7_sureOf : Hd := (tX7_sureOf, 7, false, 1)
def tX7_asks : List (Nat × En) := [(0, eA (.aload_n 0) [0]),
  (1, eA (.iload_n 1) [1]),
  (2, eA (.invokevirtual 94) [0, 115, 1, 7, 944]),
  (5, eA (.ifCond .eq 22) [27]),
  (8, eA (.iload_n 2) [2]),
  (9, eA (.invokestatic 90) [0, 117, 1, 0, 940]),
  (12, eA (.ifCond .eq 15) [27]),
  (15, eA (.iload_n 3) [3]),
  (16, eA (.i2l) []),
  (17, eL (.lconst 0) 0),
  (18, (.ldc2_w 129, [958], 0, 7, [])),
  (21, eA (.invokestatic 82) [0, 111, 3, 0, 932]),
  (24, eA (.ifCond .ne 6) [30]),
  (27, eC (.bipush (-2)) (-2)),
  (29, eA (.ireturn) []),
  (30, eA (.iload_n 3) [3]),
  (31, eC (.bipush 6) 6),
  (33, eA (.if_icmp .ge 13) [46]),
  (36, eA (.aload_n 0) [0]),
  (37, eA (.iload_n 1) [1]),
  (38, eA (.iload_n 2) [2]),
  (39, eA (.iload_n 3) [3]),
  (40, eA (.invokevirtual 263) [0, 147, 3, 7, 1068]),
  (43, eA (.goto 25) [68]),
  (46, eA (.iload_n 3) [3]),
  (47, eC (.bipush 6) 6),
  (49, eA (.if_icmp .ne 12) [61]),
  (52, eA (.aload_n 0) [0]),
  (53, eA (.iload_n 1) [1]),
  (54, eA (.iload_n 2) [2]),
  (55, eA (.invokevirtual 266) [0, 148, 2, 7, 1079]),
  (58, eA (.goto 10) [68]),
  (61, eA (.aload_n 0) [0]),
  (62, eA (.iload_n 1) [1]),
  (63, eA (.iload_n 2) [2]),
  (64, eA (.iload_n 1) [1]),
  (65, eA (.invokevirtual 269) [0, 149, 3, 7, 1083]),
  (68, eA (.ireturn) [])]
def hX7_asks : Hd := (tX7_asks, 7, false, 1)
def tX7_stays1 : List (Nat × En) := [(0, eC (.iconst 0) 0),
  (1, eA (.istore_n 3) [3]),
  (2, eA (.iload_n 3) [3]),
  (3, eC (.bipush 6) 6),
  (5, eA (.if_icmp .ge 46) [51]),
  (8, eA (.aload_n 0) [0]),
  (9, eA (.getfield 32) [7, 11, 789]),
  (12, eC (.bipush 6) 6),
  (14, eA (.iload_n 1) [1]),
  (15, eA (.imul) []),
  (16, eA (.iload_n 3) [3]),
  (17, eA (.iadd) []),
  (18, eA (.aload_n 0) [0]),
  (19, eA (.getfield 32) [7, 11, 789]),
  (22, eC (.bipush 6) 6),
  (24, eA (.iload_n 1) [1]),
  (25, eA (.imul) []),
  (26, eA (.iload_n 3) [3]),
  (27, eA (.iadd) []),
  (28, eA (.iaload) []),
  (29, eA (.aload_n 0) [0]),
  (30, eA (.iload_n 1) [1]),
  (31, eA (.iload_n 3) [3]),
  (32, eA (.iload_n 2) [2]),
  (33, eA (.invokevirtual 263) [0, 147, 3, 7, 1068]),
  (36, eA (.iadd) []),
  (37, eC (.iconst 0) 0),
  (38, eC (.sipush 9999) 9999),
  (41, eA (.invokestatic 255) [0, 112, 3, 0, 1076]),
  (44, eA (.iastore) []),
  (45, (.iinc 3 1, [3], 1, 0, [])),
  (48, eA (.goto (-46)) [2]),
  (51, eA (.aload_n 0) [0]),
  (52, eA (.getfield 29) [7, 10, 788]),
  (55, eC (.iconst 2) 2),
  (56, eA (.iload_n 1) [1]),
  (57, eA (.imul) []),
  (58, eC (.iconst 1) 1),
  (59, eA (.iadd) []),
  (60, eA (.aload_n 0) [0]),
  (61, eA (.getfield 29) [7, 10, 788]),
  (64, eC (.iconst 2) 2),
  (65, eA (.iload_n 1) [1]),
  (66, eA (.imul) []),
  (67, eC (.iconst 1) 1),
  (68, eA (.iadd) []),
  (69, eA (.iaload) []),
  (70, eC (.iconst 1) 1),
  (71, eA (.iadd) []),
  (72, eC (.iconst 0) 0),
  (73, eC (.sipush 9999) 9999),
  (76, eA (.invokestatic 255) [0, 112, 3, 0, 1076]),
  (79, eA (.iastore) []),
  (80, eA (.aload_n 0) [0]),
  (81, eA (.dup) []),
  (82, eA (.getfield 118) [7, 7, 785]),
  (85, eC (.iconst 1) 1),
  (86, eA (.iadd) []),
  (87, eA (.putfield 118) [7, 7, 785]),
  (90, eA (.return_) [])]
def hX7_stays1 : Hd := (tX7_stays1, 7, false, 0)
def tX7_stay : List (Nat × En) := [(0, eA (.aload_n 0) [0]),
  (1, eA (.iload_n 1) [1]),
  (2, eA (.invokevirtual 94) [0, 115, 1, 7, 944]),
  (5, eA (.ifCond .eq 10) [15]),
  (8, eA (.iload_n 2) [2]),
  (9, eA (.invokestatic 97) [0, 116, 1, 0, 948]),
  (12, eA (.ifCond .ne 6) [18]),
  (15, eC (.bipush (-2)) (-2)),
  (17, eA (.ireturn) []),
  (18, eA (.aload_n 0) [0]),
  (19, eA (.getfield 118) [7, 7, 785]),
  (22, eC (.sipush 999) 999),
  (25, eA (.if_icmp .ne 6) [31]),
  (28, eC (.bipush (-3)) (-3)),
  (30, eA (.ireturn) []),
  (31, eA (.aload_n 0) [0]),
  (32, eA (.iload_n 1) [1]),
  (33, eA (.iload_n 2) [2]),
  (34, eA (.invokevirtual 272) [0, 151, 2, 7, 1091]),
  (37, eA (.aload_n 0) [0]),
  (38, eA (.iload_n 1) [1]),
  (39, eA (.invokevirtual 131) [0, 125, 1, 7, 962]),
  (42, eA (.ireturn) [])]
def hX7_stay : Hd := (tX7_stay, 7, false, 1)
def tX7_shake : List (Nat × En) := [(0, eA (.aload_n 0) [0]),
  (1, eA (.iload_n 1) [1]),
  (2, eA (.invokevirtual 94) [0, 115, 1, 7, 944]),
  (5, eA (.ifCond .ne 6) [11]),
  (8, eC (.bipush (-2)) (-2)),
  (10, eA (.ireturn) []),
  (11, eA (.aload_n 0) [0]),
  (12, eA (.iload_n 1) [1]),
  (13, eA (.invokevirtual 131) [0, 125, 1, 7, 962]),
  (16, eA (.istore_n 2) [2]),
  (17, eC (.iconst 0) 0),
  (18, eA (.istore_n 3) [3]),
  (19, eA (.iload_n 3) [3]),
  (20, eC (.bipush 6) 6),
  (22, eA (.if_icmp .ge 21) [43]),
  (25, eA (.aload_n 0) [0]),
  (26, eA (.getfield 35) [7, 28, 806]),
  (29, eA (.iload_n 3) [3]),
  (30, eA (.aload_n 0) [0]),
  (31, eA (.iload_n 1) [1]),
  (32, eA (.iload_n 3) [3]),
  (33, eA (.invokevirtual 266) [0, 148, 2, 7, 1079]),
  (36, eA (.iastore) []),
  (37, (.iinc 3 1, [3], 1, 0, [])),
  (40, eA (.goto (-21)) [19]),
  (43, eC (.iconst 0) 0),
  (44, eA (.istore_n 3) [3]),
  (45, eA (.iload_n 3) [3]),
  (46, eC (.bipush 6) 6),
  (48, eA (.if_icmp .ge 26) [74]),
  (51, eA (.aload_n 0) [0]),
  (52, eA (.getfield 32) [7, 11, 789]),
  (55, eC (.bipush 6) 6),
  (57, eA (.iload_n 1) [1]),
  (58, eA (.imul) []),
  (59, eA (.iload_n 3) [3]),
  (60, eA (.iadd) []),
  (61, eA (.aload_n 0) [0]),
  (62, eA (.getfield 35) [7, 28, 806]),
  (65, eA (.iload_n 3) [3]),
  (66, eA (.iaload) []),
  (67, eA (.iastore) []),
  (68, (.iinc 3 1, [3], 1, 0, [])),
  (71, eA (.goto (-26)) [45]),
  (74, eA (.iload_n 2) [2]),
  (75, eA (.aload_n 0) [0]),
  (76, eA (.iload_n 1) [1]),
  (77, eA (.invokevirtual 131) [0, 125, 1, 7, 962]),
  (80, eA (.isub) []),
  (81, eA (.ireturn) [])]
def hX7_shake : Hd := (tX7_shake, 7, false, 1)
def tX7_apart : List (Nat × En) := [(0, eC (.iconst 0) 0),
  (1, eA (.istore_n 3) [3]),
  (2, eC (.iconst 0) 0),
  (3, eA (.istore 4) [4]),
  (5, eA (.iload 4) [4]),
  (7, eC (.bipush 6) 6),
  (9, eA (.if_icmp .ge 52) [61]),
  (12, eA (.aload_n 0) [0]),
  (13, eA (.getfield 32) [7, 11, 789]),
  (16, eC (.bipush 6) 6),
  (18, eA (.iload_n 1) [1]),
  (19, eA (.imul) []),
  (20, eA (.iload 4) [4]),
  (22, eA (.iadd) []),
  (23, eA (.iaload) []),
  (24, eA (.aload_n 0) [0]),
  (25, eA (.getfield 32) [7, 11, 789]),
  (28, eC (.bipush 6) 6),
  (30, eA (.iload_n 2) [2]),
  (31, eA (.imul) []),
  (32, eA (.iload 4) [4]),
  (34, eA (.iadd) []),
  (35, eA (.iaload) []),
  (36, eA (.isub) []),
  (37, eA (.istore 5) [5]),
  (39, eA (.iload_n 3) [3]),
  (40, eA (.iload 5) [5]),
  (42, eA (.ifCond .ge 9) [51]),
  (45, eA (.iload 5) [5]),
  (47, eA (.ineg) []),
  (48, eA (.goto 5) [53]),
  (51, eA (.iload 5) [5]),
  (53, eA (.iadd) []),
  (54, eA (.istore_n 3) [3]),
  (55, (.iinc 4 1, [4], 1, 0, [])),
  (58, eA (.goto (-53)) [5]),
  (61, eA (.iload_n 3) [3]),
  (62, eA (.ireturn) [])]
def hX7_apart : Hd := (tX7_apart, 7, false, 1)
def tX7_tellsOf : List (Nat × En) := [(0, eC (.iconst 0) 0),
  (1, eA (.istore_n 3) [3]),
  (2, eC (.iconst 0) 0),
  (3, eA (.istore 4) [4]),
  (5, eA (.iload 4) [4]),
  (7, eC (.bipush 6) 6),
  (9, eA (.if_icmp .ge 39) [48]),
  (12, eA (.iload_n 3) [3]),
  (13, eA (.aload_n 0) [0]),
  (14, eA (.getfield 32) [7, 11, 789]),
  (17, eC (.bipush 6) 6),
  (19, eA (.iload_n 1) [1]),
  (20, eA (.imul) []),
  (21, eA (.iload 4) [4]),
  (23, eA (.iadd) []),
  (24, eA (.iaload) []),
  (25, eA (.ifCond .le 14) [39]),
  (28, eA (.aload_n 0) [0]),
  (29, eA (.iload_n 2) [2]),
  (30, eA (.iload 4) [4]),
  (32, eA (.iload_n 1) [1]),
  (33, eA (.invokevirtual 269) [0, 149, 3, 7, 1083]),
  (36, eA (.goto 4) [40]),
  (39, eC (.iconst 0) 0),
  (40, eA (.iadd) []),
  (41, eA (.istore_n 3) [3]),
  (42, (.iinc 4 1, [4], 1, 0, [])),
  (45, eA (.goto (-40)) [5]),
  (48, eA (.iload_n 3) [3]),
  (49, eA (.ireturn) [])]
def hX7_tellsOf : Hd := (tX7_tellsOf, 7, false, 1)
def tX7_areTwo : List (Nat × En) := [(0, eA (.aload_n 0) [0]),
  (1, eA (.iload_n 1) [1]),
  (2, eA (.invokevirtual 94) [0, 115, 1, 7, 944]),
  (5, eA (.ifCond .eq 20) [25]),
  (8, eA (.aload_n 0) [0]),
  (9, eA (.iload_n 2) [2]),
  (10, eA (.invokevirtual 94) [0, 115, 1, 7, 944]),
  (13, eA (.ifCond .eq 12) [25]),
  (16, eA (.iload_n 1) [1]),
  (17, eA (.iload_n 2) [2]),
  (18, eA (.if_icmp .eq 7) [25]),
  (21, eC (.iconst 1) 1),
  (22, eA (.goto 4) [26]),
  (25, eC (.iconst 0) 0),
  (26, eA (.ireturn) [])]
def hX7_areTwo : Hd := (tX7_areTwo, 7, false, 2)
def tX7_like : List (Nat × En) := [(0, eA (.aload_n 0) [0]),
  (1, eA (.iload_n 1) [1]),
  (2, eA (.iload_n 2) [2]),
  (3, eA (.invokevirtual 276) [0, 156, 2, 7, 1103]),
  (6, eA (.ifCond .eq 13) [19]),
  (9, eA (.iload_n 3) [3]),
  (10, eA (.i2l) []),
  (11, eL (.lconst 0) 0),
  (12, eL (.lconst 1) 1),
  (13, eA (.invokestatic 82) [0, 111, 3, 0, 932]),
  (16, eA (.ifCond .ne 6) [22]),
  (19, eC (.bipush (-2)) (-2)),
  (21, eA (.ireturn) []),
  (22, eA (.iload_n 3) [3]),
  (23, eA (.ifCond .ne 12) [35]),
  (26, eA (.aload_n 0) [0]),
  (27, eA (.iload_n 1) [1]),
  (28, eA (.iload_n 2) [2]),
  (29, eA (.invokevirtual 279) [0, 154, 2, 7, 1107]),
  (32, eA (.goto 9) [41]),
  (35, eA (.aload_n 0) [0]),
  (36, eA (.iload_n 1) [1]),
  (37, eA (.iload_n 2) [2]),
  (38, eA (.invokevirtual 282) [0, 155, 2, 7, 1111]),
  (41, eA (.ireturn) [])]
def hX7_like : Hd := (tX7_like, 7, false, 1)
def tX7_odd : List (Nat × En) := [(0, eA (.aload_n 0) [0]),
  (1, eA (.iload_n 1) [1]),
  (2, eA (.invokevirtual 94) [0, 115, 1, 7, 944]),
  (5, eA (.ifCond .eq 15) [20]),
  (8, eA (.iload_n 2) [2]),
  (9, eA (.i2l) []),
  (10, eL (.lconst 0) 0),
  (11, (.ldc2_w 285, [1119], 0, 2, [])),
  (14, eA (.invokestatic 82) [0, 111, 3, 0, 932]),
  (17, eA (.ifCond .ne 6) [23]),
  (20, eC (.bipush (-2)) (-2)),
  (22, eA (.ireturn) []),
  (23, eC (.iconst 0) 0),
  (24, eA (.istore_n 3) [3]),
  (25, eC (.iconst 1) 1),
  (26, eA (.istore 4) [4]),
  (28, eA (.iload 4) [4]),
  (30, eC (.bipush 6) 6),
  (32, eA (.if_icmp .ge 30) [62]),
  (35, eA (.aload_n 0) [0]),
  (36, eA (.iload 4) [4]),
  (38, eA (.invokevirtual 134) [0, 126, 1, 7, 966]),
  (41, eA (.aload_n 0) [0]),
  (42, eA (.iload_n 3) [3]),
  (43, eA (.invokevirtual 134) [0, 126, 1, 7, 966]),
  (46, eA (.if_icmp .ge 8) [54]),
  (49, eA (.iload 4) [4]),
  (51, eA (.goto 4) [55]),
  (54, eA (.iload_n 3) [3]),
  (55, eA (.istore_n 3) [3]),
  (56, (.iinc 4 1, [4], 1, 0, [])),
  (59, eA (.goto (-31)) [28]),
  (62, eC (.iconst (-1)) (-1)),
  (63, eA (.istore 4) [4]),
  (65, eC (.iconst (-1)) (-1)),
  (66, eA (.istore 5) [5]),
  (68, eC (.iconst 0) 0),
  (69, eA (.istore 6) [6]),
  (71, eA (.iload 6) [6]),
  (73, eA (.aload_n 0) [0]),
  (74, eA (.getfield 79) [7, 12, 790]),
  (77, eA (.if_icmp .ge 40) [117]),
  (80, eA (.iload 6) [6]),
  (82, eA (.iload_n 1) [1]),
  (83, eA (.if_icmp .eq 28) [111]),
  (86, eA (.aload_n 0) [0]),
  (87, eA (.iload_n 1) [1]),
  (88, eA (.iload 6) [6]),
  (90, eA (.invokevirtual 279) [0, 154, 2, 7, 1107]),
  (93, eA (.iload 5) [5]),
  (95, eA (.if_icmp .le 16) [111]),
  (98, eA (.iload 6) [6]),
  (100, eA (.istore 4) [4]),
  (102, eA (.aload_n 0) [0]),
  (103, eA (.iload_n 1) [1]),
  (104, eA (.iload 6) [6]),
  (106, eA (.invokevirtual 279) [0, 154, 2, 7, 1107]),
  (109, eA (.istore 5) [5]),
  (111, (.iinc 6 1, [6], 1, 0, [])),
  (114, eA (.goto (-43)) [71]),
  (117, eA (.iload_n 2) [2]),
  (118, eA (.ifCond .ne 8) [126]),
  (121, eA (.iload 4) [4]),
  (123, eA (.goto 14) [137]),
  (126, eA (.iload_n 2) [2]),
  (127, eC (.iconst 1) 1),
  (128, eA (.if_icmp .ne 8) [136]),
  (131, eA (.iload 5) [5]),
  (133, eA (.goto 4) [137]),
  (136, eA (.iload_n 3) [3]),
  (137, eA (.ireturn) [])]
def hX7_odd : Hd := (tX7_odd, 7, false, 1)
def tX7_lowest : List (Nat × En) := [(0, eA (.lload_n 0) [0]),
  (1, eA (.lstore 5) [5]),
  (3, eA (.lload_n 2) [2]),
  (4, eA (.lstore 7) [7]),
  (6, eA (.lload 7) [7]),
  (8, eL (.lconst 0) 0),
  (9, eA (.lcmp) []),
  (10, eA (.ifCond .eq 21) [31]),
  (13, eA (.lload 5) [5]),
  (15, eA (.lload 7) [7]),
  (17, eA (.lrem) []),
  (18, eA (.lstore 9) [9]),
  (20, eA (.lload 7) [7]),
  (22, eA (.lstore 5) [5]),
  (24, eA (.lload 9) [9]),
  (26, eA (.lstore 7) [7]),
  (28, eA (.goto (-22)) [6]),
  (31, eA (.iload 4) [4]),
  (33, eA (.ifCond .ne 10) [43]),
  (36, eA (.lload_n 0) [0]),
  (37, eA (.lload 5) [5]),
  (39, eA (.ldiv) []),
  (40, eA (.goto 7) [47]),
  (43, eA (.lload_n 2) [2]),
  (44, eA (.lload 5) [5]),
  (46, eA (.ldiv) []),
  (47, eA (.lreturn) [])]
def hX7_lowest : Hd := (tX7_lowest, 7, false, 3)
def tX7_mean : List (Nat × En) := [(0, eA (.aload_n 0) [0]),
  (1, eA (.iload_n 1) [1]),
  (2, eA (.invokevirtual 94) [0, 115, 1, 7, 944]),
  (5, eA (.ifCond .eq 28) [33]),
  (8, eA (.iload_n 2) [2]),
  (9, eA (.invokestatic 90) [0, 117, 1, 0, 940]),
  (12, eA (.ifCond .eq 21) [33]),
  (15, eA (.iload_n 3) [3]),
  (16, eA (.i2l) []),
  (17, eL (.lconst 0) 0),
  (18, eL (.lconst 1) 1),
  (19, eA (.invokestatic 82) [0, 111, 3, 0, 932]),
  (22, eA (.ifCond .eq 11) [33]),
  (25, eA (.aload_n 0) [0]),
  (26, eA (.iload_n 1) [1]),
  (27, eA (.invokevirtual 131) [0, 125, 1, 7, 962]),
  (30, eA (.ifCond .ne 7) [37]),
  (33, (.ldc2_w 287, [1124], 0, (-4611686018427387904), [])),
  (36, eA (.lreturn) []),
  (37, eA (.aload_n 0) [0]),
  (38, eA (.getfield 32) [7, 11, 789]),
  (41, eC (.bipush 6) 6),
  (43, eA (.iload_n 1) [1]),
  (44, eA (.imul) []),
  (45, eA (.iload_n 2) [2]),
  (46, eA (.iadd) []),
  (47, eA (.iaload) []),
  (48, eA (.i2l) []),
  (49, eA (.aload_n 0) [0]),
  (50, eA (.iload_n 1) [1]),
  (51, eA (.invokevirtual 131) [0, 125, 1, 7, 962]),
  (54, eA (.i2l) []),
  (55, eA (.iload_n 3) [3]),
  (56, eA (.invokestatic 289) [0, 159, 3, 0, 1125]),
  (59, eA (.lreturn) [])]
def hX7_mean : Hd := (tX7_mean, 7, false, 3)
def tX7_tables : List (Nat × En) := [(0, eC (.iconst 0) 0),
  (1, eA (.istore_n 2) [2]),
  (2, eA (.iload_n 2) [2]),
  (3, eC (.bipush 6) 6),
  (5, eA (.if_icmp .ge 41) [46]),
  (8, eC (.iconst 0) 0),
  (9, eA (.istore_n 3) [3]),
  (10, eA (.iload_n 3) [3]),
  (11, eC (.bipush 6) 6),
  (13, eA (.if_icmp .ge 27) [40]),
  (16, eA (.aload_n 0) [0]),
  (17, eA (.getfield 38) [7, 29, 807]),
  (20, eC (.bipush 6) 6),
  (22, eA (.iload_n 2) [2]),
  (23, eA (.imul) []),
  (24, eA (.iload_n 3) [3]),
  (25, eA (.iadd) []),
  (26, eA (.aload_n 0) [0]),
  (27, eA (.iload_n 1) [1]),
  (28, eA (.iload_n 3) [3]),
  (29, eA (.iload_n 2) [2]),
  (30, eA (.invokevirtual 263) [0, 147, 3, 7, 1068]),
  (33, eA (.iastore) []),
  (34, (.iinc 3 1, [3], 1, 0, [])),
  (37, eA (.goto (-27)) [10]),
  (40, (.iinc 2 1, [2], 1, 0, [])),
  (43, eA (.goto (-41)) [2]),
  (46, eA (.return_) [])]
def hX7_tables : Hd := (tX7_tables, 7, false, 0)
def tX7_daysOn : List (Nat × En) := [(0, eA (.iload_n 0) [0]),
  (1, eC (.iconst 2) 2),
  (2, eC (.iconst 5) 5),
  (3, eA (.iload_n 1) [1]),
  (4, eA (.isub) []),
  (5, eA (.imul) []),
  (6, eA (.ishr) []),
  (7, eC (.iconst 3) 3),
  (8, eA (.iand) []),
  (9, eA (.ireturn) [])]
def hX7_daysOn : Hd := (tX7_daysOn, 7, false, 1)
def tX7_packed : List (Nat × En) := [(0, eC (.iconst 0) 0),
  (1, eA (.istore_n 3) [3]),
  (2, eC (.iconst 0) 0),
  (3, eA (.istore 4) [4]),
  (5, eA (.iload 4) [4]),
  (7, eC (.bipush 6) 6),
  (9, eA (.if_icmp .ge 31) [40]),
  (12, eA (.iload_n 3) [3]),
  (13, eA (.iload_n 1) [1]),
  (14, eA (.iload 4) [4]),
  (16, eA (.invokestatic 293) [0, 162, 2, 0, 1144]),
  (19, eA (.aload_n 0) [0]),
  (20, eA (.getfield 38) [7, 29, 807]),
  (23, eC (.bipush 6) 6),
  (25, eA (.iload 4) [4]),
  (27, eA (.imul) []),
  (28, eA (.iload_n 2) [2]),
  (29, eA (.iadd) []),
  (30, eA (.iaload) []),
  (31, eA (.imul) []),
  (32, eA (.iadd) []),
  (33, eA (.istore_n 3) [3]),
  (34, (.iinc 4 1, [4], 1, 0, [])),
  (37, eA (.goto (-32)) [5]),
  (40, eA (.iload_n 3) [3]),
  (41, eA (.ireturn) [])]
def hX7_packed : Hd := (tX7_packed, 7, false, 1)
def tX7_wayOf : List (Nat × En) := [(0, eA (.iload_n 0) [0]),
  (1, eA (.i2l) []),
  (2, eL (.lconst 0) 0),
  (3, (.ldc2_w 296, [1135], 0, 333333, [])),
  (6, eA (.invokestatic 82) [0, 111, 3, 0, 932]),
  (9, eA (.ifCond .ne 5) [14]),
  (12, eC (.iconst (-1)) (-1)),
  (13, eA (.ireturn) []),
  (14, eC (.iconst 0) 0),
  (15, eA (.istore_n 1) [1]),
  (16, eA (.iload_n 0) [0]),
  (17, eA (.istore_n 2) [2]),
  (18, eC (.iconst 5) 5),
  (19, eA (.istore_n 3) [3]),
  (20, eA (.iload_n 3) [3]),
  (21, eA (.ifCond .lt 37) [58]),
  (24, eA (.iload_n 2) [2]),
  (25, eC (.bipush 10) 10),
  (27, eA (.irem) []),
  (28, eC (.iconst 3) 3),
  (29, eA (.if_icmp .le 5) [34]),
  (32, eC (.iconst (-1)) (-1)),
  (33, eA (.ireturn) []),
  (34, eA (.iload_n 1) [1]),
  (35, eA (.iload_n 2) [2]),
  (36, eC (.bipush 10) 10),
  (38, eA (.irem) []),
  (39, eC (.iconst 2) 2),
  (40, eC (.iconst 5) 5),
  (41, eA (.iload_n 3) [3]),
  (42, eA (.isub) []),
  (43, eA (.imul) []),
  (44, eA (.ishl) []),
  (45, eA (.ior) []),
  (46, eA (.istore_n 1) [1]),
  (47, eA (.iload_n 2) [2]),
  (48, eC (.bipush 10) 10),
  (50, eA (.idiv) []),
  (51, eA (.istore_n 2) [2]),
  (52, (.iinc 3 (-1), [3], (-1), 0, [])),
  (55, eA (.goto (-35)) [20]),
  (58, eA (.iload_n 1) [1]),
  (59, eA (.ireturn) [])]
def hX7_wayOf : Hd := (tX7_wayOf, 7, false, 1)
def tX7_digitsOf : List (Nat × En) := [(0, eC (.iconst 0) 0),
  (1, eA (.istore_n 1) [1]),
  (2, eC (.iconst 0) 0),
  (3, eA (.istore_n 2) [2]),
  (4, eA (.iload_n 2) [2]),
  (5, eC (.bipush 6) 6),
  (7, eA (.if_icmp .ge 20) [27]),
  (10, eC (.bipush 10) 10),
  (12, eA (.iload_n 1) [1]),
  (13, eA (.imul) []),
  (14, eA (.iload_n 0) [0]),
  (15, eA (.iload_n 2) [2]),
  (16, eA (.invokestatic 293) [0, 162, 2, 0, 1144]),
  (19, eA (.iadd) []),
  (20, eA (.istore_n 1) [1]),
  (21, (.iinc 2 1, [2], 1, 0, [])),
  (24, eA (.goto (-20)) [4]),
  (27, eA (.iload_n 1) [1]),
  (28, eA (.ireturn) [])]
def hX7_digitsOf : Hd := (tX7_digitsOf, 7, false, 1)
def tX7_stays : List (Nat × En) := [(0, eA (.iload_n 2) [2]),
  (1, eA (.invokestatic 298) [0, 164, 1, 0, 1132]),
  (4, eA (.istore 4) [4]),
  (6, eA (.aload_n 0) [0]),
  (7, eA (.iload_n 1) [1]),
  (8, eA (.invokevirtual 94) [0, 115, 1, 7, 944]),
  (11, eA (.ifCond .eq 16) [27]),
  (14, eA (.iload 4) [4]),
  (16, eC (.iconst (-1)) (-1)),
  (17, eA (.if_icmp .eq 10) [27]),
  (20, eA (.iload_n 3) [3]),
  (21, eA (.invokestatic 90) [0, 117, 1, 0, 940]),
  (24, eA (.ifCond .ne 6) [30]),
  (27, eC (.bipush (-2)) (-2)),
  (29, eA (.ireturn) []),
  (30, eA (.aload_n 0) [0]),
  (31, eA (.iload_n 1) [1]),
  (32, eA (.invokevirtual 301) [0, 161, 1, 7, 1136]),
  (35, eA (.aload_n 0) [0]),
  (36, eA (.iload 4) [4]),
  (38, eA (.iload_n 3) [3]),
  (39, eA (.invokevirtual 305) [0, 163, 2, 7, 1140]),
  (42, eA (.ireturn) [])]
def hX7_stays : Hd := (tX7_stays, 7, false, 1)
def tX7_pack : List (Nat × En) := [(0, eA (.iload_n 3) [3]),
  (1, eA (.invokestatic 298) [0, 164, 1, 0, 1132]),
  (4, eA (.istore 4) [4]),
  (6, eA (.iload_n 1) [1]),
  (7, eA (.invokestatic 308) [0, 186, 1, 0, 1151]),
  (10, eA (.ifCond .eq 17) [27]),
  (13, eA (.aload_n 0) [0]),
  (14, eA (.iload_n 2) [2]),
  (15, eA (.invokevirtual 94) [0, 115, 1, 7, 944]),
  (18, eA (.ifCond .eq 9) [27]),
  (21, eA (.iload 4) [4]),
  (23, eC (.iconst (-1)) (-1)),
  (24, eA (.if_icmp .ne 6) [30]),
  (27, eC (.bipush (-2)) (-2)),
  (29, eA (.ireturn) []),
  (30, eA (.aload_n 0) [0]),
  (31, eA (.iload_n 2) [2]),
  (32, eA (.invokevirtual 301) [0, 161, 1, 7, 1136]),
  (35, eA (.aload_n 0) [0]),
  (36, eA (.iload_n 1) [1]),
  (37, eC (.iconst 2) 2),
  (38, eC (.bipush 6) 6),
  (40, eA (.invokevirtual 311) [0, 187, 3, 7, 1154]),
  (43, eA (.pop) []),
  (44, eC (.iconst 0) 0),
  (45, eA (.istore 5) [5]),
  (47, eC (.iconst 0) 0),
  (48, eA (.istore 6) [6]),
  (50, eA (.iload 6) [6]),
  (52, eC (.bipush 6) 6),
  (54, eA (.if_icmp .ge 42) [96]),
  (57, eA (.aload_n 0) [0]),
  (58, eA (.getfield 69) [7, 48, 826]),
  (61, eC (.bipush 40) 40),
  (63, eA (.iload_n 1) [1]),
  (64, eA (.imul) []),
  (65, eA (.iload 6) [6]),
  (67, eA (.iadd) []),
  (68, eA (.aload_n 0) [0]),
  (69, eA (.iload 4) [4]),
  (71, eA (.iload 6) [6]),
  (73, eA (.invokevirtual 305) [0, 163, 2, 7, 1140]),
  (76, eA (.iastore) []),
  (77, eA (.iload 5) [5]),
  (79, eA (.aload_n 0) [0]),
  (80, eA (.iload 4) [4]),
  (82, eA (.iload 6) [6]),
  (84, eA (.invokevirtual 305) [0, 163, 2, 7, 1140]),
  (87, eA (.iadd) []),
  (88, eA (.istore 5) [5]),
  (90, (.iinc 6 1, [6], 1, 0, [])),
  (93, eA (.goto (-43)) [50]),
  (96, eA (.iload 5) [5]),
  (98, eA (.ireturn) [])]
def hX7_pack : Hd := (tX7_pack, 7, false, 1)
def tX7_fits : List (Nat × En) := [(0, eC (.iconst 0) 0),
  (1, eA (.istore_n 3) [3]),
  (2, eA (.iload_n 3) [3]),
  (3, eC (.bipush 6) 6),
  (5, eA (.if_icmp .ge 31) [36]),
  (8, eA (.aload_n 0) [0]),
  (9, eA (.iload_n 2) [2]),
  (10, eA (.iload_n 3) [3]),
  (11, eA (.invokevirtual 305) [0, 163, 2, 7, 1140]),
  (14, eA (.aload_n 0) [0]),
  (15, eA (.getfield 69) [7, 48, 826]),
  (18, eC (.bipush 40) 40),
  (20, eA (.iload_n 1) [1]),
  (21, eA (.imul) []),
  (22, eA (.iload_n 3) [3]),
  (23, eA (.iadd) []),
  (24, eA (.iaload) []),
  (25, eA (.if_icmp .eq 5) [30]),
  (28, eC (.iconst 0) 0),
  (29, eA (.ireturn) []),
  (30, (.iinc 3 1, [3], 1, 0, [])),
  (33, eA (.goto (-31)) [2]),
  (36, eC (.iconst 1) 1),
  (37, eA (.ireturn) [])]
def hX7_fits : Hd := (tX7_fits, 7, false, 2)
def tX7_lengthOf : List (Nat × En) := [(0, eC (.iconst 0) 0),
  (1, eA (.istore_n 1) [1]),
  (2, eC (.iconst 0) 0),
  (3, eA (.istore_n 2) [2]),
  (4, eA (.iload_n 2) [2]),
  (5, eC (.bipush 6) 6),
  (7, eA (.if_icmp .ge 17) [24]),
  (10, eA (.iload_n 1) [1]),
  (11, eA (.iload_n 0) [0]),
  (12, eA (.iload_n 2) [2]),
  (13, eA (.invokestatic 293) [0, 162, 2, 0, 1144]),
  (16, eA (.iadd) []),
  (17, eA (.istore_n 1) [1]),
  (18, (.iinc 2 1, [2], 1, 0, [])),
  (21, eA (.goto (-17)) [4]),
  (24, eA (.iload_n 1) [1]),
  (25, eA (.ireturn) [])]
def hX7_lengthOf : Hd := (tX7_lengthOf, 7, false, 1)
def tX7_coastsOf : List (Nat × En) := [(0, eC (.iconst 0) 0),
  (1, eA (.istore_n 1) [1]),
  (2, eC (.iconst 0) 0),
  (3, eA (.istore_n 2) [2]),
  (4, eA (.iload_n 2) [2]),
  (5, eC (.bipush 6) 6),
  (7, eA (.if_icmp .ge 27) [34]),
  (10, eA (.iload_n 1) [1]),
  (11, eA (.iload_n 0) [0]),
  (12, eA (.iload_n 2) [2]),
  (13, eA (.invokestatic 293) [0, 162, 2, 0, 1144]),
  (16, eA (.ifCond .le 7) [23]),
  (19, eC (.iconst 1) 1),
  (20, eA (.goto 4) [24]),
  (23, eC (.iconst 0) 0),
  (24, eA (.iload_n 2) [2]),
  (25, eA (.ishl) []),
  (26, eA (.ior) []),
  (27, eA (.istore_n 1) [1]),
  (28, (.iinc 2 1, [2], 1, 0, [])),
  (31, eA (.goto (-27)) [4]),
  (34, eA (.iload_n 1) [1]),
  (35, eA (.ireturn) [])]
def hX7_coastsOf : Hd := (tX7_coastsOf, 7, false, 1)
def tX7_looks : List (Nat × En) := [(0, eA (.aload_n 0) [0]),
  (1, eA (.iload_n 2) [2]),
  (2, eA (.invokevirtual 301) [0, 161, 1, 7, 1136]),
  (5, eA (.aload_n 0) [0]),
  (6, eC (.iconst 0) 0),
  (7, eA (.putfield 314) [7, 30, 808]),
  (10, eA (.aload_n 0) [0]),
  (11, eC (.iconst (-1)) (-1)),
  (12, eA (.putfield 317) [7, 31, 809]),
  (15, eA (.aload_n 0) [0]),
  (16, eC (.iconst (-1)) (-1)),
  (17, eA (.putfield 320) [7, 32, 810]),
  (20, eA (.aload_n 0) [0]),
  (21, eC (.bipush 63) 63),
  (23, eA (.putfield 323) [7, 33, 811]),
  (26, eA (.aload_n 0) [0]),
  (27, eC (.iconst 0) 0),
  (28, eA (.putfield 326) [7, 34, 812]),
  (31, eC (.iconst 0) 0),
  (32, eA (.istore_n 3) [3]),
  (33, eA (.iload_n 3) [3]),
  (34, eC (.bipush 6) 6),
  (36, eA (.if_icmp .ge 16) [52]),
  (39, eA (.aload_n 0) [0]),
  (40, eA (.getfield 41) [7, 35, 813]),
  (43, eA (.iload_n 3) [3]),
  (44, eC (.iconst 0) 0),
  (45, eA (.iastore) []),
  (46, (.iinc 3 1, [3], 1, 0, [])),
  (49, eA (.goto (-16)) [33]),
  (52, eC (.iconst 0) 0),
  (53, eA (.istore_n 3) [3]),
  (54, eA (.iload_n 3) [3]),
  (55, eC (.sipush 4096) 4096),
  (58, eA (.if_icmp .ge 124) [182]),
  (61, eA (.aload_n 0) [0]),
  (62, eA (.iload_n 1) [1]),
  (63, eA (.iload_n 3) [3]),
  (64, eA (.invokevirtual 329) [0, 168, 2, 7, 1168]),
  (67, eA (.ifCond .eq 109) [176]),
  (70, eA (.iload_n 3) [3]),
  (71, eA (.invokestatic 332) [0, 170, 1, 0, 1172]),
  (74, eA (.istore 4) [4]),
  (76, eA (.aload_n 0) [0]),
  (77, eA (.dup) []),
  (78, eA (.getfield 314) [7, 30, 808]),
  (81, eC (.iconst 1) 1),
  (82, eA (.iadd) []),
  (83, eA (.putfield 314) [7, 30, 808]),
  (86, eA (.aload_n 0) [0]),
  (87, eA (.dup) []),
  (88, eA (.getfield 323) [7, 33, 811]),
  (91, eA (.iload 4) [4]),
  (93, eA (.iand) []),
  (94, eA (.putfield 323) [7, 33, 811]),
  (97, eA (.aload_n 0) [0]),
  (98, eA (.dup) []),
  (99, eA (.getfield 326) [7, 34, 812]),
  (102, eA (.iload 4) [4]),
  (104, eA (.ior) []),
  (105, eA (.putfield 326) [7, 34, 812]),
  (108, eC (.iconst 0) 0),
  (109, eA (.istore 5) [5]),
  (111, eA (.iload 5) [5]),
  (113, eC (.bipush 6) 6),
  (115, eA (.if_icmp .ge 26) [141]),
  (118, eA (.aload_n 0) [0]),
  (119, eA (.getfield 41) [7, 35, 813]),
  (122, eA (.iload 5) [5]),
  (124, eA (.dup2) []),
  (125, eA (.iaload) []),
  (126, eA (.iload 4) [4]),
  (128, eA (.iload 5) [5]),
  (130, eA (.ishr) []),
  (131, eC (.iconst 1) 1),
  (132, eA (.iand) []),
  (133, eA (.iadd) []),
  (134, eA (.iastore) []),
  (135, (.iinc 5 1, [5], 1, 0, [])),
  (138, eA (.goto (-27)) [111]),
  (141, eA (.aload_n 0) [0]),
  (142, eA (.getfield 320) [7, 32, 810]),
  (145, eC (.iconst (-1)) (-1)),
  (146, eA (.if_icmp .eq 14) [160]),
  (149, eA (.iload_n 3) [3]),
  (150, eA (.invokestatic 335) [0, 169, 1, 0, 1175]),
  (153, eA (.aload_n 0) [0]),
  (154, eA (.getfield 320) [7, 32, 810]),
  (157, eA (.if_icmp .ge 19) [176]),
  (160, eA (.aload_n 0) [0]),
  (161, eA (.iload_n 3) [3]),
  (162, eA (.invokestatic 335) [0, 169, 1, 0, 1175]),
  (165, eA (.putfield 320) [7, 32, 810]),
  (168, eA (.aload_n 0) [0]),
  (169, eA (.iload_n 3) [3]),
  (170, eA (.invokestatic 338) [0, 165, 1, 0, 1178]),
  (173, eA (.putfield 317) [7, 31, 809]),
  (176, (.iinc 3 1, [3], 1, 0, [])),
  (179, eA (.goto (-125)) [54]),
  (182, eA (.aload_n 0) [0]),
  (183, eA (.aload_n 0) [0]),
  (184, eA (.getfield 314) [7, 30, 808]),
  (187, eA (.ifCond .ne 7) [194]),
  (190, eC (.iconst 0) 0),
  (191, eA (.goto 7) [198]),
  (194, eA (.aload_n 0) [0]),
  (195, eA (.getfield 323) [7, 33, 811]),
  (198, eA (.putfield 323) [7, 33, 811]),
  (201, eA (.return_) [])]
def hX7_looks : Hd := (tX7_looks, 7, false, 0)
def tX7_fit : List (Nat × En) := [(0, eA (.iload_n 1) [1]),
  (1, eA (.invokestatic 308) [0, 186, 1, 0, 1151]),
  (4, eA (.ifCond .eq 23) [27]),
  (7, eA (.aload_n 0) [0]),
  (8, eA (.iload_n 2) [2]),
  (9, eA (.invokevirtual 94) [0, 115, 1, 7, 944]),
  (12, eA (.ifCond .eq 15) [27]),
  (15, eA (.iload_n 3) [3]),
  (16, eA (.i2l) []),
  (17, eL (.lconst 0) 0),
  (18, (.ldc2_w 341, [1163], 0, 4, [])),
  (21, eA (.invokestatic 82) [0, 111, 3, 0, 932]),
  (24, eA (.ifCond .ne 6) [30]),
  (27, eC (.bipush (-2)) (-2)),
  (29, eA (.ireturn) []),
  (30, eA (.aload_n 0) [0]),
  (31, eA (.getfield 59) [7, 45, 823]),
  (34, eA (.iload_n 1) [1]),
  (35, eA (.baload) []),
  (36, eA (.ifCond .ne 6) [42]),
  (39, eC (.bipush (-11)) (-11)),
  (41, eA (.ireturn) []),
  (42, eA (.aload_n 0) [0]),
  (43, eA (.getfield 66) [7, 47, 825]),
  (46, eA (.iload_n 1) [1]),
  (47, eA (.iaload) []),
  (48, eC (.bipush 6) 6),
  (50, eA (.if_icmp .eq 6) [56]),
  (53, eC (.bipush (-2)) (-2)),
  (55, eA (.ireturn) []),
  (56, eA (.aload_n 0) [0]),
  (57, eA (.iload_n 1) [1]),
  (58, eA (.iload_n 2) [2]),
  (59, eA (.invokevirtual 343) [0, 171, 2, 7, 1164]),
  (62, eA (.iload_n 3) [3]),
  (63, eA (.ifCond .ne 10) [73]),
  (66, eA (.aload_n 0) [0]),
  (67, eA (.getfield 314) [7, 30, 808]),
  (70, eA (.goto 43) [113]),
  (73, eA (.iload_n 3) [3]),
  (74, eC (.iconst 1) 1),
  (75, eA (.if_icmp .ne 10) [85]),
  (78, eA (.aload_n 0) [0]),
  (79, eA (.getfield 317) [7, 31, 809]),
  (82, eA (.goto 31) [113]),
  (85, eA (.iload_n 3) [3]),
  (86, eC (.iconst 2) 2),
  (87, eA (.if_icmp .ne 10) [97]),
  (90, eA (.aload_n 0) [0]),
  (91, eA (.getfield 320) [7, 32, 810]),
  (94, eA (.goto 19) [113]),
  (97, eA (.iload_n 3) [3]),
  (98, eC (.iconst 3) 3),
  (99, eA (.if_icmp .ne 10) [109]),
  (102, eA (.aload_n 0) [0]),
  (103, eA (.getfield 323) [7, 33, 811]),
  (106, eA (.goto 7) [113]),
  (109, eA (.aload_n 0) [0]),
  (110, eA (.getfield 326) [7, 34, 812]),
  (113, eA (.ireturn) [])]
def hX7_fit : Hd := (tX7_fit, 7, false, 1)
def tX7_share : List (Nat × En) := [(0, eA (.iload_n 1) [1]),
  (1, eA (.invokestatic 308) [0, 186, 1, 0, 1151]),
  (4, eA (.ifCond .eq 49) [53]),
  (7, eA (.aload_n 0) [0]),
  (8, eA (.iload_n 2) [2]),
  (9, eA (.invokevirtual 94) [0, 115, 1, 7, 944]),
  (12, eA (.ifCond .eq 41) [53]),
  (15, eA (.aload_n 0) [0]),
  (16, eA (.getfield 59) [7, 45, 823]),
  (19, eA (.iload_n 1) [1]),
  (20, eA (.baload) []),
  (21, eA (.ifCond .eq 32) [53]),
  (24, eA (.aload_n 0) [0]),
  (25, eA (.getfield 66) [7, 47, 825]),
  (28, eA (.iload_n 1) [1]),
  (29, eA (.iaload) []),
  (30, eC (.bipush 6) 6),
  (32, eA (.if_icmp .ne 21) [53]),
  (35, eA (.iload_n 3) [3]),
  (36, eA (.invokestatic 97) [0, 116, 1, 0, 948]),
  (39, eA (.ifCond .eq 14) [53]),
  (42, eA (.iload 4) [4]),
  (44, eA (.i2l) []),
  (45, eL (.lconst 0) 0),
  (46, eL (.lconst 1) 1),
  (47, eA (.invokestatic 82) [0, 111, 3, 0, 932]),
  (50, eA (.ifCond .ne 7) [57]),
  (53, (.ldc2_w 287, [1124], 0, (-4611686018427387904), [])),
  (56, eA (.lreturn) []),
  (57, eA (.aload_n 0) [0]),
  (58, eA (.iload_n 1) [1]),
  (59, eA (.iload_n 2) [2]),
  (60, eA (.invokevirtual 343) [0, 171, 2, 7, 1164]),
  (63, eA (.aload_n 0) [0]),
  (64, eA (.getfield 314) [7, 30, 808]),
  (67, eA (.ifCond .ne 9) [76]),
  (70, (.ldc2_w 287, [1124], 0, (-4611686018427387904), [])),
  (73, eA (.goto 20) [93]),
  (76, eA (.aload_n 0) [0]),
  (77, eA (.getfield 41) [7, 35, 813]),
  (80, eA (.iload_n 3) [3]),
  (81, eA (.iaload) []),
  (82, eA (.i2l) []),
  (83, eA (.aload_n 0) [0]),
  (84, eA (.getfield 314) [7, 30, 808]),
  (87, eA (.i2l) []),
  (88, eA (.iload 4) [4]),
  (90, eA (.invokestatic 289) [0, 159, 3, 0, 1125]),
  (93, eA (.lreturn) [])]
def hX7_share : Hd := (tX7_share, 7, false, 3)
def tX7_goes : List (Nat × En) := [(0, eA (.iload_n 3) [3]),
  (1, eA (.ifCond .ne 41) [42]),
  (4, eA (.aload_n 0) [0]),
  (5, eA (.iload_n 1) [1]),
  (6, eA (.iload_n 2) [2]),
  (7, eA (.invokevirtual 279) [0, 154, 2, 7, 1107]),
  (10, eA (.istore 6) [6]),
  (12, eA (.aload_n 0) [0]),
  (13, eA (.getfield 346) [7, 36, 814]),
  (16, eC (.iconst (-1)) (-1)),
  (17, eA (.if_icmp .eq 12) [29]),
  (20, eA (.iload 6) [6]),
  (22, eA (.aload_n 0) [0]),
  (23, eA (.getfield 349) [7, 37, 815]),
  (26, eA (.if_icmp .ge 15) [41]),
  (29, eA (.aload_n 0) [0]),
  (30, eA (.iload 5) [5]),
  (32, eA (.putfield 346) [7, 36, 814]),
  (35, eA (.aload_n 0) [0]),
  (36, eA (.iload 6) [6]),
  (38, eA (.putfield 349) [7, 37, 815]),
  (41, eA (.return_) []),
  (42, eA (.iload 4) [4]),
  (44, eA (.istore 6) [6]),
  (46, eA (.iload 6) [6]),
  (48, eC (.bipush 6) 6),
  (50, eA (.if_icmp .ge 140) [190]),
  (53, eC (.bipush 6) 6),
  (55, eA (.newarray .int) [1]),
  (57, eA (.astore 7) [7]),
  (59, eC (.iconst 0) 0),
  (60, eA (.istore 8) [8]),
  (62, eA (.iload 8) [8]),
  (64, eC (.bipush 6) 6),
  (66, eA (.if_icmp .ge 64) [130]),
  (69, eA (.aload 7) [7]),
  (71, eA (.iload 8) [8]),
  (73, eA (.aload_n 0) [0]),
  (74, eA (.getfield 32) [7, 11, 789]),
  (77, eC (.bipush 6) 6),
  (79, eA (.iload_n 1) [1]),
  (80, eA (.imul) []),
  (81, eA (.iload 8) [8]),
  (83, eA (.iadd) []),
  (84, eA (.iaload) []),
  (85, eA (.iastore) []),
  (86, eA (.aload_n 0) [0]),
  (87, eA (.getfield 32) [7, 11, 789]),
  (90, eC (.bipush 6) 6),
  (92, eA (.iload_n 1) [1]),
  (93, eA (.imul) []),
  (94, eA (.iload 8) [8]),
  (96, eA (.iadd) []),
  (97, eA (.aload 7) [7]),
  (99, eA (.iload 8) [8]),
  (101, eA (.iaload) []),
  (102, eA (.aload_n 0) [0]),
  (103, eA (.getfield 38) [7, 29, 807]),
  (106, eC (.bipush 6) 6),
  (108, eA (.iload 6) [6]),
  (110, eA (.imul) []),
  (111, eA (.iload 8) [8]),
  (113, eA (.iadd) []),
  (114, eA (.iaload) []),
  (115, eA (.iadd) []),
  (116, eC (.iconst 0) 0),
  (117, eC (.sipush 9999) 9999),
  (120, eA (.invokestatic 255) [0, 112, 3, 0, 1076]),
  (123, eA (.iastore) []),
  (124, (.iinc 8 1, [8], 1, 0, [])),
  (127, eA (.goto (-65)) [62]),
  (130, eA (.aload_n 0) [0]),
  (131, eA (.iload_n 1) [1]),
  (132, eA (.iload_n 2) [2]),
  (133, eA (.iload_n 3) [3]),
  (134, eC (.iconst 1) 1),
  (135, eA (.isub) []),
  (136, eA (.iload 6) [6]),
  (138, eC (.bipush 10) 10),
  (140, eA (.iload 5) [5]),
  (142, eA (.imul) []),
  (143, eA (.iload 6) [6]),
  (145, eA (.iadd) []),
  (146, eC (.iconst 1) 1),
  (147, eA (.iadd) []),
  (148, eA (.invokevirtual 352) [0, 174, 5, 7, 1189]),
  (151, eC (.iconst 0) 0),
  (152, eA (.istore 8) [8]),
  (154, eA (.iload 8) [8]),
  (156, eC (.bipush 6) 6),
  (158, eA (.if_icmp .ge 26) [184]),
  (161, eA (.aload_n 0) [0]),
  (162, eA (.getfield 32) [7, 11, 789]),
  (165, eC (.bipush 6) 6),
  (167, eA (.iload_n 1) [1]),
  (168, eA (.imul) []),
  (169, eA (.iload 8) [8]),
  (171, eA (.iadd) []),
  (172, eA (.aload 7) [7]),
  (174, eA (.iload 8) [8]),
  (176, eA (.iaload) []),
  (177, eA (.iastore) []),
  (178, (.iinc 8 1, [8], 1, 0, [])),
  (181, eA (.goto (-27)) [154]),
  (184, (.iinc 6 1, [6], 1, 0, [])),
  (187, eA (.goto (-141)) [46]),
  (190, eA (.return_) [])]
def hX7_goes : Hd := (tX7_goes, 7, false, 0)
def tX7_go : List (Nat × En) := [(0, eA (.aload_n 0) [0]),
  (1, eA (.iload_n 1) [1]),
  (2, eA (.iload_n 2) [2]),
  (3, eA (.invokevirtual 276) [0, 156, 2, 7, 1103]),
  (6, eA (.ifCond .eq 26) [32]),
  (9, eA (.iload_n 3) [3]),
  (10, eA (.i2l) []),
  (11, eL (.lconst 0) 0),
  (12, (.ldc2_w 100, [931], 0, 3, [])),
  (15, eA (.invokestatic 82) [0, 111, 3, 0, 932]),
  (18, eA (.ifCond .eq 14) [32]),
  (21, eA (.iload 4) [4]),
  (23, eA (.i2l) []),
  (24, eL (.lconst 0) 0),
  (25, eL (.lconst 1) 1),
  (26, eA (.invokestatic 82) [0, 111, 3, 0, 932]),
  (29, eA (.ifCond .ne 6) [35]),
  (32, eC (.bipush (-2)) (-2)),
  (34, eA (.ireturn) []),
  (35, eA (.aload_n 0) [0]),
  (36, eA (.iload_n 1) [1]),
  (37, eA (.invokevirtual 301) [0, 161, 1, 7, 1136]),
  (40, eA (.aload_n 0) [0]),
  (41, eC (.iconst (-1)) (-1)),
  (42, eA (.putfield 346) [7, 36, 814]),
  (45, eA (.aload_n 0) [0]),
  (46, eC (.iconst 0) 0),
  (47, eA (.putfield 349) [7, 37, 815]),
  (50, eA (.aload_n 0) [0]),
  (51, eA (.iload_n 1) [1]),
  (52, eA (.iload_n 2) [2]),
  (53, eA (.iload_n 3) [3]),
  (54, eC (.iconst 0) 0),
  (55, eC (.iconst 0) 0),
  (56, eA (.invokevirtual 352) [0, 174, 5, 7, 1189]),
  (59, eA (.iload 4) [4]),
  (61, eA (.ifCond .ne 10) [71]),
  (64, eA (.aload_n 0) [0]),
  (65, eA (.getfield 346) [7, 36, 814]),
  (68, eA (.goto 7) [75]),
  (71, eA (.aload_n 0) [0]),
  (72, eA (.getfield 349) [7, 37, 815]),
  (75, eA (.ireturn) [])]
def hX7_go : Hd := (tX7_go, 7, false, 1)
def tX7_firstOther : List (Nat × En) := [(0, eC (.iconst 0) 0),
  (1, eA (.istore 4) [4]),
  (3, eA (.iload 4) [4]),
  (5, eA (.aload_n 0) [0]),
  (6, eA (.getfield 66) [7, 47, 825]),
  (9, eA (.iload_n 1) [1]),
  (10, eA (.iaload) []),
  (11, eA (.if_icmp .ge 35) [46]),
  (14, eA (.aload_n 0) [0]),
  (15, eA (.iload_n 2) [2]),
  (16, eA (.iload 4) [4]),
  (18, eA (.iload_n 3) [3]),
  (19, eA (.invokevirtual 263) [0, 147, 3, 7, 1068]),
  (22, eA (.aload_n 0) [0]),
  (23, eA (.getfield 69) [7, 48, 826]),
  (26, eC (.bipush 40) 40),
  (28, eA (.iload_n 1) [1]),
  (29, eA (.imul) []),
  (30, eA (.iload 4) [4]),
  (32, eA (.iadd) []),
  (33, eA (.iaload) []),
  (34, eA (.if_icmp .eq 6) [40]),
  (37, eA (.iload 4) [4]),
  (39, eA (.ireturn) []),
  (40, (.iinc 4 1, [4], 1, 0, [])),
  (43, eA (.goto (-40)) [3]),
  (46, eC (.iconst (-1)) (-1)),
  (47, eA (.ireturn) [])]
def hX7_firstOther : Hd := (tX7_firstOther, 7, false, 1)
def tX7_coastSet : List (Nat × En) := [(0, eC (.iconst 0) 0),
  (1, eA (.istore_n 3) [3]),
  (2, eC (.iconst 0) 0),
  (3, eA (.istore 4) [4]),
  (5, eA (.iload 4) [4]),
  (7, eC (.bipush 6) 6),
  (9, eA (.if_icmp .ge 32) [41]),
  (12, eA (.iload_n 3) [3]),
  (13, eA (.aload_n 0) [0]),
  (14, eA (.iload_n 1) [1]),
  (15, eA (.iload_n 2) [2]),
  (16, eA (.iload 4) [4]),
  (18, eA (.invokevirtual 356) [0, 176, 3, 7, 1198]),
  (21, eC (.iconst (-1)) (-1)),
  (22, eA (.if_icmp .ne 7) [29]),
  (25, eC (.iconst 1) 1),
  (26, eA (.goto 4) [30]),
  (29, eC (.iconst 0) 0),
  (30, eA (.iload 4) [4]),
  (32, eA (.ishl) []),
  (33, eA (.ior) []),
  (34, eA (.istore_n 3) [3]),
  (35, (.iinc 4 1, [4], 1, 0, [])),
  (38, eA (.goto (-33)) [5]),
  (41, eA (.iload_n 3) [3]),
  (42, eA (.ireturn) [])]
def hX7_coastSet : Hd := (tX7_coastSet, 7, false, 1)
def tX7_tells : List (Nat × En) := [(0, eA (.iload_n 1) [1]),
  (1, eA (.invokestatic 308) [0, 186, 1, 0, 1151]),
  (4, eA (.ifCond .eq 31) [35]),
  (7, eA (.aload_n 0) [0]),
  (8, eA (.iload_n 2) [2]),
  (9, eA (.invokevirtual 94) [0, 115, 1, 7, 944]),
  (12, eA (.ifCond .eq 23) [35]),
  (15, eA (.iload_n 3) [3]),
  (16, eA (.invokestatic 97) [0, 116, 1, 0, 948]),
  (19, eA (.ifCond .eq 16) [35]),
  (22, eA (.iload 4) [4]),
  (24, eA (.i2l) []),
  (25, eL (.lconst 0) 0),
  (26, (.ldc2_w 359, [1197], 0, 6, [])),
  (29, eA (.invokestatic 82) [0, 111, 3, 0, 932]),
  (32, eA (.ifCond .ne 6) [38]),
  (35, eC (.bipush (-2)) (-2)),
  (37, eA (.ireturn) []),
  (38, eA (.aload_n 0) [0]),
  (39, eA (.getfield 59) [7, 45, 823]),
  (42, eA (.iload_n 1) [1]),
  (43, eA (.baload) []),
  (44, eA (.ifCond .ne 6) [50]),
  (47, eC (.bipush (-11)) (-11)),
  (49, eA (.ireturn) []),
  (50, eA (.aload_n 0) [0]),
  (51, eA (.getfield 66) [7, 47, 825]),
  (54, eA (.iload_n 1) [1]),
  (55, eA (.iaload) []),
  (56, eC (.bipush 6) 6),
  (58, eA (.if_icmp .le 6) [64]),
  (61, eC (.bipush (-2)) (-2)),
  (63, eA (.ireturn) []),
  (64, eA (.iload 4) [4]),
  (66, eA (.ifCond .eq 9) [75]),
  (69, eA (.iload 4) [4]),
  (71, eC (.iconst 5) 5),
  (72, eA (.if_icmp .ne 25) [97]),
  (75, eA (.iload 4) [4]),
  (77, eA (.ifCond .ne 13) [90]),
  (80, eA (.aload_n 0) [0]),
  (81, eA (.iload_n 1) [1]),
  (82, eA (.iload_n 2) [2]),
  (83, eA (.iload_n 3) [3]),
  (84, eA (.invokevirtual 356) [0, 176, 3, 7, 1198]),
  (87, eA (.goto 9) [96]),
  (90, eA (.aload_n 0) [0]),
  (91, eA (.iload_n 1) [1]),
  (92, eA (.iload_n 2) [2]),
  (93, eA (.invokevirtual 361) [0, 177, 2, 7, 1202]),
  (96, eA (.ireturn) []),
  (97, eA (.iload 4) [4]),
  (99, eC (.iconst 1) 1),
  (100, eA (.if_icmp .ne 7) [107]),
  (103, eC (.iconst 4) 4),
  (104, eA (.goto 25) [129]),
  (107, eA (.iload 4) [4]),
  (109, eC (.iconst 2) 2),
  (110, eA (.if_icmp .ne 7) [117]),
  (113, eC (.iconst 2) 2),
  (114, eA (.goto 15) [129]),
  (117, eA (.iload 4) [4]),
  (119, eC (.bipush 6) 6),
  (121, eA (.if_icmp .ne 7) [128]),
  (124, eC (.iconst 5) 5),
  (125, eA (.goto 4) [129]),
  (128, eC (.iconst 0) 0),
  (129, eA (.istore 5) [5]),
  (131, eA (.iload 5) [5]),
  (133, eC (.iconst 5) 5),
  (134, eA (.if_icmp .ne 10) [144]),
  (137, eA (.aload_n 0) [0]),
  (138, eA (.getfield 124) [7, 4, 782]),
  (141, eA (.goto 10) [151]),
  (144, eA (.aload_n 0) [0]),
  (145, eA (.iload_n 2) [2]),
  (146, eA (.iload 5) [5]),
  (148, eA (.invokevirtual 110) [0, 124, 2, 7, 954]),
  (151, eA (.istore 6) [6]),
  (153, eA (.iload 5) [5]),
  (155, eC (.iconst 5) 5),
  (156, eA (.if_icmp .ne 12) [168]),
  (159, eA (.aload_n 0) [0]),
  (160, eA (.getfield 76) [7, 3, 781]),
  (163, eC (.iconst 1) 1),
  (164, eA (.isub) []),
  (165, eA (.goto 26) [191]),
  (168, eA (.iload 5) [5]),
  (170, eC (.iconst 4) 4),
  (171, eA (.if_icmp .ne 7) [178]),
  (174, eC (.iconst 5) 5),
  (175, eA (.goto 16) [191]),
  (178, eA (.iload 5) [5]),
  (180, eC (.iconst 2) 2),
  (181, eA (.if_icmp .ne 8) [189]),
  (184, eC (.bipush 9) 9),
  (186, eA (.goto 5) [191]),
  (189, eC (.bipush 99) 99),
  (191, eA (.istore 7) [7]),
  (193, eC (.iconst 0) 0),
  (194, eA (.istore 8) [8]),
  (196, eC (.iconst 0) 0),
  (197, eA (.istore 9) [9]),
  (199, eC (.iconst (-1)) (-1)),
  (200, eA (.istore 10) [10]),
  (202, eA (.iload 7) [7]),
  (204, eA (.istore 11) [11]),
  (206, eA (.iload 11) [11]),
  (208, eA (.ifCond .lt 56) [264]),
  (211, eA (.aload_n 0) [0]),
  (212, eA (.iload 5) [5]),
  (214, eA (.iload_n 2) [2]),
  (215, eA (.iload 11) [11]),
  (217, eA (.invokevirtual 114) [0, 122, 3, 7, 970]),
  (220, eA (.aload_n 0) [0]),
  (221, eA (.iload_n 1) [1]),
  (222, eA (.iload_n 2) [2]),
  (223, eA (.iload_n 3) [3]),
  (224, eA (.invokevirtual 356) [0, 176, 3, 7, 1198]),
  (227, eC (.iconst (-1)) (-1)),
  (228, eA (.if_icmp .ne 30) [258]),
  (231, eA (.iload 8) [8]),
  (233, eA (.iload 11) [11]),
  (235, eC (.bipush 10) 10),
  (237, eA (.if_icmp .ge 10) [247]),
  (240, eC (.iconst 1) 1),
  (241, eA (.iload 11) [11]),
  (243, eA (.ishl) []),
  (244, eA (.goto 4) [248]),
  (247, eC (.iconst 0) 0),
  (248, eA (.ior) []),
  (249, eA (.istore 8) [8]),
  (251, (.iinc 9 1, [9], 1, 0, [])),
  (254, eA (.iload 11) [11]),
  (256, eA (.istore 10) [10]),
  (258, (.iinc 11 (-1), [11], (-1), 0, [])),
  (261, eA (.goto (-55)) [206]),
  (264, eA (.aload_n 0) [0]),
  (265, eA (.iload 5) [5]),
  (267, eA (.iload_n 2) [2]),
  (268, eA (.iload 6) [6]),
  (270, eA (.invokevirtual 114) [0, 122, 3, 7, 970]),
  (273, eA (.iload 4) [4]),
  (275, eC (.iconst 3) 3),
  (276, eA (.if_icmp .ne 8) [284]),
  (279, eA (.iload 9) [9]),
  (281, eA (.goto 16) [297]),
  (284, eA (.iload 4) [4]),
  (286, eC (.iconst 4) 4),
  (287, eA (.if_icmp .ne 8) [295]),
  (290, eA (.iload 10) [10]),
  (292, eA (.goto 5) [297]),
  (295, eA (.iload 8) [8]),
  (297, eA (.ireturn) [])]
def hX7_tells : Hd := (tX7_tells, 7, false, 1)
def tX7_film : List (Nat × En) := [(0, eA (.iload_n 1) [1]),
  (1, eA (.invokestatic 308) [0, 186, 1, 0, 1151]),
  (4, eA (.ifCond .eq 18) [22]),
  (7, eA (.aload_n 0) [0]),
  (8, eA (.iload_n 2) [2]),
  (9, eA (.invokevirtual 94) [0, 115, 1, 7, 944]),
  (12, eA (.ifCond .eq 10) [22]),
  (15, eA (.iload_n 3) [3]),
  (16, eA (.invokestatic 97) [0, 116, 1, 0, 948]),
  (19, eA (.ifCond .ne 6) [25]),
  (22, eC (.bipush (-2)) (-2)),
  (24, eA (.ireturn) []),
  (25, eA (.aload_n 0) [0]),
  (26, eA (.iload_n 1) [1]),
  (27, eC (.iconst 0) 0),
  (28, eC (.bipush 6) 6),
  (30, eA (.invokevirtual 311) [0, 187, 3, 7, 1154]),
  (33, eA (.pop) []),
  (34, eC (.iconst 0) 0),
  (35, eA (.istore 4) [4]),
  (37, eC (.iconst 0) 0),
  (38, eA (.istore 5) [5]),
  (40, eA (.iload 5) [5]),
  (42, eC (.bipush 6) 6),
  (44, eA (.if_icmp .ge 42) [86]),
  (47, eA (.aload_n 0) [0]),
  (48, eA (.getfield 69) [7, 48, 826]),
  (51, eC (.bipush 40) 40),
  (53, eA (.iload_n 1) [1]),
  (54, eA (.imul) []),
  (55, eA (.iload 5) [5]),
  (57, eA (.iadd) []),
  (58, eA (.aload_n 0) [0]),
  (59, eA (.iload_n 2) [2]),
  (60, eA (.iload 5) [5]),
  (62, eA (.iload_n 3) [3]),
  (63, eA (.invokevirtual 263) [0, 147, 3, 7, 1068]),
  (66, eA (.iastore) []),
  (67, eA (.iload 4) [4]),
  (69, eA (.aload_n 0) [0]),
  (70, eA (.iload_n 2) [2]),
  (71, eA (.iload 5) [5]),
  (73, eA (.iload_n 3) [3]),
  (74, eA (.invokevirtual 263) [0, 147, 3, 7, 1068]),
  (77, eA (.iadd) []),
  (78, eA (.istore 4) [4]),
  (80, (.iinc 5 1, [5], 1, 0, [])),
  (83, eA (.goto (-43)) [40]),
  (86, eA (.iload 4) [4]),
  (88, eA (.ireturn) [])]
def hX7_film : Hd := (tX7_film, 7, false, 1)
def tX7_shoeDrawn : List (Nat × En) := [(0, eA (.aload_n 0) [0]),
  (1, eA (.getfield 118) [7, 7, 785]),
  (4, eA (.istore 4) [4]),
  (6, eA (.aload_n 0) [0]),
  (7, eA (.getfield 29) [7, 10, 788]),
  (10, eC (.iconst 2) 2),
  (11, eA (.iload_n 2) [2]),
  (12, eA (.imul) []),
  (13, eC (.iconst 1) 1),
  (14, eA (.iadd) []),
  (15, eA (.iaload) []),
  (16, eA (.istore 5) [5]),
  (18, eC (.iconst 0) 0),
  (19, eA (.istore 6) [6]),
  (21, eA (.iload 6) [6]),
  (23, eC (.bipush 6) 6),
  (25, eA (.if_icmp .ge 28) [53]),
  (28, eA (.aload_n 0) [0]),
  (29, eA (.getfield 44) [7, 38, 816]),
  (32, eA (.iload 6) [6]),
  (34, eA (.aload_n 0) [0]),
  (35, eA (.getfield 32) [7, 11, 789]),
  (38, eC (.bipush 6) 6),
  (40, eA (.iload_n 2) [2]),
  (41, eA (.imul) []),
  (42, eA (.iload 6) [6]),
  (44, eA (.iadd) []),
  (45, eA (.iaload) []),
  (46, eA (.iastore) []),
  (47, (.iinc 6 1, [6], 1, 0, [])),
  (50, eA (.goto (-29)) [21]),
  (53, eA (.iload_n 1) [1]),
  (54, eA (.istore 6) [6]),
  (56, eC (.iconst 0) 0),
  (57, eA (.istore 7) [7]),
  (59, eA (.iload 7) [7]),
  (61, eA (.iload_n 3) [3]),
  (62, eA (.if_icmp .ge 34) [96]),
  (65, eA (.iload 6) [6]),
  (67, (.ldc_w 364, [1, 1219], 1103515245, 0, [])),
  (70, eA (.imul) []),
  (71, eC (.sipush 12345) 12345),
  (74, eA (.iadd) []),
  (75, eA (.istore 6) [6]),
  (77, eA (.aload_n 0) [0]),
  (78, eA (.iload_n 2) [2]),
  (79, eA (.iload 6) [6]),
  (81, eC (.bipush 9) 9),
  (83, eA (.iushr) []),
  (84, eC (.bipush 6) 6),
  (86, eA (.irem) []),
  (87, eA (.invokevirtual 272) [0, 151, 2, 7, 1091]),
  (90, (.iinc 7 1, [7], 1, 0, [])),
  (93, eA (.goto (-34)) [59]),
  (96, eA (.aload_n 0) [0]),
  (97, eA (.iload_n 2) [2]),
  (98, eA (.invokevirtual 131) [0, 125, 1, 7, 962]),
  (101, eA (.istore 7) [7]),
  (103, eC (.iconst 0) 0),
  (104, eA (.istore 8) [8]),
  (106, eA (.iload 8) [8]),
  (108, eC (.bipush 6) 6),
  (110, eA (.if_icmp .ge 28) [138]),
  (113, eA (.aload_n 0) [0]),
  (114, eA (.getfield 32) [7, 11, 789]),
  (117, eC (.bipush 6) 6),
  (119, eA (.iload_n 2) [2]),
  (120, eA (.imul) []),
  (121, eA (.iload 8) [8]),
  (123, eA (.iadd) []),
  (124, eA (.aload_n 0) [0]),
  (125, eA (.getfield 44) [7, 38, 816]),
  (128, eA (.iload 8) [8]),
  (130, eA (.iaload) []),
  (131, eA (.iastore) []),
  (132, (.iinc 8 1, [8], 1, 0, [])),
  (135, eA (.goto (-29)) [106]),
  (138, eA (.aload_n 0) [0]),
  (139, eA (.getfield 29) [7, 10, 788]),
  (142, eC (.iconst 2) 2),
  (143, eA (.iload_n 2) [2]),
  (144, eA (.imul) []),
  (145, eC (.iconst 1) 1),
  (146, eA (.iadd) []),
  (147, eA (.iload 5) [5]),
  (149, eA (.iastore) []),
  (150, eA (.aload_n 0) [0]),
  (151, eA (.iload 4) [4]),
  (153, eA (.putfield 118) [7, 7, 785]),
  (156, eA (.iload 7) [7]),
  (158, eA (.ireturn) [])]
def hX7_shoeDrawn : Hd := (tX7_shoeDrawn, 7, false, 1)
def tX7_drawn : List (Nat × En) := [(0, eA (.aload_n 0) [0]),
  (1, eA (.iload_n 2) [2]),
  (2, eA (.invokevirtual 94) [0, 115, 1, 7, 944]),
  (5, eA (.ifCond .eq 25) [30]),
  (8, eA (.iload_n 3) [3]),
  (9, eA (.i2l) []),
  (10, eL (.lconst 0) 0),
  (11, (.ldc2_w 365, [1214], 0, 40, [])),
  (14, eA (.invokestatic 82) [0, 111, 3, 0, 932]),
  (17, eA (.ifCond .eq 13) [30]),
  (20, eA (.aload_n 0) [0]),
  (21, eA (.iload_n 1) [1]),
  (22, eA (.iload_n 2) [2]),
  (23, eA (.iload_n 3) [3]),
  (24, eA (.invokevirtual 367) [0, 180, 3, 7, 1215]),
  (27, eA (.goto 5) [32]),
  (30, eC (.bipush (-2)) (-2)),
  (32, eA (.ireturn) [])]
def hX7_drawn : Hd := (tX7_drawn, 7, false, 1)
def tX7_chance : List (Nat × En) := [(0, eA (.iload_n 2) [2]),
  (1, eA (.i2l) []),
  (2, eL (.lconst 1) 1),
  (3, (.ldc2_w 370, [1224], 0, 20, [])),
  (6, eA (.invokestatic 82) [0, 111, 3, 0, 932]),
  (9, eA (.ifCond .eq 35) [44]),
  (12, eA (.aload_n 0) [0]),
  (13, eA (.iload_n 3) [3]),
  (14, eA (.invokevirtual 94) [0, 115, 1, 7, 944]),
  (17, eA (.ifCond .eq 27) [44]),
  (20, eA (.iload 4) [4]),
  (22, eA (.i2l) []),
  (23, eL (.lconst 0) 0),
  (24, (.ldc2_w 372, [1225], 0, 99999, [])),
  (27, eA (.invokestatic 82) [0, 111, 3, 0, 932]),
  (30, eA (.ifCond .eq 14) [44]),
  (33, eA (.iload 5) [5]),
  (35, eA (.i2l) []),
  (36, eL (.lconst 0) 0),
  (37, eL (.lconst 1) 1),
  (38, eA (.invokestatic 82) [0, 111, 3, 0, 932]),
  (41, eA (.ifCond .ne 7) [48]),
  (44, (.ldc2_w 287, [1124], 0, (-4611686018427387904), [])),
  (47, eA (.lreturn) []),
  (48, eL (.lconst 0) 0),
  (49, eA (.lstore 6) [6]),
  (51, eC (.iconst 0) 0),
  (52, eA (.istore 8) [8]),
  (54, eA (.iload 8) [8]),
  (56, eA (.iload_n 2) [2]),
  (57, eA (.if_icmp .ge 34) [91]),
  (60, eA (.lload 6) [6]),
  (62, eA (.aload_n 0) [0]),
  (63, eA (.iload_n 1) [1]),
  (64, eA (.iload 8) [8]),
  (66, eA (.iadd) []),
  (67, eA (.iload_n 3) [3]),
  (68, eC (.iconst 5) 5),
  (69, eA (.invokevirtual 367) [0, 180, 3, 7, 1215]),
  (72, eA (.iload 4) [4]),
  (74, eA (.if_icmp .lt 7) [81]),
  (77, eL (.lconst 1) 1),
  (78, eA (.goto 4) [82]),
  (81, eL (.lconst 0) 0),
  (82, eA (.ladd) []),
  (83, eA (.lstore 6) [6]),
  (85, (.iinc 8 1, [8], 1, 0, [])),
  (88, eA (.goto (-34)) [54]),
  (91, eA (.lload 6) [6]),
  (93, eA (.iload_n 2) [2]),
  (94, eA (.i2l) []),
  (95, eA (.iload 5) [5]),
  (97, eA (.invokestatic 289) [0, 159, 3, 0, 1125]),
  (100, eA (.lreturn) [])]
def hX7_chance : Hd := (tX7_chance, 7, false, 3)
def tX7_image : List (Nat × En) := [(0, eC (.iconst 0) 0),
  (1, eA (.istore_n 1) [1]),
  (2, eA (.iload_n 1) [1]),
  (3, eC (.bipush 36) 36),
  (5, eA (.if_icmp .ge 21) [26]),
  (8, eA (.aload_n 0) [0]),
  (9, eA (.getfield 47) [7, 39, 817]),
  (12, eA (.iload_n 1) [1]),
  (13, eA (.aload_n 0) [0]),
  (14, eA (.getfield 23) [7, 8, 786]),
  (17, eA (.iload_n 1) [1]),
  (18, eA (.iaload) []),
  (19, eA (.iastore) []),
  (20, (.iinc 1 1, [1], 1, 0, [])),
  (23, eA (.goto (-21)) [2]),
  (26, eC (.iconst 0) 0),
  (27, eA (.istore_n 1) [1]),
  (28, eA (.iload_n 1) [1]),
  (29, eC (.bipush 10) 10),
  (31, eA (.if_icmp .ge 21) [52]),
  (34, eA (.aload_n 0) [0]),
  (35, eA (.getfield 50) [7, 40, 818]),
  (38, eA (.iload_n 1) [1]),
  (39, eA (.aload_n 0) [0]),
  (40, eA (.getfield 29) [7, 10, 788]),
  (43, eA (.iload_n 1) [1]),
  (44, eA (.iaload) []),
  (45, eA (.iastore) []),
  (46, (.iinc 1 1, [1], 1, 0, [])),
  (49, eA (.goto (-21)) [28]),
  (52, eC (.iconst 0) 0),
  (53, eA (.istore_n 1) [1]),
  (54, eA (.iload_n 1) [1]),
  (55, eC (.bipush 30) 30),
  (57, eA (.if_icmp .ge 21) [78]),
  (60, eA (.aload_n 0) [0]),
  (61, eA (.getfield 53) [7, 41, 819]),
  (64, eA (.iload_n 1) [1]),
  (65, eA (.aload_n 0) [0]),
  (66, eA (.getfield 32) [7, 11, 789]),
  (69, eA (.iload_n 1) [1]),
  (70, eA (.iaload) []),
  (71, eA (.iastore) []),
  (72, (.iinc 1 1, [1], 1, 0, [])),
  (75, eA (.goto (-21)) [54]),
  (78, eA (.aload_n 0) [0]),
  (79, eA (.aload_n 0) [0]),
  (80, eA (.getfield 79) [7, 12, 790]),
  (83, eA (.putfield 56) [7, 42, 820]),
  (86, eA (.aload_n 0) [0]),
  (87, eA (.aload_n 0) [0]),
  (88, eA (.getfield 118) [7, 7, 785]),
  (91, eA (.putfield 374) [7, 43, 821]),
  (94, eA (.aload_n 0) [0]),
  (95, eA (.aload_n 0) [0]),
  (96, eA (.getfield 124) [7, 4, 782]),
  (99, eA (.putfield 377) [7, 44, 822]),
  (102, eA (.aload_n 0) [0]),
  (103, eA (.getfield 79) [7, 12, 790]),
  (106, eA (.ireturn) [])]
def hX7_image : Hd := (tX7_image, 7, false, 1)
def tX7_back : List (Nat × En) := [(0, eA (.aload_n 0) [0]),
  (1, eA (.getfield 56) [7, 42, 820]),
  (4, eC (.iconst (-1)) (-1)),
  (5, eA (.if_icmp .ne 6) [11]),
  (8, eC (.bipush (-3)) (-3)),
  (10, eA (.ireturn) []),
  (11, eC (.iconst 0) 0),
  (12, eA (.istore_n 1) [1]),
  (13, eA (.iload_n 1) [1]),
  (14, eC (.bipush 36) 36),
  (16, eA (.if_icmp .ge 21) [37]),
  (19, eA (.aload_n 0) [0]),
  (20, eA (.getfield 23) [7, 8, 786]),
  (23, eA (.iload_n 1) [1]),
  (24, eA (.aload_n 0) [0]),
  (25, eA (.getfield 47) [7, 39, 817]),
  (28, eA (.iload_n 1) [1]),
  (29, eA (.iaload) []),
  (30, eA (.iastore) []),
  (31, (.iinc 1 1, [1], 1, 0, [])),
  (34, eA (.goto (-21)) [13]),
  (37, eC (.iconst 0) 0),
  (38, eA (.istore_n 1) [1]),
  (39, eA (.iload_n 1) [1]),
  (40, eC (.bipush 10) 10),
  (42, eA (.if_icmp .ge 21) [63]),
  (45, eA (.aload_n 0) [0]),
  (46, eA (.getfield 29) [7, 10, 788]),
  (49, eA (.iload_n 1) [1]),
  (50, eA (.aload_n 0) [0]),
  (51, eA (.getfield 50) [7, 40, 818]),
  (54, eA (.iload_n 1) [1]),
  (55, eA (.iaload) []),
  (56, eA (.iastore) []),
  (57, (.iinc 1 1, [1], 1, 0, [])),
  (60, eA (.goto (-21)) [39]),
  (63, eC (.iconst 0) 0),
  (64, eA (.istore_n 1) [1]),
  (65, eA (.iload_n 1) [1]),
  (66, eC (.bipush 30) 30),
  (68, eA (.if_icmp .ge 21) [89]),
  (71, eA (.aload_n 0) [0]),
  (72, eA (.getfield 32) [7, 11, 789]),
  (75, eA (.iload_n 1) [1]),
  (76, eA (.aload_n 0) [0]),
  (77, eA (.getfield 53) [7, 41, 819]),
  (80, eA (.iload_n 1) [1]),
  (81, eA (.iaload) []),
  (82, eA (.iastore) []),
  (83, (.iinc 1 1, [1], 1, 0, [])),
  (86, eA (.goto (-21)) [65]),
  (89, eA (.aload_n 0) [0]),
  (90, eA (.aload_n 0) [0]),
  (91, eA (.getfield 56) [7, 42, 820]),
  (94, eA (.putfield 79) [7, 12, 790]),
  (97, eA (.aload_n 0) [0]),
  (98, eA (.aload_n 0) [0]),
  (99, eA (.getfield 374) [7, 43, 821]),
  (102, eA (.putfield 118) [7, 7, 785]),
  (105, eA (.aload_n 0) [0]),
  (106, eA (.aload_n 0) [0]),
  (107, eA (.getfield 377) [7, 44, 822]),
  (110, eA (.putfield 124) [7, 4, 782]),
  (113, eA (.aload_n 0) [0]),
  (114, eA (.getfield 79) [7, 12, 790]),
  (117, eA (.ireturn) [])]
def hX7_back : Hd := (tX7_back, 7, false, 1)
def tX7_count : List (Nat × En) := [(0, eA (.iload_n 1) [1]),
  (1, eA (.i2l) []),
  (2, eL (.lconst 0) 0),
  (3, (.ldc2_w 86, [943], 0, 5, [])),
  (6, eA (.invokestatic 82) [0, 111, 3, 0, 932]),
  (9, eA (.ifCond .ne 6) [15]),
  (12, eC (.bipush (-2)) (-2)),
  (14, eA (.ireturn) []),
  (15, eC (.iconst 0) 0),
  (16, eA (.istore_n 2) [2]),
  (17, eC (.iconst 0) 0),
  (18, eA (.istore_n 3) [3]),
  (19, eA (.iload_n 3) [3]),
  (20, eA (.aload_n 0) [0]),
  (21, eA (.getfield 79) [7, 12, 790]),
  (24, eA (.if_icmp .ge 17) [41]),
  (27, eA (.iload_n 2) [2]),
  (28, eA (.aload_n 0) [0]),
  (29, eA (.iload_n 3) [3]),
  (30, eA (.invokevirtual 131) [0, 125, 1, 7, 962]),
  (33, eA (.iadd) []),
  (34, eA (.istore_n 2) [2]),
  (35, (.iinc 3 1, [3], 1, 0, [])),
  (38, eA (.goto (-19)) [19]),
  (41, eA (.iload_n 1) [1]),
  (42, eA (.ifCond .ne 10) [52]),
  (45, eA (.aload_n 0) [0]),
  (46, eA (.getfield 79) [7, 12, 790]),
  (49, eA (.goto 52) [101]),
  (52, eA (.iload_n 1) [1]),
  (53, eC (.iconst 1) 1),
  (54, eA (.if_icmp .ne 10) [64]),
  (57, eA (.aload_n 0) [0]),
  (58, eA (.getfield 118) [7, 7, 785]),
  (61, eA (.goto 40) [101]),
  (64, eA (.iload_n 1) [1]),
  (65, eC (.iconst 2) 2),
  (66, eA (.if_icmp .ne 7) [73]),
  (69, eA (.iload_n 2) [2]),
  (70, eA (.goto 31) [101]),
  (73, eA (.iload_n 1) [1]),
  (74, eC (.iconst 3) 3),
  (75, eA (.if_icmp .ne 10) [85]),
  (78, eA (.aload_n 0) [0]),
  (79, eA (.getfield 76) [7, 3, 781]),
  (82, eA (.goto 19) [101]),
  (85, eA (.iload_n 1) [1]),
  (86, eC (.iconst 4) 4),
  (87, eA (.if_icmp .ne 10) [97]),
  (90, eA (.aload_n 0) [0]),
  (91, eA (.getfield 139) [7, 6, 784]),
  (94, eA (.goto 7) [101]),
  (97, eA (.aload_n 0) [0]),
  (98, eA (.getfield 124) [7, 4, 782]),
  (101, eA (.ireturn) [])]
def hX7_count : Hd := (tX7_count, 7, false, 1)
def tX7_isSheet : List (Nat × En) := [(0, eA (.iload_n 0) [0]),
  (1, eA (.i2l) []),
  (2, eL (.lconst 0) 0),
  (3, (.ldc2_w 100, [931], 0, 3, [])),
  (6, eA (.invokestatic 82) [0, 111, 3, 0, 932]),
  (9, eA (.ireturn) [])]
def hX7_isSheet : Hd := (tX7_isSheet, 7, false, 2)
def tX7_sheet : List (Nat × En) := [(0, eA (.iload_n 1) [1]),
  (1, eA (.invokestatic 308) [0, 186, 1, 0, 1151]),
  (4, eA (.ifCond .eq 27) [31]),
  (7, eA (.iload_n 2) [2]),
  (8, eA (.i2l) []),
  (9, (.ldc2_w 380, [1158], 0, (-1), [])),
  (12, (.ldc2_w 285, [1119], 0, 2, [])),
  (15, eA (.invokestatic 82) [0, 111, 3, 0, 932]),
  (18, eA (.ifCond .eq 13) [31]),
  (21, eA (.iload_n 2) [2]),
  (22, eA (.ifCond .lt 12) [34]),
  (25, eA (.iload_n 3) [3]),
  (26, eC (.bipush 40) 40),
  (28, eA (.if_icmp .le 6) [34]),
  (31, eC (.bipush (-2)) (-2)),
  (33, eA (.ireturn) []),
  (34, eA (.iload_n 2) [2]),
  (35, eA (.ifCond .lt 10) [45]),
  (38, eA (.iload_n 3) [3]),
  (39, eA (.ifCond .ge 6) [45]),
  (42, eC (.bipush (-14)) (-14)),
  (44, eA (.ireturn) []),
  (45, eA (.aload_n 0) [0]),
  (46, eA (.getfield 59) [7, 45, 823]),
  (49, eA (.iload_n 1) [1]),
  (50, eA (.iload_n 2) [2]),
  (51, eA (.ifCond .lt 7) [58]),
  (54, eC (.iconst 1) 1),
  (55, eA (.goto 4) [59]),
  (58, eC (.iconst 0) 0),
  (59, eA (.bastore) []),
  (60, eA (.aload_n 0) [0]),
  (61, eA (.getfield 63) [7, 46, 824]),
  (64, eA (.iload_n 1) [1]),
  (65, eA (.iload_n 2) [2]),
  (66, eA (.iastore) []),
  (67, eA (.aload_n 0) [0]),
  (68, eA (.getfield 66) [7, 47, 825]),
  (71, eA (.iload_n 1) [1]),
  (72, eA (.iload_n 3) [3]),
  (73, eA (.iastore) []),
  (74, eC (.iconst 0) 0),
  (75, eA (.istore 4) [4]),
  (77, eA (.iload 4) [4]),
  (79, eA (.iload_n 3) [3]),
  (80, eA (.if_icmp .ge 26) [106]),
  (83, eA (.iload_n 2) [2]),
  (84, eA (.ifCond .lt 22) [106]),
  (87, eA (.aload_n 0) [0]),
  (88, eA (.getfield 69) [7, 48, 826]),
  (91, eC (.bipush 40) 40),
  (93, eA (.iload_n 1) [1]),
  (94, eA (.imul) []),
  (95, eA (.iload 4) [4]),
  (97, eA (.iadd) []),
  (98, eC (.iconst 0) 0),
  (99, eA (.iastore) []),
  (100, (.iinc 4 1, [4], 1, 0, [])),
  (103, eA (.goto (-26)) [77]),
  (106, eC (.iconst 1) 1),
  (107, eA (.ireturn) [])]
def hX7_sheet : Hd := (tX7_sheet, 7, false, 1)
def tX7_cell : List (Nat × En) := [(0, eA (.iload_n 1) [1]),
  (1, eA (.invokestatic 308) [0, 186, 1, 0, 1151]),
  (4, eA (.ifCond .ne 6) [10]),
  (7, eC (.bipush (-2)) (-2)),
  (9, eA (.ireturn) []),
  (10, eA (.aload_n 0) [0]),
  (11, eA (.getfield 59) [7, 45, 823]),
  (14, eA (.iload_n 1) [1]),
  (15, eA (.baload) []),
  (16, eA (.ifCond .ne 6) [22]),
  (19, eC (.bipush (-11)) (-11)),
  (21, eA (.ireturn) []),
  (22, eA (.iload_n 2) [2]),
  (23, eA (.i2l) []),
  (24, eL (.lconst 0) 0),
  (25, eA (.aload_n 0) [0]),
  (26, eA (.getfield 66) [7, 47, 825]),
  (29, eA (.iload_n 1) [1]),
  (30, eA (.iaload) []),
  (31, eC (.iconst 1) 1),
  (32, eA (.isub) []),
  (33, eA (.i2l) []),
  (34, eA (.invokestatic 82) [0, 111, 3, 0, 932]),
  (37, eA (.ifCond .ne 6) [43]),
  (40, eC (.bipush (-12)) (-12)),
  (42, eA (.ireturn) []),
  (43, eA (.aload_n 0) [0]),
  (44, eA (.getfield 69) [7, 48, 826]),
  (47, eC (.bipush 40) 40),
  (49, eA (.iload_n 1) [1]),
  (50, eA (.imul) []),
  (51, eA (.iload_n 2) [2]),
  (52, eA (.iadd) []),
  (53, eA (.aload_n 0) [0]),
  (54, eA (.getfield 63) [7, 46, 824]),
  (57, eA (.iload_n 1) [1]),
  (58, eA (.iaload) []),
  (59, eA (.ifCond .ne 8) [67]),
  (62, eA (.iload_n 3) [3]),
  (63, eA (.i2b) []),
  (64, eA (.goto 19) [83]),
  (67, eA (.aload_n 0) [0]),
  (68, eA (.getfield 63) [7, 46, 824]),
  (71, eA (.iload_n 1) [1]),
  (72, eA (.iaload) []),
  (73, eC (.iconst 1) 1),
  (74, eA (.if_icmp .ne 8) [82]),
  (77, eA (.iload_n 3) [3]),
  (78, eA (.i2s) []),
  (79, eA (.goto 4) [83]),
  (82, eA (.iload_n 3) [3]),
  (83, eA (.iastore) []),
  (84, eC (.iconst 1) 1),
  (85, eA (.ireturn) [])]
def hX7_cell : Hd := (tX7_cell, 7, false, 1)
def tX7_copy : List (Nat × En) := [(0, eA (.iload_n 1) [1]),
  (1, eA (.invokestatic 308) [0, 186, 1, 0, 1151]),
  (4, eA (.ifCond .eq 10) [14]),
  (7, eA (.iload_n 3) [3]),
  (8, eA (.invokestatic 308) [0, 186, 1, 0, 1151]),
  (11, eA (.ifCond .ne 6) [17]),
  (14, eC (.bipush (-2)) (-2)),
  (16, eA (.ireturn) []),
  (17, eA (.aload_n 0) [0]),
  (18, eA (.getfield 59) [7, 45, 823]),
  (21, eA (.iload_n 1) [1]),
  (22, eA (.baload) []),
  (23, eA (.ifCond .eq 12) [35]),
  (26, eA (.aload_n 0) [0]),
  (27, eA (.getfield 59) [7, 45, 823]),
  (30, eA (.iload_n 3) [3]),
  (31, eA (.baload) []),
  (32, eA (.ifCond .ne 6) [38]),
  (35, eC (.bipush (-11)) (-11)),
  (37, eA (.ireturn) []),
  (38, eA (.aload_n 0) [0]),
  (39, eA (.getfield 63) [7, 46, 824]),
  (42, eA (.iload_n 1) [1]),
  (43, eA (.iaload) []),
  (44, eA (.aload_n 0) [0]),
  (45, eA (.getfield 63) [7, 46, 824]),
  (48, eA (.iload_n 3) [3]),
  (49, eA (.iaload) []),
  (50, eA (.if_icmp .eq 6) [56]),
  (53, eC (.bipush (-13)) (-13)),
  (55, eA (.ireturn) []),
  (56, eA (.iload 5) [5]),
  (58, eA (.ifCond .lt 39) [97]),
  (61, eA (.iload_n 2) [2]),
  (62, eA (.ifCond .lt 35) [97]),
  (65, eA (.iload 4) [4]),
  (67, eA (.ifCond .lt 30) [97]),
  (70, eA (.iload_n 2) [2]),
  (71, eA (.aload_n 0) [0]),
  (72, eA (.getfield 66) [7, 47, 825]),
  (75, eA (.iload_n 1) [1]),
  (76, eA (.iaload) []),
  (77, eA (.iload 5) [5]),
  (79, eA (.isub) []),
  (80, eA (.if_icmp .gt 17) [97]),
  (83, eA (.iload 4) [4]),
  (85, eA (.aload_n 0) [0]),
  (86, eA (.getfield 66) [7, 47, 825]),
  (89, eA (.iload_n 3) [3]),
  (90, eA (.iaload) []),
  (91, eA (.iload 5) [5]),
  (93, eA (.isub) []),
  (94, eA (.if_icmp .le 6) [100]),
  (97, eC (.bipush (-12)) (-12)),
  (99, eA (.ireturn) []),
  (100, eA (.iload_n 1) [1]),
  (101, eA (.iload_n 3) [3]),
  (102, eA (.if_icmp .ne 13) [115]),
  (105, eA (.iload_n 2) [2]),
  (106, eA (.iload 4) [4]),
  (108, eA (.if_icmp .ge 7) [115]),
  (111, eC (.iconst 1) 1),
  (112, eA (.goto 4) [116]),
  (115, eC (.iconst 0) 0),
  (116, eA (.istore 6) [6]),
  (118, eC (.iconst 0) 0),
  (119, eA (.istore 7) [7]),
  (121, eA (.iload 7) [7]),
  (123, eA (.iload 5) [5]),
  (125, eA (.if_icmp .ge 57) [182]),
  (128, eA (.iload 6) [6]),
  (130, eA (.ifCond .eq 13) [143]),
  (133, eA (.iload 5) [5]),
  (135, eC (.iconst 1) 1),
  (136, eA (.isub) []),
  (137, eA (.iload 7) [7]),
  (139, eA (.isub) []),
  (140, eA (.goto 5) [145]),
  (143, eA (.iload 7) [7]),
  (145, eA (.istore 8) [8]),
  (147, eA (.aload_n 0) [0]),
  (148, eA (.getfield 69) [7, 48, 826]),
  (151, eC (.bipush 40) 40),
  (153, eA (.iload_n 3) [3]),
  (154, eA (.imul) []),
  (155, eA (.iload 4) [4]),
  (157, eA (.iadd) []),
  (158, eA (.iload 8) [8]),
  (160, eA (.iadd) []),
  (161, eA (.aload_n 0) [0]),
  (162, eA (.getfield 69) [7, 48, 826]),
  (165, eC (.bipush 40) 40),
  (167, eA (.iload_n 1) [1]),
  (168, eA (.imul) []),
  (169, eA (.iload_n 2) [2]),
  (170, eA (.iadd) []),
  (171, eA (.iload 8) [8]),
  (173, eA (.iadd) []),
  (174, eA (.iaload) []),
  (175, eA (.iastore) []),
  (176, (.iinc 7 1, [7], 1, 0, [])),
  (179, eA (.goto (-58)) [121]),
  (182, eA (.iload 5) [5]),
  (184, eA (.ireturn) [])]
def hX7_copy : Hd := (tX7_copy, 7, false, 1)
def tX7_people : List (Nat × En) := [(0, eA (.iload_n 1) [1]),
  (1, eA (.invokestatic 308) [0, 186, 1, 0, 1151]),
  (4, eA (.ifCond .eq 28) [32]),
  (7, eA (.iload_n 2) [2]),
  (8, eA (.i2l) []),
  (9, eL (.lconst 0) 0),
  (10, (.ldc2_w 285, [1119], 0, 2, [])),
  (13, eA (.invokestatic 82) [0, 111, 3, 0, 932]),
  (16, eA (.ifCond .eq 16) [32]),
  (19, eA (.iload 4) [4]),
  (21, eA (.i2l) []),
  (22, eL (.lconst 0) 0),
  (23, (.ldc2_w 86, [943], 0, 5, [])),
  (26, eA (.invokestatic 82) [0, 111, 3, 0, 932]),
  (29, eA (.ifCond .ne 6) [35]),
  (32, eC (.bipush (-2)) (-2)),
  (34, eA (.ireturn) []),
  (35, eA (.aload_n 0) [0]),
  (36, eA (.getfield 59) [7, 45, 823]),
  (39, eA (.iload_n 1) [1]),
  (40, eA (.baload) []),
  (41, eA (.ifCond .eq 16) [57]),
  (44, eA (.aload_n 0) [0]),
  (45, eA (.getfield 63) [7, 46, 824]),
  (48, eA (.iload_n 1) [1]),
  (49, eA (.iaload) []),
  (50, eA (.iload_n 2) [2]),
  (51, eA (.if_icmp .eq 6) [57]),
  (54, eC (.bipush (-13)) (-13)),
  (56, eA (.ireturn) []),
  (57, eA (.aload_n 0) [0]),
  (58, eA (.getfield 59) [7, 45, 823]),
  (61, eA (.iload_n 1) [1]),
  (62, eA (.baload) []),
  (63, eA (.ifCond .ne 6) [69]),
  (66, eC (.bipush (-11)) (-11)),
  (68, eA (.ireturn) []),
  (69, eC (.iconst 0) 0),
  (70, eA (.istore 5) [5]),
  (72, eC (.iconst 0) 0),
  (73, eA (.istore 6) [6]),
  (75, eA (.iload 6) [6]),
  (77, eA (.iload 4) [4]),
  (79, eA (.if_icmp .ge 79) [158]),
  (82, eA (.iload_n 3) [3]),
  (83, eA (.ifCond .lt 20) [103]),
  (86, eA (.iload_n 3) [3]),
  (87, eA (.aload_n 0) [0]),
  (88, eA (.getfield 66) [7, 47, 825]),
  (91, eA (.iload_n 1) [1]),
  (92, eA (.iaload) []),
  (93, eC (.iconst 2) 2),
  (94, eA (.iload 6) [6]),
  (96, eA (.imul) []),
  (97, eA (.isub) []),
  (98, eC (.iconst 2) 2),
  (99, eA (.isub) []),
  (100, eA (.if_icmp .le 6) [106]),
  (103, eC (.bipush (-12)) (-12)),
  (105, eA (.ireturn) []),
  (106, eC (.bipush 40) 40),
  (108, eA (.iload_n 1) [1]),
  (109, eA (.imul) []),
  (110, eA (.iload_n 3) [3]),
  (111, eA (.iadd) []),
  (112, eC (.iconst 2) 2),
  (113, eA (.iload 6) [6]),
  (115, eA (.imul) []),
  (116, eA (.iadd) []),
  (117, eA (.istore 7) [7]),
  (119, eA (.iload 5) [5]),
  (121, eA (.aload_n 0) [0]),
  (122, eA (.aload_n 0) [0]),
  (123, eA (.getfield 69) [7, 48, 826]),
  (126, eA (.iload 7) [7]),
  (128, eA (.iaload) []),
  (129, eA (.aload_n 0) [0]),
  (130, eA (.getfield 69) [7, 48, 826]),
  (133, eA (.iload 7) [7]),
  (135, eC (.iconst 1) 1),
  (136, eA (.iadd) []),
  (137, eA (.iaload) []),
  (138, eA (.invokevirtual 382) [0, 123, 2, 7, 1251]),
  (141, eA (.ifCond .lt 7) [148]),
  (144, eC (.iconst 1) 1),
  (145, eA (.goto 4) [149]),
  (148, eC (.iconst 0) 0),
  (149, eA (.iadd) []),
  (150, eA (.istore 5) [5]),
  (152, (.iinc 6 1, [6], 1, 0, [])),
  (155, eA (.goto (-80)) [75]),
  (158, eA (.iload 5) [5]),
  (160, eA (.ireturn) [])]
def hX7_people : Hd := (tX7_people, 7, false, 1)
def tX7_over : List (Nat × En) := [(0, eA (.iload_n 0) [0]),
  (1, eA (.ifCond .ne 7) [8]),
  (4, eC (.iconst (-1)) (-1)),
  (5, eA (.goto 22) [27]),
  (8, eA (.iload_n 0) [0]),
  (9, eC (.iconst 3) 3),
  (10, eA (.if_icmp .ne 7) [17]),
  (13, eC (.iconst 1) 1),
  (14, eA (.goto 13) [27]),
  (17, eA (.iload_n 0) [0]),
  (18, eC (.iconst 4) 4),
  (19, eA (.if_icmp .ne 7) [26]),
  (22, eC (.iconst 2) 2),
  (23, eA (.goto 4) [27]),
  (26, eC (.iconst 0) 0),
  (27, eA (.ireturn) [])]
def hX7_over : Hd := (tX7_over, 7, false, 1)
def tX7_taken : List (Nat × En) := [(0, eA (.iload_n 2) [2]),
  (1, eA (.i2l) []),
  (2, eL (.lconst 0) 0),
  (3, (.ldc2_w 86, [943], 0, 5, [])),
  (6, eA (.invokestatic 82) [0, 111, 3, 0, 932]),
  (9, eA (.ifCond .ne 6) [15]),
  (12, eC (.bipush (-2)) (-2)),
  (14, eA (.ireturn) []),
  (15, eA (.aload_n 0) [0]),
  (16, eA (.iload_n 1) [1]),
  (17, eA (.invokevirtual 94) [0, 115, 1, 7, 944]),
  (20, eA (.ifCond .ne 6) [26]),
  (23, eC (.bipush (-11)) (-11)),
  (25, eA (.ireturn) []),
  (26, eA (.aload_n 0) [0]),
  (27, eA (.getfield 26) [7, 9, 787]),
  (30, eA (.iload_n 1) [1]),
  (31, eA (.iaload) []),
  (32, eA (.istore_n 3) [3]),
  (33, eA (.iload_n 3) [3]),
  (34, eC (.iconst (-1)) (-1)),
  (35, eA (.if_icmp .eq 16) [51]),
  (38, eA (.iload_n 3) [3]),
  (39, eA (.iload_n 2) [2]),
  (40, eA (.if_icmp .eq 11) [51]),
  (43, eA (.iload_n 3) [3]),
  (44, eA (.invokestatic 385) [0, 191, 1, 0, 1256]),
  (47, eA (.istore_n 3) [3]),
  (48, eA (.goto (-15)) [33]),
  (51, eA (.iload_n 3) [3]),
  (52, eA (.iload_n 2) [2]),
  (53, eA (.if_icmp .ne 14) [67]),
  (56, eA (.aload_n 0) [0]),
  (57, eA (.getfield 29) [7, 10, 788]),
  (60, eC (.iconst 2) 2),
  (61, eA (.iload_n 1) [1]),
  (62, eA (.imul) []),
  (63, eA (.iaload) []),
  (64, eA (.goto 5) [69]),
  (67, eC (.bipush (-13)) (-13)),
  (69, eA (.ireturn) [])]
def hX7_taken : Hd := (tX7_taken, 7, false, 1)
def tL_law : List (Nat × En) := [(0, eA (.new 7) [6, 86]),
  (3, eA (.dup) []),
  (4, eA (.invokespecial 9) [0, 50, 0, 6, 88]),
  (7, eA (.astore_n 1) [1]),
  (8, eA (.new 10) [7, 769]),
  (11, eA (.dup) []),
  (12, eA (.invokespecial 12) [0, 113, 0, 7, 771]),
  (15, eA (.astore_n 2) [2]),
  (16, eC (.iconst 0) 0),
  (17, eA (.istore_n 3) [3]),
  (18, eA (.iload_n 3) [3]),
  (19, eA (.aload_n 0) [0]),
  (20, eA (.arraylength) []),
  (21, eC (.bipush 6) 6),
  (23, eA (.isub) []),
  (24, eA (.if_icmp .gt 1256) [1280]),
  (27, eA (.aload_n 0) [0]),
  (28, eA (.iload_n 3) [3]),
  (29, eA (.iaload) []),
  (30, eC (.bipush 31) 31),
  (32, eA (.iand) []),
  (33, (.tableswitch 1241 0 28 #[131, 174, 207, 240, 283, 306, 319, 342, 375, 398, 441, 474, 518, 561, 604, 647, 701, 754, 807, 850, 893, 957, 970, 983, 1006, 1049, 1092, 1155, 1208], [1274], 0, 0, [(0, 164), (1, 207), (2, 240), (3, 273), (4, 316), (5, 339), (6, 352), (7, 375), (8, 408), (9, 431), (10, 474), (11, 507), (12, 551), (13, 594), (14, 637), (15, 680), (16, 734), (17, 787), (18, 840), (19, 883), (20, 926), (21, 990), (22, 1003), (23, 1016), (24, 1039), (25, 1082), (26, 1125), (27, 1188), (28, 1241)])),
  (164, eA (.aload_n 1) [1]),
  (165, eA (.aload_n 0) [0]),
  (166, eA (.iload_n 3) [3]),
  (167, eC (.iconst 1) 1),
  (168, eA (.iadd) []),
  (169, eA (.iaload) []),
  (170, eA (.aload_n 0) [0]),
  (171, eA (.iload_n 3) [3]),
  (172, eC (.iconst 2) 2),
  (173, eA (.iadd) []),
  (174, eA (.iaload) []),
  (175, eA (.aload_n 0) [0]),
  (176, eA (.iload_n 3) [3]),
  (177, eC (.iconst 3) 3),
  (178, eA (.iadd) []),
  (179, eA (.iaload) []),
  (180, eA (.invokevirtual 13) [0, 51, 3, 6, 414]),
  (183, eA (.aload_n 2) [2]),
  (184, eA (.aload_n 0) [0]),
  (185, eA (.iload_n 3) [3]),
  (186, eC (.iconst 1) 1),
  (187, eA (.iadd) []),
  (188, eA (.iaload) []),
  (189, eA (.aload_n 0) [0]),
  (190, eA (.iload_n 3) [3]),
  (191, eC (.iconst 2) 2),
  (192, eA (.iadd) []),
  (193, eA (.iaload) []),
  (194, eA (.aload_n 0) [0]),
  (195, eA (.iload_n 3) [3]),
  (196, eC (.iconst 3) 3),
  (197, eA (.iadd) []),
  (198, eA (.iaload) []),
  (199, eA (.invokevirtual 17) [0, 121, 3, 7, 927]),
  (202, eA (.if_icmp .eq 1072) [1274]),
  (205, eC (.iconst 0) 0),
  (206, eA (.ireturn) []),
  (207, eA (.aload_n 1) [1]),
  (208, eA (.aload_n 0) [0]),
  (209, eA (.iload_n 3) [3]),
  (210, eC (.iconst 1) 1),
  (211, eA (.iadd) []),
  (212, eA (.iaload) []),
  (213, eA (.aload_n 0) [0]),
  (214, eA (.iload_n 3) [3]),
  (215, eC (.iconst 2) 2),
  (216, eA (.iadd) []),
  (217, eA (.iaload) []),
  (218, eA (.invokevirtual 18) [0, 52, 2, 6, 449]),
  (221, eA (.aload_n 2) [2]),
  (222, eA (.aload_n 0) [0]),
  (223, eA (.iload_n 3) [3]),
  (224, eC (.iconst 1) 1),
  (225, eA (.iadd) []),
  (226, eA (.iaload) []),
  (227, eA (.aload_n 0) [0]),
  (228, eA (.iload_n 3) [3]),
  (229, eC (.iconst 2) 2),
  (230, eA (.iadd) []),
  (231, eA (.iaload) []),
  (232, eA (.invokevirtual 22) [0, 123, 2, 7, 974]),
  (235, eA (.if_icmp .eq 1039) [1274]),
  (238, eC (.iconst 0) 0),
  (239, eA (.ireturn) []),
  (240, eA (.aload_n 1) [1]),
  (241, eA (.aload_n 0) [0]),
  (242, eA (.iload_n 3) [3]),
  (243, eC (.iconst 1) 1),
  (244, eA (.iadd) []),
  (245, eA (.iaload) []),
  (246, eA (.aload_n 0) [0]),
  (247, eA (.iload_n 3) [3]),
  (248, eC (.iconst 2) 2),
  (249, eA (.iadd) []),
  (250, eA (.iaload) []),
  (251, eA (.invokevirtual 23) [0, 53, 2, 6, 457]),
  (254, eA (.aload_n 2) [2]),
  (255, eA (.aload_n 0) [0]),
  (256, eA (.iload_n 3) [3]),
  (257, eC (.iconst 1) 1),
  (258, eA (.iadd) []),
  (259, eA (.iaload) []),
  (260, eA (.aload_n 0) [0]),
  (261, eA (.iload_n 3) [3]),
  (262, eC (.iconst 2) 2),
  (263, eA (.iadd) []),
  (264, eA (.iaload) []),
  (265, eA (.invokevirtual 26) [0, 124, 2, 7, 979]),
  (268, eA (.if_icmp .eq 1006) [1274]),
  (271, eC (.iconst 0) 0),
  (272, eA (.ireturn) []),
  (273, eA (.aload_n 1) [1]),
  (274, eA (.aload_n 0) [0]),
  (275, eA (.iload_n 3) [3]),
  (276, eC (.iconst 1) 1),
  (277, eA (.iadd) []),
  (278, eA (.iaload) []),
  (279, eA (.aload_n 0) [0]),
  (280, eA (.iload_n 3) [3]),
  (281, eC (.iconst 2) 2),
  (282, eA (.iadd) []),
  (283, eA (.iaload) []),
  (284, eA (.aload_n 0) [0]),
  (285, eA (.iload_n 3) [3]),
  (286, eC (.iconst 3) 3),
  (287, eA (.iadd) []),
  (288, eA (.iaload) []),
  (289, eA (.invokevirtual 27) [0, 54, 3, 6, 458]),
  (292, eA (.aload_n 2) [2]),
  (293, eA (.aload_n 0) [0]),
  (294, eA (.iload_n 3) [3]),
  (295, eC (.iconst 1) 1),
  (296, eA (.iadd) []),
  (297, eA (.iaload) []),
  (298, eA (.aload_n 0) [0]),
  (299, eA (.iload_n 3) [3]),
  (300, eC (.iconst 2) 2),
  (301, eA (.iadd) []),
  (302, eA (.iaload) []),
  (303, eA (.aload_n 0) [0]),
  (304, eA (.iload_n 3) [3]),
  (305, eC (.iconst 3) 3),
  (306, eA (.iadd) []),
  (307, eA (.iaload) []),
  (308, eA (.invokevirtual 30) [0, 150, 3, 7, 1064]),
  (311, eA (.if_icmp .eq 963) [1274]),
  (314, eC (.iconst 0) 0),
  (315, eA (.ireturn) []),
  (316, eA (.aload_n 1) [1]),
  (317, eA (.aload_n 0) [0]),
  (318, eA (.iload_n 3) [3]),
  (319, eC (.iconst 1) 1),
  (320, eA (.iadd) []),
  (321, eA (.iaload) []),
  (322, eA (.invokevirtual 31) [0, 55, 1, 6, 516]),
  (325, eA (.aload_n 2) [2]),
  (326, eA (.aload_n 0) [0]),
  (327, eA (.iload_n 3) [3]),
  (328, eC (.iconst 1) 1),
  (329, eA (.iadd) []),
  (330, eA (.iaload) []),
  (331, eA (.invokevirtual 35) [0, 127, 1, 7, 980]),
  (334, eA (.if_icmp .eq 940) [1274]),
  (337, eC (.iconst 0) 0),
  (338, eA (.ireturn) []),
  (339, eA (.aload_n 1) [1]),
  (340, eA (.invokevirtual 36) [0, 56, 0, 6, 517]),
  (343, eA (.aload_n 2) [2]),
  (344, eA (.invokevirtual 40) [0, 144, 0, 7, 985]),
  (347, eA (.if_icmp .eq 927) [1274]),
  (350, eC (.iconst 0) 0),
  (351, eA (.ireturn) []),
  (352, eA (.aload_n 1) [1]),
  (353, eA (.aload_n 0) [0]),
  (354, eA (.iload_n 3) [3]),
  (355, eC (.iconst 1) 1),
  (356, eA (.iadd) []),
  (357, eA (.iaload) []),
  (358, eA (.invokevirtual 41) [0, 57, 1, 6, 518]),
  (361, eA (.aload_n 2) [2]),
  (362, eA (.aload_n 0) [0]),
  (363, eA (.iload_n 3) [3]),
  (364, eC (.iconst 1) 1),
  (365, eA (.iadd) []),
  (366, eA (.iaload) []),
  (367, eA (.invokevirtual 44) [0, 145, 1, 7, 1060]),
  (370, eA (.if_icmp .eq 904) [1274]),
  (373, eC (.iconst 0) 0),
  (374, eA (.ireturn) []),
  (375, eA (.aload_n 1) [1]),
  (376, eA (.aload_n 0) [0]),
  (377, eA (.iload_n 3) [3]),
  (378, eC (.iconst 1) 1),
  (379, eA (.iadd) []),
  (380, eA (.iaload) []),
  (381, eA (.aload_n 0) [0]),
  (382, eA (.iload_n 3) [3]),
  (383, eC (.iconst 2) 2),
  (384, eA (.iadd) []),
  (385, eA (.iaload) []),
  (386, eA (.invokevirtual 45) [0, 58, 2, 6, 522]),
  (389, eA (.aload_n 2) [2]),
  (390, eA (.aload_n 0) [0]),
  (391, eA (.iload_n 3) [3]),
  (392, eC (.iconst 1) 1),
  (393, eA (.iadd) []),
  (394, eA (.iaload) []),
  (395, eA (.aload_n 0) [0]),
  (396, eA (.iload_n 3) [3]),
  (397, eC (.iconst 2) 2),
  (398, eA (.iadd) []),
  (399, eA (.iaload) []),
  (400, eA (.invokevirtual 48) [0, 152, 2, 7, 1087]),
  (403, eA (.if_icmp .eq 871) [1274]),
  (406, eC (.iconst 0) 0),
  (407, eA (.ireturn) []),
  (408, eA (.aload_n 1) [1]),
  (409, eA (.aload_n 0) [0]),
  (410, eA (.iload_n 3) [3]),
  (411, eC (.iconst 1) 1),
  (412, eA (.iadd) []),
  (413, eA (.iaload) []),
  (414, eA (.invokevirtual 49) [0, 59, 1, 6, 526]),
  (417, eA (.aload_n 2) [2]),
  (418, eA (.aload_n 0) [0]),
  (419, eA (.iload_n 3) [3]),
  (420, eC (.iconst 1) 1),
  (421, eA (.iadd) []),
  (422, eA (.iaload) []),
  (423, eA (.invokevirtual 52) [0, 153, 1, 7, 1095]),
  (426, eA (.if_icmp .eq 848) [1274]),
  (429, eC (.iconst 0) 0),
  (430, eA (.ireturn) []),
  (431, eA (.aload_n 1) [1]),
  (432, eA (.aload_n 0) [0]),
  (433, eA (.iload_n 3) [3]),
  (434, eC (.iconst 1) 1),
  (435, eA (.iadd) []),
  (436, eA (.iaload) []),
  (437, eA (.aload_n 0) [0]),
  (438, eA (.iload_n 3) [3]),
  (439, eC (.iconst 2) 2),
  (440, eA (.iadd) []),
  (441, eA (.iaload) []),
  (442, eA (.aload_n 0) [0]),
  (443, eA (.iload_n 3) [3]),
  (444, eC (.iconst 3) 3),
  (445, eA (.iadd) []),
  (446, eA (.iaload) []),
  (447, eA (.invokevirtual 53) [0, 60, 3, 6, 531]),
  (450, eA (.aload_n 2) [2]),
  (451, eA (.aload_n 0) [0]),
  (452, eA (.iload_n 3) [3]),
  (453, eC (.iconst 1) 1),
  (454, eA (.iadd) []),
  (455, eA (.iaload) []),
  (456, eA (.aload_n 0) [0]),
  (457, eA (.iload_n 3) [3]),
  (458, eC (.iconst 2) 2),
  (459, eA (.iadd) []),
  (460, eA (.iaload) []),
  (461, eA (.aload_n 0) [0]),
  (462, eA (.iload_n 3) [3]),
  (463, eC (.iconst 3) 3),
  (464, eA (.iadd) []),
  (465, eA (.iaload) []),
  (466, eA (.invokevirtual 56) [0, 157, 3, 7, 1099]),
  (469, eA (.if_icmp .eq 805) [1274]),
  (472, eC (.iconst 0) 0),
  (473, eA (.ireturn) []),
  (474, eA (.aload_n 1) [1]),
  (475, eA (.aload_n 0) [0]),
  (476, eA (.iload_n 3) [3]),
  (477, eC (.iconst 1) 1),
  (478, eA (.iadd) []),
  (479, eA (.iaload) []),
  (480, eA (.aload_n 0) [0]),
  (481, eA (.iload_n 3) [3]),
  (482, eC (.iconst 2) 2),
  (483, eA (.iadd) []),
  (484, eA (.iaload) []),
  (485, eA (.invokevirtual 57) [0, 61, 2, 6, 550]),
  (488, eA (.aload_n 2) [2]),
  (489, eA (.aload_n 0) [0]),
  (490, eA (.iload_n 3) [3]),
  (491, eC (.iconst 1) 1),
  (492, eA (.iadd) []),
  (493, eA (.iaload) []),
  (494, eA (.aload_n 0) [0]),
  (495, eA (.iload_n 3) [3]),
  (496, eC (.iconst 2) 2),
  (497, eA (.iadd) []),
  (498, eA (.iaload) []),
  (499, eA (.invokevirtual 60) [0, 158, 2, 7, 1115]),
  (502, eA (.if_icmp .eq 772) [1274]),
  (505, eC (.iconst 0) 0),
  (506, eA (.ireturn) []),
  (507, eA (.aload_n 1) [1]),
  (508, eA (.aload_n 0) [0]),
  (509, eA (.iload_n 3) [3]),
  (510, eC (.iconst 1) 1),
  (511, eA (.iadd) []),
  (512, eA (.iaload) []),
  (513, eA (.aload_n 0) [0]),
  (514, eA (.iload_n 3) [3]),
  (515, eC (.iconst 2) 2),
  (516, eA (.iadd) []),
  (517, eA (.iaload) []),
  (518, eA (.aload_n 0) [0]),
  (519, eA (.iload_n 3) [3]),
  (520, eC (.iconst 3) 3),
  (521, eA (.iadd) []),
  (522, eA (.iaload) []),
  (523, eA (.invokevirtual 61) [0, 62, 3, 6, 564]),
  (526, eA (.aload_n 2) [2]),
  (527, eA (.aload_n 0) [0]),
  (528, eA (.iload_n 3) [3]),
  (529, eC (.iconst 1) 1),
  (530, eA (.iadd) []),
  (531, eA (.iaload) []),
  (532, eA (.aload_n 0) [0]),
  (533, eA (.iload_n 3) [3]),
  (534, eC (.iconst 2) 2),
  (535, eA (.iadd) []),
  (536, eA (.iaload) []),
  (537, eA (.aload_n 0) [0]),
  (538, eA (.iload_n 3) [3]),
  (539, eC (.iconst 3) 3),
  (540, eA (.iadd) []),
  (541, eA (.iaload) []),
  (542, eA (.invokevirtual 65) [0, 160, 3, 7, 1120]),
  (545, eA (.lcmp) []),
  (546, eA (.ifCond .eq 728) [1274]),
  (549, eC (.iconst 0) 0),
  (550, eA (.ireturn) []),
  (551, eA (.aload_n 1) [1]),
  (552, eA (.aload_n 0) [0]),
  (553, eA (.iload_n 3) [3]),
  (554, eC (.iconst 1) 1),
  (555, eA (.iadd) []),
  (556, eA (.iaload) []),
  (557, eA (.aload_n 0) [0]),
  (558, eA (.iload_n 3) [3]),
  (559, eC (.iconst 2) 2),
  (560, eA (.iadd) []),
  (561, eA (.iaload) []),
  (562, eA (.aload_n 0) [0]),
  (563, eA (.iload_n 3) [3]),
  (564, eC (.iconst 3) 3),
  (565, eA (.iadd) []),
  (566, eA (.iaload) []),
  (567, eA (.invokevirtual 66) [0, 63, 3, 6, 575]),
  (570, eA (.aload_n 2) [2]),
  (571, eA (.aload_n 0) [0]),
  (572, eA (.iload_n 3) [3]),
  (573, eC (.iconst 1) 1),
  (574, eA (.iadd) []),
  (575, eA (.iaload) []),
  (576, eA (.aload_n 0) [0]),
  (577, eA (.iload_n 3) [3]),
  (578, eC (.iconst 2) 2),
  (579, eA (.iadd) []),
  (580, eA (.iaload) []),
  (581, eA (.aload_n 0) [0]),
  (582, eA (.iload_n 3) [3]),
  (583, eC (.iconst 3) 3),
  (584, eA (.iadd) []),
  (585, eA (.iaload) []),
  (586, eA (.invokevirtual 69) [0, 166, 3, 7, 1128]),
  (589, eA (.if_icmp .eq 685) [1274]),
  (592, eC (.iconst 0) 0),
  (593, eA (.ireturn) []),
  (594, eA (.aload_n 1) [1]),
  (595, eA (.aload_n 0) [0]),
  (596, eA (.iload_n 3) [3]),
  (597, eC (.iconst 1) 1),
  (598, eA (.iadd) []),
  (599, eA (.iaload) []),
  (600, eA (.aload_n 0) [0]),
  (601, eA (.iload_n 3) [3]),
  (602, eC (.iconst 2) 2),
  (603, eA (.iadd) []),
  (604, eA (.iaload) []),
  (605, eA (.aload_n 0) [0]),
  (606, eA (.iload_n 3) [3]),
  (607, eC (.iconst 3) 3),
  (608, eA (.iadd) []),
  (609, eA (.iaload) []),
  (610, eA (.invokevirtual 70) [0, 64, 3, 6, 587]),
  (613, eA (.aload_n 2) [2]),
  (614, eA (.aload_n 0) [0]),
  (615, eA (.iload_n 3) [3]),
  (616, eC (.iconst 1) 1),
  (617, eA (.iadd) []),
  (618, eA (.iaload) []),
  (619, eA (.aload_n 0) [0]),
  (620, eA (.iload_n 3) [3]),
  (621, eC (.iconst 2) 2),
  (622, eA (.iadd) []),
  (623, eA (.iaload) []),
  (624, eA (.aload_n 0) [0]),
  (625, eA (.iload_n 3) [3]),
  (626, eC (.iconst 3) 3),
  (627, eA (.iadd) []),
  (628, eA (.iaload) []),
  (629, eA (.invokevirtual 73) [0, 167, 3, 7, 1147]),
  (632, eA (.if_icmp .eq 642) [1274]),
  (635, eC (.iconst 0) 0),
  (636, eA (.ireturn) []),
  (637, eA (.aload_n 1) [1]),
  (638, eA (.aload_n 0) [0]),
  (639, eA (.iload_n 3) [3]),
  (640, eC (.iconst 1) 1),
  (641, eA (.iadd) []),
  (642, eA (.iaload) []),
  (643, eA (.aload_n 0) [0]),
  (644, eA (.iload_n 3) [3]),
  (645, eC (.iconst 2) 2),
  (646, eA (.iadd) []),
  (647, eA (.iaload) []),
  (648, eA (.aload_n 0) [0]),
  (649, eA (.iload_n 3) [3]),
  (650, eC (.iconst 3) 3),
  (651, eA (.iadd) []),
  (652, eA (.iaload) []),
  (653, eA (.invokevirtual 74) [0, 65, 3, 6, 607]),
  (656, eA (.aload_n 2) [2]),
  (657, eA (.aload_n 0) [0]),
  (658, eA (.iload_n 3) [3]),
  (659, eC (.iconst 1) 1),
  (660, eA (.iadd) []),
  (661, eA (.iaload) []),
  (662, eA (.aload_n 0) [0]),
  (663, eA (.iload_n 3) [3]),
  (664, eC (.iconst 2) 2),
  (665, eA (.iadd) []),
  (666, eA (.iaload) []),
  (667, eA (.aload_n 0) [0]),
  (668, eA (.iload_n 3) [3]),
  (669, eC (.iconst 3) 3),
  (670, eA (.iadd) []),
  (671, eA (.iaload) []),
  (672, eA (.invokevirtual 77) [0, 172, 3, 7, 1159]),
  (675, eA (.if_icmp .eq 599) [1274]),
  (678, eC (.iconst 0) 0),
  (679, eA (.ireturn) []),
  (680, eA (.aload_n 1) [1]),
  (681, eA (.aload_n 0) [0]),
  (682, eA (.iload_n 3) [3]),
  (683, eC (.iconst 1) 1),
  (684, eA (.iadd) []),
  (685, eA (.iaload) []),
  (686, eA (.aload_n 0) [0]),
  (687, eA (.iload_n 3) [3]),
  (688, eC (.iconst 2) 2),
  (689, eA (.iadd) []),
  (690, eA (.iaload) []),
  (691, eA (.aload_n 0) [0]),
  (692, eA (.iload_n 3) [3]),
  (693, eC (.iconst 3) 3),
  (694, eA (.iadd) []),
  (695, eA (.iaload) []),
  (696, eA (.aload_n 0) [0]),
  (697, eA (.iload_n 3) [3]),
  (698, eC (.iconst 4) 4),
  (699, eA (.iadd) []),
  (700, eA (.iaload) []),
  (701, eA (.invokevirtual 78) [0, 66, 4, 6, 647]),
  (704, eA (.aload_n 2) [2]),
  (705, eA (.aload_n 0) [0]),
  (706, eA (.iload_n 3) [3]),
  (707, eC (.iconst 1) 1),
  (708, eA (.iadd) []),
  (709, eA (.iaload) []),
  (710, eA (.aload_n 0) [0]),
  (711, eA (.iload_n 3) [3]),
  (712, eC (.iconst 2) 2),
  (713, eA (.iadd) []),
  (714, eA (.iaload) []),
  (715, eA (.aload_n 0) [0]),
  (716, eA (.iload_n 3) [3]),
  (717, eC (.iconst 3) 3),
  (718, eA (.iadd) []),
  (719, eA (.iaload) []),
  (720, eA (.aload_n 0) [0]),
  (721, eA (.iload_n 3) [3]),
  (722, eC (.iconst 4) 4),
  (723, eA (.iadd) []),
  (724, eA (.iaload) []),
  (725, eA (.invokevirtual 82) [0, 173, 4, 7, 1181]),
  (728, eA (.lcmp) []),
  (729, eA (.ifCond .eq 545) [1274]),
  (732, eC (.iconst 0) 0),
  (733, eA (.ireturn) []),
  (734, eA (.aload_n 1) [1]),
  (735, eA (.aload_n 0) [0]),
  (736, eA (.iload_n 3) [3]),
  (737, eC (.iconst 1) 1),
  (738, eA (.iadd) []),
  (739, eA (.iaload) []),
  (740, eA (.aload_n 0) [0]),
  (741, eA (.iload_n 3) [3]),
  (742, eC (.iconst 2) 2),
  (743, eA (.iadd) []),
  (744, eA (.iaload) []),
  (745, eA (.aload_n 0) [0]),
  (746, eA (.iload_n 3) [3]),
  (747, eC (.iconst 3) 3),
  (748, eA (.iadd) []),
  (749, eA (.iaload) []),
  (750, eA (.aload_n 0) [0]),
  (751, eA (.iload_n 3) [3]),
  (752, eC (.iconst 4) 4),
  (753, eA (.iadd) []),
  (754, eA (.iaload) []),
  (755, eA (.invokevirtual 83) [0, 67, 4, 6, 651]),
  (758, eA (.aload_n 2) [2]),
  (759, eA (.aload_n 0) [0]),
  (760, eA (.iload_n 3) [3]),
  (761, eC (.iconst 1) 1),
  (762, eA (.iadd) []),
  (763, eA (.iaload) []),
  (764, eA (.aload_n 0) [0]),
  (765, eA (.iload_n 3) [3]),
  (766, eC (.iconst 2) 2),
  (767, eA (.iadd) []),
  (768, eA (.iaload) []),
  (769, eA (.aload_n 0) [0]),
  (770, eA (.iload_n 3) [3]),
  (771, eC (.iconst 3) 3),
  (772, eA (.iadd) []),
  (773, eA (.iaload) []),
  (774, eA (.aload_n 0) [0]),
  (775, eA (.iload_n 3) [3]),
  (776, eC (.iconst 4) 4),
  (777, eA (.iadd) []),
  (778, eA (.iaload) []),
  (779, eA (.invokevirtual 87) [0, 175, 4, 7, 1185]),
  (782, eA (.if_icmp .eq 492) [1274]),
  (785, eC (.iconst 0) 0),
  (786, eA (.ireturn) []),
  (787, eA (.aload_n 1) [1]),
  (788, eA (.aload_n 0) [0]),
  (789, eA (.iload_n 3) [3]),
  (790, eC (.iconst 1) 1),
  (791, eA (.iadd) []),
  (792, eA (.iaload) []),
  (793, eA (.aload_n 0) [0]),
  (794, eA (.iload_n 3) [3]),
  (795, eC (.iconst 2) 2),
  (796, eA (.iadd) []),
  (797, eA (.iaload) []),
  (798, eA (.aload_n 0) [0]),
  (799, eA (.iload_n 3) [3]),
  (800, eC (.iconst 3) 3),
  (801, eA (.iadd) []),
  (802, eA (.iaload) []),
  (803, eA (.aload_n 0) [0]),
  (804, eA (.iload_n 3) [3]),
  (805, eC (.iconst 4) 4),
  (806, eA (.iadd) []),
  (807, eA (.iaload) []),
  (808, eA (.invokevirtual 88) [0, 68, 4, 6, 670]),
  (811, eA (.aload_n 2) [2]),
  (812, eA (.aload_n 0) [0]),
  (813, eA (.iload_n 3) [3]),
  (814, eC (.iconst 1) 1),
  (815, eA (.iadd) []),
  (816, eA (.iaload) []),
  (817, eA (.aload_n 0) [0]),
  (818, eA (.iload_n 3) [3]),
  (819, eC (.iconst 2) 2),
  (820, eA (.iadd) []),
  (821, eA (.iaload) []),
  (822, eA (.aload_n 0) [0]),
  (823, eA (.iload_n 3) [3]),
  (824, eC (.iconst 3) 3),
  (825, eA (.iadd) []),
  (826, eA (.iaload) []),
  (827, eA (.aload_n 0) [0]),
  (828, eA (.iload_n 3) [3]),
  (829, eC (.iconst 4) 4),
  (830, eA (.iadd) []),
  (831, eA (.iaload) []),
  (832, eA (.invokevirtual 91) [0, 178, 4, 7, 1193]),
  (835, eA (.if_icmp .eq 439) [1274]),
  (838, eC (.iconst 0) 0),
  (839, eA (.ireturn) []),
  (840, eA (.aload_n 1) [1]),
  (841, eA (.aload_n 0) [0]),
  (842, eA (.iload_n 3) [3]),
  (843, eC (.iconst 1) 1),
  (844, eA (.iadd) []),
  (845, eA (.iaload) []),
  (846, eA (.aload_n 0) [0]),
  (847, eA (.iload_n 3) [3]),
  (848, eC (.iconst 2) 2),
  (849, eA (.iadd) []),
  (850, eA (.iaload) []),
  (851, eA (.aload_n 0) [0]),
  (852, eA (.iload_n 3) [3]),
  (853, eC (.iconst 3) 3),
  (854, eA (.iadd) []),
  (855, eA (.iaload) []),
  (856, eA (.invokevirtual 92) [0, 69, 3, 6, 690]),
  (859, eA (.aload_n 2) [2]),
  (860, eA (.aload_n 0) [0]),
  (861, eA (.iload_n 3) [3]),
  (862, eC (.iconst 1) 1),
  (863, eA (.iadd) []),
  (864, eA (.iaload) []),
  (865, eA (.aload_n 0) [0]),
  (866, eA (.iload_n 3) [3]),
  (867, eC (.iconst 2) 2),
  (868, eA (.iadd) []),
  (869, eA (.iaload) []),
  (870, eA (.aload_n 0) [0]),
  (871, eA (.iload_n 3) [3]),
  (872, eC (.iconst 3) 3),
  (873, eA (.iadd) []),
  (874, eA (.iaload) []),
  (875, eA (.invokevirtual 95) [0, 179, 3, 7, 1206]),
  (878, eA (.if_icmp .eq 396) [1274]),
  (881, eC (.iconst 0) 0),
  (882, eA (.ireturn) []),
  (883, eA (.aload_n 1) [1]),
  (884, eA (.aload_n 0) [0]),
  (885, eA (.iload_n 3) [3]),
  (886, eC (.iconst 1) 1),
  (887, eA (.iadd) []),
  (888, eA (.iaload) []),
  (889, eA (.aload_n 0) [0]),
  (890, eA (.iload_n 3) [3]),
  (891, eC (.iconst 2) 2),
  (892, eA (.iadd) []),
  (893, eA (.iaload) []),
  (894, eA (.aload_n 0) [0]),
  (895, eA (.iload_n 3) [3]),
  (896, eC (.iconst 3) 3),
  (897, eA (.iadd) []),
  (898, eA (.iaload) []),
  (899, eA (.invokevirtual 96) [0, 70, 3, 6, 694]),
  (902, eA (.aload_n 2) [2]),
  (903, eA (.aload_n 0) [0]),
  (904, eA (.iload_n 3) [3]),
  (905, eC (.iconst 1) 1),
  (906, eA (.iadd) []),
  (907, eA (.iaload) []),
  (908, eA (.aload_n 0) [0]),
  (909, eA (.iload_n 3) [3]),
  (910, eC (.iconst 2) 2),
  (911, eA (.iadd) []),
  (912, eA (.iaload) []),
  (913, eA (.aload_n 0) [0]),
  (914, eA (.iload_n 3) [3]),
  (915, eC (.iconst 3) 3),
  (916, eA (.iadd) []),
  (917, eA (.iaload) []),
  (918, eA (.invokevirtual 99) [0, 181, 3, 7, 1210]),
  (921, eA (.if_icmp .eq 353) [1274]),
  (924, eC (.iconst 0) 0),
  (925, eA (.ireturn) []),
  (926, eA (.aload_n 1) [1]),
  (927, eA (.aload_n 0) [0]),
  (928, eA (.iload_n 3) [3]),
  (929, eC (.iconst 1) 1),
  (930, eA (.iadd) []),
  (931, eA (.iaload) []),
  (932, eA (.aload_n 0) [0]),
  (933, eA (.iload_n 3) [3]),
  (934, eC (.iconst 2) 2),
  (935, eA (.iadd) []),
  (936, eA (.iaload) []),
  (937, eA (.aload_n 0) [0]),
  (938, eA (.iload_n 3) [3]),
  (939, eC (.iconst 3) 3),
  (940, eA (.iadd) []),
  (941, eA (.iaload) []),
  (942, eA (.aload_n 0) [0]),
  (943, eA (.iload_n 3) [3]),
  (944, eC (.iconst 4) 4),
  (945, eA (.iadd) []),
  (946, eA (.iaload) []),
  (947, eA (.aload_n 0) [0]),
  (948, eA (.iload_n 3) [3]),
  (949, eC (.iconst 5) 5),
  (950, eA (.iadd) []),
  (951, eA (.iaload) []),
  (952, eA (.invokevirtual 100) [0, 71, 5, 6, 708]),
  (955, eA (.aload_n 2) [2]),
  (956, eA (.aload_n 0) [0]),
  (957, eA (.iload_n 3) [3]),
  (958, eC (.iconst 1) 1),
  (959, eA (.iadd) []),
  (960, eA (.iaload) []),
  (961, eA (.aload_n 0) [0]),
  (962, eA (.iload_n 3) [3]),
  (963, eC (.iconst 2) 2),
  (964, eA (.iadd) []),
  (965, eA (.iaload) []),
  (966, eA (.aload_n 0) [0]),
  (967, eA (.iload_n 3) [3]),
  (968, eC (.iconst 3) 3),
  (969, eA (.iadd) []),
  (970, eA (.iaload) []),
  (971, eA (.aload_n 0) [0]),
  (972, eA (.iload_n 3) [3]),
  (973, eC (.iconst 4) 4),
  (974, eA (.iadd) []),
  (975, eA (.iaload) []),
  (976, eA (.aload_n 0) [0]),
  (977, eA (.iload_n 3) [3]),
  (978, eC (.iconst 5) 5),
  (979, eA (.iadd) []),
  (980, eA (.iaload) []),
  (981, eA (.invokevirtual 104) [0, 182, 5, 7, 1220]),
  (984, eA (.lcmp) []),
  (985, eA (.ifCond .eq 289) [1274]),
  (988, eC (.iconst 0) 0),
  (989, eA (.ireturn) []),
  (990, eA (.aload_n 1) [1]),
  (991, eA (.invokevirtual 105) [0, 72, 0, 6, 713]),
  (994, eA (.aload_n 2) [2]),
  (995, eA (.invokevirtual 108) [0, 183, 0, 7, 1226]),
  (998, eA (.if_icmp .eq 276) [1274]),
  (1001, eC (.iconst 0) 0),
  (1002, eA (.ireturn) []),
  (1003, eA (.aload_n 1) [1]),
  (1004, eA (.invokevirtual 109) [0, 73, 0, 6, 722]),
  (1007, eA (.aload_n 2) [2]),
  (1008, eA (.invokevirtual 112) [0, 184, 0, 7, 1230]),
  (1011, eA (.if_icmp .eq 263) [1274]),
  (1014, eC (.iconst 0) 0),
  (1015, eA (.ireturn) []),
  (1016, eA (.aload_n 1) [1]),
  (1017, eA (.aload_n 0) [0]),
  (1018, eA (.iload_n 3) [3]),
  (1019, eC (.iconst 1) 1),
  (1020, eA (.iadd) []),
  (1021, eA (.iaload) []),
  (1022, eA (.invokevirtual 113) [0, 74, 1, 6, 726]),
  (1025, eA (.aload_n 2) [2]),
  (1026, eA (.aload_n 0) [0]),
  (1027, eA (.iload_n 3) [3]),
  (1028, eC (.iconst 1) 1),
  (1029, eA (.iadd) []),
  (1030, eA (.iaload) []),
  (1031, eA (.invokevirtual 116) [0, 185, 1, 7, 1234]),
  (1034, eA (.if_icmp .eq 240) [1274]),
  (1037, eC (.iconst 0) 0),
  (1038, eA (.ireturn) []),
  (1039, eA (.aload_n 1) [1]),
  (1040, eA (.aload_n 0) [0]),
  (1041, eA (.iload_n 3) [3]),
  (1042, eC (.iconst 1) 1),
  (1043, eA (.iadd) []),
  (1044, eA (.iaload) []),
  (1045, eA (.aload_n 0) [0]),
  (1046, eA (.iload_n 3) [3]),
  (1047, eC (.iconst 2) 2),
  (1048, eA (.iadd) []),
  (1049, eA (.iaload) []),
  (1050, eA (.aload_n 0) [0]),
  (1051, eA (.iload_n 3) [3]),
  (1052, eC (.iconst 3) 3),
  (1053, eA (.iadd) []),
  (1054, eA (.iaload) []),
  (1055, eA (.invokevirtual 117) [0, 75, 3, 6, 734]),
  (1058, eA (.aload_n 2) [2]),
  (1059, eA (.aload_n 0) [0]),
  (1060, eA (.iload_n 3) [3]),
  (1061, eC (.iconst 1) 1),
  (1062, eA (.iadd) []),
  (1063, eA (.iaload) []),
  (1064, eA (.aload_n 0) [0]),
  (1065, eA (.iload_n 3) [3]),
  (1066, eC (.iconst 2) 2),
  (1067, eA (.iadd) []),
  (1068, eA (.iaload) []),
  (1069, eA (.aload_n 0) [0]),
  (1070, eA (.iload_n 3) [3]),
  (1071, eC (.iconst 3) 3),
  (1072, eA (.iadd) []),
  (1073, eA (.iaload) []),
  (1074, eA (.invokevirtual 120) [0, 187, 3, 7, 1238]),
  (1077, eA (.if_icmp .eq 197) [1274]),
  (1080, eC (.iconst 0) 0),
  (1081, eA (.ireturn) []),
  (1082, eA (.aload_n 1) [1]),
  (1083, eA (.aload_n 0) [0]),
  (1084, eA (.iload_n 3) [3]),
  (1085, eC (.iconst 1) 1),
  (1086, eA (.iadd) []),
  (1087, eA (.iaload) []),
  (1088, eA (.aload_n 0) [0]),
  (1089, eA (.iload_n 3) [3]),
  (1090, eC (.iconst 2) 2),
  (1091, eA (.iadd) []),
  (1092, eA (.iaload) []),
  (1093, eA (.aload_n 0) [0]),
  (1094, eA (.iload_n 3) [3]),
  (1095, eC (.iconst 3) 3),
  (1096, eA (.iadd) []),
  (1097, eA (.iaload) []),
  (1098, eA (.invokevirtual 121) [0, 76, 3, 6, 741]),
  (1101, eA (.aload_n 2) [2]),
  (1102, eA (.aload_n 0) [0]),
  (1103, eA (.iload_n 3) [3]),
  (1104, eC (.iconst 1) 1),
  (1105, eA (.iadd) []),
  (1106, eA (.iaload) []),
  (1107, eA (.aload_n 0) [0]),
  (1108, eA (.iload_n 3) [3]),
  (1109, eC (.iconst 2) 2),
  (1110, eA (.iadd) []),
  (1111, eA (.iaload) []),
  (1112, eA (.aload_n 0) [0]),
  (1113, eA (.iload_n 3) [3]),
  (1114, eC (.iconst 3) 3),
  (1115, eA (.iadd) []),
  (1116, eA (.iaload) []),
  (1117, eA (.invokevirtual 124) [0, 188, 3, 7, 1239]),
  (1120, eA (.if_icmp .eq 154) [1274]),
  (1123, eC (.iconst 0) 0),
  (1124, eA (.ireturn) []),
  (1125, eA (.aload_n 1) [1]),
  (1126, eA (.aload_n 0) [0]),
  (1127, eA (.iload_n 3) [3]),
  (1128, eC (.iconst 1) 1),
  (1129, eA (.iadd) []),
  (1130, eA (.iaload) []),
  (1131, eA (.aload_n 0) [0]),
  (1132, eA (.iload_n 3) [3]),
  (1133, eC (.iconst 2) 2),
  (1134, eA (.iadd) []),
  (1135, eA (.iaload) []),
  (1136, eA (.aload_n 0) [0]),
  (1137, eA (.iload_n 3) [3]),
  (1138, eC (.iconst 3) 3),
  (1139, eA (.iadd) []),
  (1140, eA (.iaload) []),
  (1141, eA (.aload_n 0) [0]),
  (1142, eA (.iload_n 3) [3]),
  (1143, eC (.iconst 4) 4),
  (1144, eA (.iadd) []),
  (1145, eA (.iaload) []),
  (1146, eA (.aload_n 0) [0]),
  (1147, eA (.iload_n 3) [3]),
  (1148, eC (.iconst 5) 5),
  (1149, eA (.iadd) []),
  (1150, eA (.iaload) []),
  (1151, eA (.invokevirtual 125) [0, 77, 5, 6, 749]),
  (1154, eA (.aload_n 2) [2]),
  (1155, eA (.aload_n 0) [0]),
  (1156, eA (.iload_n 3) [3]),
  (1157, eC (.iconst 1) 1),
  (1158, eA (.iadd) []),
  (1159, eA (.iaload) []),
  (1160, eA (.aload_n 0) [0]),
  (1161, eA (.iload_n 3) [3]),
  (1162, eC (.iconst 2) 2),
  (1163, eA (.iadd) []),
  (1164, eA (.iaload) []),
  (1165, eA (.aload_n 0) [0]),
  (1166, eA (.iload_n 3) [3]),
  (1167, eC (.iconst 3) 3),
  (1168, eA (.iadd) []),
  (1169, eA (.iaload) []),
  (1170, eA (.aload_n 0) [0]),
  (1171, eA (.iload_n 3) [3]),
  (1172, eC (.iconst 4) 4),
  (1173, eA (.iadd) []),
  (1174, eA (.iaload) []),
  (1175, eA (.aload_n 0) [0]),
  (1176, eA (.iload_n 3) [3]),
  (1177, eC (.iconst 5) 5),
  (1178, eA (.iadd) []),
  (1179, eA (.iaload) []),
  (1180, eA (.invokevirtual 129) [0, 189, 5, 7, 1243]),
  (1183, eA (.if_icmp .eq 91) [1274]),
  (1186, eC (.iconst 0) 0),
  (1187, eA (.ireturn) []),
  (1188, eA (.aload_n 1) [1]),
  (1189, eA (.aload_n 0) [0]),
  (1190, eA (.iload_n 3) [3]),
  (1191, eC (.iconst 1) 1),
  (1192, eA (.iadd) []),
  (1193, eA (.iaload) []),
  (1194, eA (.aload_n 0) [0]),
  (1195, eA (.iload_n 3) [3]),
  (1196, eC (.iconst 2) 2),
  (1197, eA (.iadd) []),
  (1198, eA (.iaload) []),
  (1199, eA (.aload_n 0) [0]),
  (1200, eA (.iload_n 3) [3]),
  (1201, eC (.iconst 3) 3),
  (1202, eA (.iadd) []),
  (1203, eA (.iaload) []),
  (1204, eA (.aload_n 0) [0]),
  (1205, eA (.iload_n 3) [3]),
  (1206, eC (.iconst 4) 4),
  (1207, eA (.iadd) []),
  (1208, eA (.iaload) []),
  (1209, eA (.invokevirtual 130) [0, 78, 4, 6, 757]),
  (1212, eA (.aload_n 2) [2]),
  (1213, eA (.aload_n 0) [0]),
  (1214, eA (.iload_n 3) [3]),
  (1215, eC (.iconst 1) 1),
  (1216, eA (.iadd) []),
  (1217, eA (.iaload) []),
  (1218, eA (.aload_n 0) [0]),
  (1219, eA (.iload_n 3) [3]),
  (1220, eC (.iconst 2) 2),
  (1221, eA (.iadd) []),
  (1222, eA (.iaload) []),
  (1223, eA (.aload_n 0) [0]),
  (1224, eA (.iload_n 3) [3]),
  (1225, eC (.iconst 3) 3),
  (1226, eA (.iadd) []),
  (1227, eA (.iaload) []),
  (1228, eA (.aload_n 0) [0]),
  (1229, eA (.iload_n 3) [3]),
  (1230, eC (.iconst 4) 4),
  (1231, eA (.iadd) []),
  (1232, eA (.iaload) []),
  (1233, eA (.invokevirtual 133) [0, 190, 4, 7, 1247]),
  (1236, eA (.if_icmp .eq 38) [1274]),
  (1239, eC (.iconst 0) 0),
  (1240, eA (.ireturn) []),
  (1241, eA (.aload_n 1) [1]),
  (1242, eA (.aload_n 0) [0]),
  (1243, eA (.iload_n 3) [3]),
  (1244, eC (.iconst 1) 1),
  (1245, eA (.iadd) []),
  (1246, eA (.iaload) []),
  (1247, eA (.aload_n 0) [0]),
  (1248, eA (.iload_n 3) [3]),
  (1249, eC (.iconst 2) 2),
  (1250, eA (.iadd) []),
  (1251, eA (.iaload) []),
  (1252, eA (.invokevirtual 134) [0, 79, 2, 6, 762]),
  (1255, eA (.aload_n 2) [2]),
  (1256, eA (.aload_n 0) [0]),
  (1257, eA (.iload_n 3) [3]),
  (1258, eC (.iconst 1) 1),
  (1259, eA (.iadd) []),
  (1260, eA (.iaload) []),
  (1261, eA (.aload_n 0) [0]),
  (1262, eA (.iload_n 3) [3]),
  (1263, eC (.iconst 2) 2),
  (1264, eA (.iadd) []),
  (1265, eA (.iaload) []),
  (1266, eA (.invokevirtual 137) [0, 192, 2, 7, 1252]),
  (1269, eA (.if_icmp .eq 5) [1274]),
  (1272, eC (.iconst 0) 0),
  (1273, eA (.ireturn) []),
  (1274, (.iinc 3 6, [3], 6, 0, [])),
  (1277, eA (.goto (-1259)) [18]),
  (1280, eC (.iconst 1) 1),
  (1281, eA (.ireturn) [])]
def hL_law : Hd := (tL_law, 0, false, 2)
def mtL : List (Hd × Nat) := [(hX0_init, 1), (hX0_search, 4), (hX0_clear, 2), (hX0_isInShoe, 3), (hX0_found, 5), (hX0_stepOn, 3), (hX0_takeUp, 5), (hX1_takes, 4), (hX1_takesUnbounded, 4), (hX1_keeps, 3), (hX1_sure, 3), (hX1_isUnder, 2), (hX2_init, 1), (hX2_add, 2), (hX2_read, 2), (hX2_readLevel, 6), (hX2_readNot, 2), (hX2_readOne, 3), (hX2_levelOf, 1), (hX2_stepOf, 1), (hX2_put, 2), (hX2_next, 1), (hX2_nextWord, 3), (hX2_nextNumber, 1), (hX2_isIn, 4), (hX2_isSign, 1), (hX2_isToken, 3), (hX2_wordOf, 1), (hX3_init, 1), (hX3_isSort, 1), (hX3_isMissing, 1), (hX3_has, 2), (hX3_hasRun, 3), (hX3_becomes, 4), (hX3_put, 3), (hX3_all, 1), (hX4_init, 1), (hX4_becomes, 3), (hX4_value, 7), (hX4_joined, 3), (hX5_init, 1), (hX5_has, 2), (hX5_comes, 5), (hX5_becomes, 2), (hX5_allOnCoast, 2), (hX5_allInShoe, 2), (hX5_allInShoes, 1), (hX5_apart, 5), (hX5_oddest, 5), (hX5_poorest, 3), (hX6_init, 2), (hX6_set, 5), (hX6_person, 3), (hX6_told, 3), (hX6_asks, 4), (hX6_feed, 2), (hX6_text, 2), (hX6_force, 3), (hX6_stay, 5), (hX6_shake, 4), (hX6_like, 4), (hX6_odd, 4), (hX6_mean, 4), (hX6_stays, 4), (hX6_pack, 6), (hX6_fit, 5), (hX6_share, 5), (hX6_go, 10), (hX6_tells, 6), (hX6_film, 6), (hX6_drawn, 4), (hX6_chance, 8), (hX6_image, 1), (hX6_back, 1), (hX6_count, 2), (hX6_sheet, 4), (hX6_cell, 5), (hX6_copy, 8), (hX6_people, 9), (hX6_taken, 3), (hX6_isCoast, 1), (hX6_isMark, 1), (hX6_isPart, 1), (hX6_isSheet, 1), (hX6_areTwo, 3), (hX6_isPlace, 2), (hX6_placeOf, 1), (hX6_mostOf, 1), (hX6_areStays, 3), (hX6_valueOf, 5), (hX6_nameAll, 7), (hX6_takesOf, 7), (hX6_takesNow, 4), (hX6_keepsOf, 4), (hX6_sureOf, 5), (hX6_tellsExaminer, 5), (hX6_tellDailyTakes, 6), (hX6_takesByStays, 7), (hX6_findFits, 3), (hX6_neverGoesBack, 6), (hX6_digitsOfWay, 6), (hX6_apartAfter, 8), (hX6_goInThought, 3), (hX6_allAfterDrawn, 6), (hX6_stayInThought, 6), (hX6_firstOtherwise, 12), (hX6_bitsThatTell, 8), (hX6_daysThatTell, 6), (hX6_leastDayThatTells, 5), (hX6_sum, 5), (hX6_lowestTerms, 7), (hX7_in, 6), (hX7_within, 3), (hX7_init, 1), (hX7_spell, 10), (hX7_isOne, 2), (hX7_isCoast, 1), (hX7_isMark, 1), (hX7_isOf, 3), (hX7_mostOf, 1), (hX7_placeOf, 1), (hX7_set, 5), (hX7_lays, 4), (hX7_person, 4), (hX7_told, 3), (hX7_shoeOf, 4), (hX7_coastOf, 4), (hX7_feed, 2), (hX7_byteAt, 2), (hX7_next, 3), (hX7_fail, 1), (hX7_isLetter, 3), (hX7_isWord, 9), (hX7_isSign, 2), (hX7_opens, 1), (hX7_name, 1), (hX7_atom, 2), (hX7_term, 2), (hX7_added, 4), (hX7_not, 4), (hX7_both, 3), (hX7_either, 3), (hX7_part, 3), (hX7_read, 6), (hX7_text, 2), (hX7_force, 3), (hX7_says, 7), (hX7_takesOf, 8), (hX7_keepsOf, 6), (hX7_sureOf, 7), (hX7_asks, 4), (hX7_stays1, 4), (hX7_stay, 3), (hX7_shake, 4), (hX7_apart, 6), (hX7_tellsOf, 5), (hX7_areTwo, 3), (hX7_like, 4), (hX7_odd, 7), (hX7_lowest, 11), (hX7_mean, 4), (hX7_tables, 4), (hX7_daysOn, 2), (hX7_packed, 5), (hX7_wayOf, 4), (hX7_digitsOf, 3), (hX7_stays, 5), (hX7_pack, 7), (hX7_fits, 4), (hX7_lengthOf, 3), (hX7_coastsOf, 3), (hX7_looks, 6), (hX7_fit, 4), (hX7_share, 5), (hX7_goes, 9), (hX7_go, 5), (hX7_firstOther, 5), (hX7_coastSet, 5), (hX7_tells, 12), (hX7_film, 6), (hX7_shoeDrawn, 9), (hX7_drawn, 4), (hX7_chance, 9), (hX7_image, 2), (hX7_back, 2), (hX7_count, 4), (hX7_isSheet, 1), (hX7_sheet, 5), (hX7_cell, 4), (hX7_copy, 9), (hX7_people, 8), (hX7_over, 1), (hX7_taken, 4)]
end
section
/-! a step either ends or goes on at one place -/
def Di (F : Kon → Option Res) : Prop := (∃ c, ∀ K, F K = c) ∨ ∃ (pc : Nat) (ls st : List AV) (s : Mem), ∀ K, F K = K pc ls st s
theorem Di.c (c : Option Res) : Di (fun _ => c) := Or.inl ⟨c, fun _ => rfl⟩
theorem Di.k (pc : Nat) (ls st : List AV) (s : Mem) : Di (fun K => K pc ls st s) := Or.inr ⟨pc, ls, st, s, fun _ => rfl⟩
theorem Di.cond {F G : Kon → Option Res} (b : Bool) (hF : Di F) (hG : Di G) : Di (fun K => cond b (F K) (G K)) := by
  cases b
  · exact hG
  · exact hF
theorem Di.ite {F G : Kon → Option Res} (c : Prop) [h : Decidable c] (hF : Di F) (hG : Di G) : Di (fun K => if c then F K else G K) := by
  by_cases q : c
  · simp only [if_pos q]; exact hF
  · simp only [if_neg q]; exact hG
theorem Di.sw (ls st : List AV) (s : Mem) (d : Nat) (x : Int32) (l : List (Int32 × Nat)) : Di (fun K => nSw (fun t => K t ls st s) d x l) := by
  induction l with
  | nil => exact Di.k d ls st s
  | cons a l ih =>
    obtain ⟨v, t⟩ := a
    exact Di.ite (x = v) (Di.k t ls st s) ih
theorem Di.bnd (r : Option Res) (f : Option AV → Mem → Nat × List AV × List AV × Mem) : Di (fun K => nBnd r (fun v s => K (f v s).1 (f v s).2.1 (f v s).2.2.1 (f v s).2.2.2)) := by
  rcases r with _ | ⟨v, s⟩
  · exact Di.c none
  · exact Di.k _ _ _ _
theorem Di_load (pc len : Nat) (ls st : List AV) (s : Mem) (w i : Nat) : Di (fun K => pLoad K pc len ls st s w i) := by
  unfold pLoad
  rcases nGt ls i with x | x | ⟨k, j⟩
  · exact Di.ite _ (Di.k _ _ _ _) (Di.c _)
  · exact Di.ite _ (Di.k _ _ _ _) (Di.c _)
  · exact Di.ite _ (Di.k _ _ _ _) (Di.c _)
theorem Di_store (pc len : Nat) (ls st : List AV) (s : Mem) (w i : Nat) : Di (fun K => pStore K pc len ls st s w i) := by
  rcases st with _ | ⟨x | x | ⟨k, j⟩, r⟩
  · exact Di.c _
  · exact Di.ite _ (Di.cond _ (Di.cond _ (Di.c _) (Di.k _ _ _ _)) (Di.c _)) (Di.c _)
  · exact Di.ite _ (Di.cond _ (Di.cond _ (Di.c _) (Di.k _ _ _ _)) (Di.c _)) (Di.c _)
  · exact Di.ite _ (Di.cond _ (Di.cond _ (Di.c _) (Di.k _ _ _ _)) (Di.c _)) (Di.c _)
theorem Di_i1 (pc : Nat) (ls st : List AV) (s : Mem) (f : Int32 → AV) : Di (fun K => pI1 K pc ls st s f) := by
  rcases st with _ | ⟨x | x | ⟨k, j⟩, r⟩
  · exact Di.c _
  · exact Di.k _ _ _ _
  · exact Di.c _
  · exact Di.c _
theorem Di_i2 (pc : Nat) (ls st : List AV) (s : Mem) (f : Int32 → Int32 → Int32) : Di (fun K => pI2 K pc ls st s f) := by
  rcases st with _ | ⟨x | x | ⟨k, j⟩, _ | ⟨y | y | ⟨k2, j2⟩, r⟩⟩ <;> first | exact Di.c _ | exact Di.k _ _ _ _
theorem Di_d2 (pc : Nat) (ls st : List AV) (s : Mem) (f : Int32 → Int32 → Int32) : Di (fun K => pD2 K pc ls st s f) := by
  rcases st with _ | ⟨x | x | ⟨k, j⟩, _ | ⟨y | y | ⟨k2, j2⟩, r⟩⟩ <;> first | exact Di.c _ | exact Di.ite _ (Di.c _) (Di.k _ _ _ _)
theorem Di_l2 (pc : Nat) (ls st : List AV) (s : Mem) (f : Int64 → Int64 → AV) : Di (fun K => pL2 K pc ls st s f) := by
  rcases st with _ | ⟨x | x | ⟨k, j⟩, _ | ⟨y | y | ⟨k2, j2⟩, r⟩⟩ <;> first | exact Di.c _ | exact Di.k _ _ _ _
theorem Di_ld (pc : Nat) (ls st : List AV) (s : Mem) (f : Int64 → Int64 → Int64) : Di (fun K => pLD K pc ls st s f) := by
  rcases st with _ | ⟨x | x | ⟨k, j⟩, _ | ⟨y | y | ⟨k2, j2⟩, r⟩⟩ <;> first | exact Di.c _ | exact Di.ite _ (Di.c _) (Di.k _ _ _ _)
theorem Di_if (pc t : Nat) (ls st : List AV) (s : Mem) (c : ClassFile.Cond) : Di (fun K => pIf K pc t ls st s c) := by
  rcases st with _ | ⟨x | x | ⟨k, j⟩, r⟩
  · exact Di.c _
  · cases c <;> exact Di.ite _ (Di.k _ _ _ _) (Di.k _ _ _ _)
  · exact Di.c _
  · exact Di.c _
theorem Di_cmp (pc t : Nat) (ls st : List AV) (s : Mem) (c : ClassFile.Cond) : Di (fun K => pCmp K pc t ls st s c) := by
  rcases st with _ | ⟨x | x | ⟨k, j⟩, _ | ⟨y | y | ⟨k2, j2⟩, r⟩⟩
  all_goals first | exact Di.c _ | (cases c <;> exact Di.ite _ (Di.k _ _ _ _) (Di.k _ _ _ _))
theorem Di_get (pc : Nat) (ls st : List AV) (s : Mem) (c j : Nat) : Di (fun K => pGet K pc ls st s c j) := by
  rcases st with _ | ⟨x | x | ⟨k, i⟩, r⟩
  · exact Di.c _
  · exact Di.c _
  · exact Di.c _
  · refine Di.cond _ ?_ (Di.c _)
    rcases nFt c j with _ | _ | _ | _ | _
    · exact Di.k _ _ _ _
    · exact Di.k _ _ _ _
    · exact Di.k _ _ _ _
    · exact Di.cond _ (Di.k _ _ _ _) (Di.c _)
    · exact Di.k _ _ _ _
theorem Di_put (own : Nat) (ini : Bool) (pc : Nat) (ls st : List AV) (s : Mem) (c j : Nat) : Di (fun K => pPut own ini K pc ls st s c j) := by
  rcases st with _ | ⟨x | x | ⟨k, i⟩, _ | ⟨y | y | ⟨k2, j2⟩, r⟩⟩
  all_goals first
    | exact Di.c _
    | (refine Di.cond _ ?_ (Di.c _)
       rcases nFt c j with _ | _ | _ | _ | _ <;> first | exact Di.c _ | exact Di.k _ _ _ _ | exact Di.cond _ (Di.k _ _ _ _) (Di.c _))
theorem Di_iald (X : Nat × (Nat → Int32)) (pc : Nat) (ls st : List AV) (s : Mem) : Di (fun K => pIald X K pc ls st s) := by
  rcases st with _ | ⟨x | x | ⟨k, j⟩, _ | ⟨y | y | ⟨k2, j2⟩, r⟩⟩
  all_goals first | exact Di.c _ | exact Di.ite _ (Di.cond _ (Di.k _ _ _ _) (Di.c _)) (Di.cond _ (Di.cond _ (Di.k _ _ _ _) (Di.c _)) (Di.c _))
theorem Di_zald (pc : Nat) (ls st : List AV) (s : Mem) : Di (fun K => pZald K pc ls st s) := by
  rcases st with _ | ⟨x | x | ⟨k, j⟩, _ | ⟨y | y | ⟨k2, j2⟩, r⟩⟩
  all_goals first | exact Di.c _ | exact Di.cond _ (Di.cond _ (Di.k _ _ _ _) (Di.c _)) (Di.c _)
theorem Di_aald (pc : Nat) (ls st : List AV) (s : Mem) : Di (fun K => pAald K pc ls st s) := by
  rcases st with _ | ⟨x | x | ⟨k, j⟩, _ | ⟨y | y | ⟨k2, j2⟩, r⟩⟩
  all_goals first | exact Di.c _ | exact Di.cond _ (Di.cond _ (Di.cond _ (Di.k _ _ _ _) (Di.c _)) (Di.c _)) (Di.c _)
theorem Di_iast (pc : Nat) (ls st : List AV) (s : Mem) : Di (fun K => pIast K pc ls st s) := by
  rcases st with _ | ⟨x | x | ⟨k, j⟩, _ | ⟨y | y | ⟨k2, j2⟩, _ | ⟨z | z | ⟨k3, j3⟩, r⟩⟩⟩
  all_goals first | exact Di.c _ | exact Di.cond _ (Di.cond _ (Di.k _ _ _ _) (Di.c _)) (Di.c _)
theorem Di_zast (pc : Nat) (ls st : List AV) (s : Mem) : Di (fun K => pZast K pc ls st s) := by
  rcases st with _ | ⟨x | x | ⟨k, j⟩, _ | ⟨y | y | ⟨k2, j2⟩, _ | ⟨z | z | ⟨k3, j3⟩, r⟩⟩⟩
  all_goals first | exact Di.c _ | exact Di.cond _ (Di.cond _ (Di.k _ _ _ _) (Di.c _)) (Di.c _)
theorem Di_aast (pc : Nat) (ls st : List AV) (s : Mem) : Di (fun K => pAast K pc ls st s) := by
  rcases st with _ | ⟨x | x | ⟨k, j⟩, _ | ⟨y | y | ⟨k2, j2⟩, _ | ⟨z | z | ⟨k3, j3⟩, r⟩⟩⟩
  all_goals first | exact Di.c _ | exact Di.cond _ (Di.cond _ (Di.cond _ (Di.k _ _ _ _) (Di.c _)) (Di.c _)) (Di.c _)
theorem Di_len (X : Nat × (Nat → Int32)) (pc : Nat) (ls st : List AV) (s : Mem) : Di (fun K => pLen X K pc ls st s) := by
  rcases st with _ | ⟨x | x | ⟨k, j⟩, r⟩
  all_goals first | exact Di.c _ | exact Di.ite _ (Di.k _ _ _ _) (Di.cond _ (Di.c _) (Di.k _ _ _ _))
theorem Di_new (pc : Nat) (ls st : List AV) (s : Mem) (c : Nat) : Di (fun K => pNew K pc ls st s c) := Di.cond _ (Di.k _ _ _ _) (Di.c _)
theorem Di_newa (pc len : Nat) (ls st : List AV) (s : Mem) (w : Nat) : Di (fun K => pNewa K pc len ls st s w) := by
  rcases st with _ | ⟨x | x | ⟨k, j⟩, r⟩
  all_goals first | exact Di.c _ | exact Di.cond _ (Di.k _ _ _ _) (Di.c _)
theorem Di_call (cal : Cal) (pc : Nat) (ls st : List AV) (s : Mem) (y n c : Nat) : Di (fun K => pCall cal K pc ls st s y n c) := by
  refine Di.cond _ ?_ (Di.c _)
  rcases c with _ | c
  · exact Di.cond _ (Di.bnd _ (fun v s2 => (pc + 3, ls, v.toList ++ st.drop n, s2))) (Di.c _)
  · rcases st.drop n with _ | ⟨x | x | ⟨k, j⟩, r⟩
    · exact Di.c _
    · exact Di.c _
    · exact Di.c _
    · exact Di.cond _ (Di.bnd _ (fun v s2 => (pc + 3, ls, v.toList ++ r, s2))) (Di.c _)
theorem Di_host (pc : Nat) (ls st : List AV) (s : Mem) (h : Nat) : Di (fun K => pHost K pc ls st s h) := by
  refine Di.cond _ ?_ (Di.c _)
  rcases h with _ | _ | _ | _ | _ | _ | _ | _ | h
  · exact Di.c _
  · rcases st with _ | ⟨x | x | ⟨k, j⟩, _ | ⟨y | y | ⟨k2, j2⟩, r⟩⟩ <;> first | exact Di.c _ | exact Di.k _ _ _ _
  · rcases st with _ | ⟨x | x | ⟨k, j⟩, _ | ⟨y | y | ⟨k2, j2⟩, r⟩⟩ <;> first | exact Di.c _ | exact Di.k _ _ _ _
  · rcases st with _ | ⟨x | x | ⟨k, j⟩, r⟩ <;> first | exact Di.c _ | exact Di.k _ _ _ _
  · rcases st with _ | ⟨x | x | ⟨k, j⟩, _ | ⟨y | y | ⟨k2, j2⟩, _ | ⟨z | z | ⟨k3, j3⟩, _ | ⟨u | u | ⟨k4, j4⟩, _ | ⟨w | w | ⟨k5, j5⟩, r⟩⟩⟩⟩⟩
    all_goals first | exact Di.c _ | exact Di.cond _ (Di.cond _ (Di.k _ _ _ _) (Di.c _)) (Di.c _)
  · rcases st with _ | ⟨x | x | ⟨k, j⟩, r⟩ <;> first | exact Di.c _ | exact Di.ite _ (Di.c _) (Di.k _ _ _ _)
  · rcases st with _ | ⟨x | x | ⟨_ | _ | k, j⟩, r⟩ <;> first | exact Di.c _ | exact Di.cond _ (Di.k _ _ _ _) (Di.c _)
  · rcases st with _ | ⟨x | x | ⟨k, j⟩, _ | ⟨y | y | ⟨_ | _ | k2, j2⟩, r⟩⟩ <;> first | exact Di.c _ | exact Di.cond _ (Di.k _ _ _ _) (Di.c _)
  · exact Di.c _
theorem Di_stepI (X : Nat × (Nat → Int32)) (cal : Cal) (own : Nat) (ini : Bool) (rt : Nat) (e : En) (pc : Nat) (ls st : List AV) (s : Mem) : Di (fun K => nStepI X cal own ini rt e pc ls st s K) := by
  obtain ⟨ins, a, c, cL, sw⟩ := e
  cases ins
  case ldc => rcases h : nAx a 0 with _ | _ | n <;> simp only [nStepI, h] <;> exact Di.k _ _ _ _
  case iinc => rcases h : nGt ls (nAx a 0) with x | x | ⟨k, j⟩ <;> simp only [nStepI, h] <;> first | exact Di.c _ | exact Di.cond _ (Di.cond _ (Di.c _) (Di.k _ _ _ _)) (Di.c _)
  case l2i => rcases st with _ | ⟨x | x | ⟨k, j⟩, r⟩ <;> first | exact Di.c _ | exact Di.k _ _ _ _
  case dup => rcases st with _ | ⟨x, r⟩ <;> first | exact Di.c _ | exact Di.cond _ (Di.c _) (Di.k _ _ _ _)
  case dup2 => rcases st with _ | ⟨x, _ | ⟨y, r⟩⟩ <;> first | exact Di.c _ | exact Di.cond _ (Di.c _) (Di.k _ _ _ _)
  case anewarray => exact Di.cond _ (Di_newa _ _ _ _ _ _) (Di.c _)
  case pop => rcases st with _ | ⟨x, r⟩ <;> first | exact Di.c _ | exact Di.cond _ (Di.c _) (Di.k _ _ _ _)
  case tableswitch => rcases st with _ | ⟨x | x | ⟨k, j⟩, r⟩ <;> first | exact Di.c _ | exact Di.sw _ _ _ _ _ _
  case lookupswitch => rcases st with _ | ⟨x | x | ⟨k, j⟩, r⟩ <;> first | exact Di.c _ | exact Di.sw _ _ _ _ _ _
  case invokevirtual => rcases h : nAx a 0 with _ | n <;> simp only [nStepI, h] <;> first | exact Di_call _ _ _ _ _ _ _ _ | exact Di_host _ _ _ _ _
  case invokespecial => rcases h : nAx a 0 with _ | n <;> simp only [nStepI, h] <;> first | exact Di_call _ _ _ _ _ _ _ _ | exact Di_host _ _ _ _ _
  case invokestatic => rcases h : nAx a 0 with _ | n <;> simp only [nStepI, h] <;> first | exact Di_call _ _ _ _ _ _ _ _ | exact Di_host _ _ _ _ _
  all_goals first
    | exact Di.k _ _ _ _
    | exact Di_load _ _ _ _ _ _ _
    | exact Di_store _ _ _ _ _ _ _
    | exact Di_i1 _ _ _ _ _
    | exact Di_i2 _ _ _ _ _
    | exact Di_d2 _ _ _ _ _
    | exact Di_l2 _ _ _ _ _
    | exact Di_ld _ _ _ _ _
    | exact Di_if _ _ _ _ _ _
    | exact Di_cmp _ _ _ _ _ _
    | exact Di_get _ _ _ _ _ _
    | exact Di_put _ _ _ _ _ _ _ _
    | exact Di_iald _ _ _ _ _
    | exact Di_iast _ _ _ _
    | exact Di_zald _ _ _ _
    | exact Di_zast _ _ _ _
    | exact Di_aald _ _ _ _
    | exact Di_aast _ _ _ _
    | exact Di_len _ _ _ _ _
    | exact Di_new _ _ _ _ _
    | exact Di_newa _ _ _ _ _ _
    | exact Di.c _
theorem Di_step (X : Nat × (Nat → Int32)) (cal : Cal) (h : Hd) (pc : Nat) (ls st : List AV) (s : Mem) : Di (fun K => nStep X cal h pc ls st s K) := by
  unfold nStep
  rcases nLk h.1 pc with _ | e
  · exact Di.c _
  · exact Di_stepI _ _ _ _ _ _ _ _ _ _
section
variable (X : Nat × (Nat → Int32)) (cal : Cal) (h : Hd)
theorem nRun_succ (n pc : Nat) (ls st : List AV) (s : Mem) : nRun X cal h (n + 1) pc ls st s = nStep X cal h pc ls st s (nRun X cal h n) := rfl
theorem nRun_mono : ∀ (n pc : Nat) (ls st : List AV) (s : Mem) (r : Res), nRun X cal h n pc ls st s = some r → nRun X cal h (n + 1) pc ls st s = some r := by
  intro n
  induction n with
  | zero => intro pc ls st s r q; cases q
  | succ n ih =>
    intro pc ls st s r q
    rw [nRun_succ] at q ⊢
    rcases Di_step X cal h pc ls st s with ⟨c, hc⟩ | ⟨pc2, ls2, st2, s2, hc⟩
    · dsimp only at hc; rw [hc] at q ⊢; exact q
    · dsimp only at hc; rw [hc] at q ⊢; exact ih _ _ _ _ _ q
theorem nRun_le {n m pc : Nat} {ls st : List AV} {s : Mem} {r : Res} (q : nRun X cal h n pc ls st s = some r) (hl : n ≤ m) : nRun X cal h m pc ls st s = some r := by
  induction hl with
  | refl => exact q
  | step _ ih => exact nRun_mono X cal h _ _ _ _ _ _ ih
theorem nR_iff {pc : Nat} {ls st : List AV} {s : Mem} {r : Res} : nR X cal h pc ls st s = some r ↔ ∃ n, nRun X cal h n pc ls st s = some r := by
  unfold nR
  by_cases q : ∃ n r, nRun X cal h n pc ls st s = some r
  · rw [dif_pos q]
    have h1 := q.choose_spec.choose_spec
    constructor
    · intro e
      have e2 := Option.some.inj e
      rw [e2] at h1
      exact ⟨_, h1⟩
    · rintro ⟨n, hn⟩
      have a1 := nRun_le X cal h h1 (Nat.le_max_left q.choose n)
      have a2 := nRun_le X cal h hn (Nat.le_max_right q.choose n)
      rw [← a1, a2]
  · rw [dif_neg q]
    constructor
    · intro e; cases e
    · rintro ⟨n, hn⟩; exact absurd ⟨n, r, hn⟩ q
theorem nR_step (pc : Nat) (ls st : List AV) (s : Mem) : nR X cal h pc ls st s = nStep X cal h pc ls st s (nR X cal h) := by
  have key : ∀ r, nR X cal h pc ls st s = some r ↔ nStep X cal h pc ls st s (nR X cal h) = some r := by
    intro r
    rw [nR_iff]
    rcases Di_step X cal h pc ls st s with ⟨c, hc⟩ | ⟨pc2, ls2, st2, s2, hc⟩
    · dsimp only at hc
      rw [hc]
      constructor
      · rintro ⟨n, hn⟩
        have h2 := nRun_mono X cal h _ _ _ _ _ _ hn
        rw [nRun_succ, hc] at h2; exact h2
      · intro e; exact ⟨1, by rw [nRun_succ, hc]; exact e⟩
    · dsimp only at hc
      rw [hc, nR_iff]
      constructor
      · rintro ⟨n, hn⟩
        have h2 := nRun_mono X cal h _ _ _ _ _ _ hn
        rw [nRun_succ, hc] at h2; exact ⟨n, h2⟩
      · rintro ⟨n, hn⟩; exact ⟨n + 1, by rw [nRun_succ, hc]; exact hn⟩
  rcases ha : nR X cal h pc ls st s with _ | r
  · rcases hb : nStep X cal h pc ls st s (nR X cal h) with _ | r2
    · rfl
    · rw [(key r2).mpr hb] at ha; cases ha
  · exact ((key r).mp ha).symm
theorem nR_iter (n pc : Nat) (ls st : List AV) (s : Mem) : nR X cal h pc ls st s = nIter X cal h (nR X cal h) n pc ls st s := by
  induction n generalizing pc ls st s with
  | zero => rfl
  | succ n ih =>
    rw [nR_step]
    show _ = nStep X cal h pc ls st s (nIter X cal h (nR X cal h) n)
    rcases Di_step X cal h pc ls st s with ⟨c, hc⟩ | ⟨pc2, ls2, st2, s2, hc⟩
    · dsimp only at hc; rw [hc, hc]
    · dsimp only at hc; rw [hc, hc]; exact ih _ _ _ _
end
/-- own methods by their numbers, d calls deep at most -/
noncomputable def callN (X : Nat × (Nat → Int32)) : Nat → Cal
  | 0 => fun _ _ _ => none
  | d + 1 => fun y args s => match mtL[y]? with
    | some (h, ml) => cond (Nat.ble (nLay args).length ml) (nR X (callN X d) h 0 (nPad ml (nLay args)) [] s) none
    | none => none
end
section
/-! what the small machine's memory says of the heap -/
/-- the surroundings: the first address of ours, the script's, the text constants', the classes' numbers, the arrays' classes -/
abbrev EnvT : Type := (Nat × Nat) × (Nat → Nat) × va_G × (ClassId × ClassId × ClassId × ClassId)
section
variable (E : EnvT)
def cA (k i : Nat) : Nat := if k = 1 then E.2.1 i else if k = 70 then E.1.2 else E.1.1 + nOff k i
def cV : AV → Value
  | .inl x => .int x
  | .inr (.inl x) => .long x
  | .inr (.inr (k, i)) => .ref (cA E k i)
def fV (s : Mem) (k i j : Nat) : Value := match nFt (nKc k) j with
  | 2 => .long s.2.1
  | 3 => cond (nRok s.2.2 k i j) (.ref (E.1.1 + nOff (nTg k i j).1 (nTg k i j).2)) .null
  | _ => .int (s.1 k i j)
def rV (s : Mem) (k i : Nat) : Nat → Option Nat := fun j => cond (Nat.blt j (nAl k) && nRok s.2.2 k i j) (some (E.1.1 + nOff (nTg k i j).1 (nTg k i j).2)) none
def cE (s : Mem) (k i : Nat) : va_E := match nAk k with
  | 0 => .inr (nKc k - 1, (List.range (nNf (nKc k))).map (fV E s k i))
  | 3 => .inl (cond (k == 13) E.2.2.2.2.2.1 E.2.2.2.2.2.2, nAl k, .inr (.inr (.inr (.inr (rV E s k i)))))
  | 2 => .inl (E.2.2.2.2.1, nAl k, .inl (s.1 k i))
  | _ => .inl (E.2.2.2.1, nAl k, .inl (s.1 k i))
def wL (s : Mem) : va_W := (List.range s.2.2.2.2.2.1).map (fun n => (E.1.1 + n, cE E s (nIdAt n).1 (nIdAt n).2))
end
abbrev nT (s : Mem) : Nat := s.2.2.2.2.2.1
abbrev nU (s : Mem) : Nat := s.2.2.2.2.2.2
/-- a cell that is there -/
def okT (t : Nat) (p : Nat × Nat) : Prop := nIdAt (nOff p.1 p.2) = p ∧ nOff p.1 p.2 < t ∧ (p.1 ≠ 0 ∧ p.1 ≠ 1 ∧ p.1 ≠ 70)
def okV (t : Nat) : AV → Prop
  | .inr (.inr (k, i)) => k = 0 ∨ (k = 1 ∧ i < 13) ∨ k = 70 ∨ okT t (k, i)
  | _ => True
/-- a place of a kind that holds a reference -/
def rsl (k j : Nat) : Bool := (nAk k == 3 && Nat.blt j (nAl k)) || (nKc k != 0 && (Nat.blt j (nNf (nKc k)) && nFt (nKc k) j == 3))
def wfA (A : AL) : Prop := (A.1 = true → 53 ≤ A.2.2.2.1) ∧ (A.2.1 = true → 72 ≤ A.2.2.2.1) ∧ ∀ q ∈ A.2.2.1, okT A.2.2.2.1 (q.1, q.2.1) ∧ okT A.2.2.2.1 (nTg q.1 q.2.1 q.2.2)
theorem idAt_big {n : Nat} (h : 72 ≤ n) : nIdAt n = (60, n - 72) := by
  unfold nIdAt
  rw [if_neg (by omega)]
theorem off_idAt_small : ∀ n, n < 72 → nOff (nIdAt n).1 (nIdAt n).2 = n := by decide +kernel
theorem off_idAt (n : Nat) : nOff (nIdAt n).1 (nIdAt n).2 = n := by
  by_cases h : n < 72
  · exact off_idAt_small n h
  · rw [idAt_big (by omega)]
    show nOb 60 + nOs 60 * (n - 72) = n
    show 72 + 1 * (n - 72) = n
    omega
theorem idAt_ne_small : ∀ n, n < 72 → (nIdAt n).1 ≠ 0 ∧ (nIdAt n).1 ≠ 1 ∧ (nIdAt n).1 ≠ 70 := by decide +kernel
theorem idAt_ne (n : Nat) : (nIdAt n).1 ≠ 0 ∧ (nIdAt n).1 ≠ 1 ∧ (nIdAt n).1 ≠ 70 := by
  by_cases h : n < 72
  · exact idAt_ne_small n h
  · rw [idAt_big (by omega)]
    exact ⟨show (60 : Nat) ≠ 0 by decide, show (60 : Nat) ≠ 1 by decide, show (60 : Nat) ≠ 70 by decide⟩
theorem okT_idAt {n t : Nat} (h : n < t) : okT t (nIdAt n) := ⟨by rw [off_idAt], by rw [off_idAt]; exact h, idAt_ne n⟩
theorem okT.le {t t' : Nat} {p : Nat × Nat} (h : okT t p) (hl : t ≤ t') : okT t' p := ⟨h.1, Nat.lt_of_lt_of_le h.2.1 hl, h.2.2⟩
theorem okV.le {t t' : Nat} {v : AV} (h : okV t v) (hl : t ≤ t') : okV t' v := by
  rcases v with x | x | ⟨k, i⟩
  · trivial
  · trivial
  · rcases h with h | h | h | h
    · exact Or.inl h
    · exact Or.inr (Or.inl h)
    · exact Or.inr (Or.inr (Or.inl h))
    · exact Or.inr (Or.inr (Or.inr (h.le hl)))
theorem okV.kc {t k i : Nat} (h : okV t (vR k i)) (hk : k ≠ 0 ∧ k ≠ 1 ∧ k ≠ 70) : okT t (k, i) := by
  rcases h with h | h | h | h
  · exact absurd h hk.1
  · exact absurd h.1 hk.2.1
  · exact absurd h hk.2.2
  · exact h
theorem kc_ne {k c : Nat} (h : (nKc k == c) = true) (hc : c ≠ 0) : k ≠ 0 ∧ k ≠ 1 ∧ k ≠ 70 := by
  refine ⟨?_, ?_, ?_⟩ <;> rintro rfl <;> exact hc (by have := eq_of_beq h; rw [← this]; rfl)
theorem ak_ne {k w : Nat} (h : (nAk k == w) = true) (hw : w ≠ 0) : k ≠ 0 ∧ k ≠ 1 ∧ k ≠ 70 := by
  refine ⟨?_, ?_, ?_⟩ <;> rintro rfl <;> exact hw (by have := eq_of_beq h; rw [← this]; rfl)
def okTb (t : Nat) (p : Nat × Nat) : Bool := nIdAt (nOff p.1 p.2) == p && (Nat.blt (nOff p.1 p.2) t && (p.1 != 0 && (p.1 != 1 && p.1 != 70)))
theorem okT_of {t : Nat} {p : Nat × Nat} (h : okTb t p = true) : okT t p := by
  simp only [okTb, Bool.and_eq_true, beq_iff_eq, bne_iff_ne, Nat.blt_eq] at h
  exact ⟨h.1, h.2.1, h.2.2⟩
theorem tg_all : ((List.range 72).all fun n => (List.range 49).all fun j => !rsl (nIdAt n).1 j || okTb (if (nIdAt n).1 < 30 then 53 else 72) (nTg (nIdAt n).1 (nIdAt n).2 j)) = true := by decide +kernel
theorem tg_small (n : Nat) (hn : n < 72) (j : Nat) (hj : j < 49) (hr : rsl (nIdAt n).1 j = true) : okT (if (nIdAt n).1 < 30 then 53 else 72) (nTg (nIdAt n).1 (nIdAt n).2 j) := by
  have h := List.all_eq_true.mp (List.all_eq_true.mp tg_all n (List.mem_range.mpr hn)) j (List.mem_range.mpr hj)
  rw [hr] at h
  exact okT_of h
theorem rsl_lt {k j : Nat} (h : rsl k j = true) : j < 49 := by
  unfold rsl at h
  have ha : nAk k = 3 → nAl k < 49 := by
    intro q
    unfold nAk at q
    split at q <;> first | (exact absurd q (by decide)) | decide
  have hn : nNf (nKc k) < 50 := by
    unfold nKc
    split <;> decide
  simp only [Bool.or_eq_true, Bool.and_eq_true, beq_iff_eq, Nat.blt_eq] at h
  rcases h with ⟨h1, h2⟩ | ⟨h1, h2, h3⟩
  · have := ha h1; omega
  · omega
theorem rsl_small {k : Nat} (h : k = 60) (j : Nat) : rsl k j = false := by
  subst h; rfl
theorem wfA.tg {A : AL} (hA : wfA A) {k i j : Nat} (hv : okT A.2.2.2.1 (k, i)) (hr : rsl k j = true) (ho : nRok A k i j = true) : okT A.2.2.2.1 (nTg k i j) := by
  obtain ⟨h1, h2, h3⟩ := hA
  unfold nRok at ho
  rw [Bool.or_eq_true] at ho
  rcases ho with ho | ho
  · have hn : nOff k i < 72 := by
      rcases Nat.lt_or_ge (nOff k i) 72 with q | q
      · exact q
      · have := hv.1
        dsimp only at this
        rw [idAt_big q] at this
        have h6 : k = 60 := (congrArg Prod.fst this).symm
        rw [rsl_small h6] at hr
        cases hr
    have e1 : (nIdAt (nOff k i)).1 = k := congrArg Prod.fst hv.1
    have e2 : (nIdAt (nOff k i)).2 = i := congrArg Prod.snd hv.1
    have h5 := tg_small (nOff k i) hn j (rsl_lt hr) (by rw [e1]; exact hr)
    rw [e1, e2] at h5
    by_cases hk : k < 30
    · rw [if_pos hk] at ho h5
      exact h5.le (h1 ho)
    · rw [if_neg hk] at ho h5
      exact h5.le (h2 ho)
  · exact (h3 (k, i, j) (by simpa using ho)).2
section
variable (E : EnvT)
theorem wL_len (s : Mem) : (wL E s).length = nT s := by simp [wL]
theorem wL_get (s : Mem) {n : Nat} (h : n < nT s) : (wL E s)[n]? = some (E.1.1 + n, cE E s (nIdAt n).1 (nIdAt n).2) := by
  simp [wL, h]
theorem wL_at (s : Mem) {k i : Nat} (h : okT (nT s) (k, i)) : (wL E s)[nOff k i]? = some (cA E k i, cE E s k i) := by
  rw [wL_get E s h.2.1, h.1]
  have : cA E k i = E.1.1 + nOff k i := by
    unfold cA
    rw [if_neg h.2.2.2.1, if_neg h.2.2.2.2]
  rw [this]
theorem wL_in {s : Mem} {n : Nat} {q : Nat × va_E} (h : (wL E s)[n]? = some q) : n < nT s ∧ q = (E.1.1 + n, cE E s (nIdAt n).1 (nIdAt n).2) := by
  have hn : n < nT s := by
    have := (List.getElem?_eq_some_iff.mp h).1
    rw [wL_len] at this
    exact this
  rw [wL_get E s hn] at h
  exact ⟨hn, (Option.some.inj h).symm⟩
theorem wL_D (s : Mem) : va_D (fun q : Nat => E.1.1 ≤ q) (wL E s) := by
  refine ⟨fun i j p q hi hj hpq => ?_, fun n q hn => ?_⟩
  · obtain ⟨-, rfl⟩ := wL_in E hi
    obtain ⟨-, rfl⟩ := wL_in E hj
    dsimp only at hpq
    omega
  · obtain ⟨-, rfl⟩ := wL_in E hn
    exact Nat.le_add_right _ _
theorem wL_set (s s' : Mem) {k i : Nat} (ht : nT s' = nT s) (h : okT (nT s) (k, i)) (ho : ∀ k2 i2, okT (nT s) (k2, i2) → (k2, i2) ≠ (k, i) → cE E s' k2 i2 = cE E s k2 i2) :
    (wL E s).set (nOff k i) (cA E k i, cE E s' k i) = wL E s' := by
  apply List.ext_getElem?
  intro n
  by_cases hn : n < nT s
  · by_cases e : n = nOff k i
    · subst e
      rw [List.getElem?_set_self (by rw [wL_len]; exact hn), wL_at E s' (by rw [ht]; exact h)]
    · rw [List.getElem?_set_ne (Ne.symm e), wL_get E s hn, wL_get E s' (by rw [ht]; exact hn)]
      rw [ho (nIdAt n).1 (nIdAt n).2 (okT_idAt hn)]
      intro q
      apply e
      have h2 := off_idAt n
      rw [congrArg Prod.fst q, congrArg Prod.snd q] at h2
      exact h2.symm
  · rw [List.getElem?_eq_none (by rw [List.length_set, wL_len]; omega), List.getElem?_eq_none (by rw [wL_len, ht]; omega)]
theorem wL_push (s s' : Mem) (ht : nT s' = nT s + 1) (ho : ∀ k2 i2, okT (nT s) (k2, i2) → cE E s' k2 i2 = cE E s k2 i2) :
    wL E s ++ [(E.1.1 + nT s, cE E s' (nIdAt (nT s)).1 (nIdAt (nT s)).2)] = wL E s' := by
  apply List.ext_getElem?
  intro n
  rcases Nat.lt_trichotomy n (nT s) with hn | hn | hn
  · rw [List.getElem?_append_left (by rw [wL_len]; exact hn), wL_get E s hn, wL_get E s' (by rw [ht]; omega), ho (nIdAt n).1 (nIdAt n).2 (okT_idAt hn)]
  · subst hn
    rw [List.getElem?_append_right (by rw [wL_len]; exact Nat.le_refl _), wL_len, Nat.sub_self, wL_get E s' (by rw [ht]; omega)]
    rfl
  · rw [List.getElem?_eq_none (by rw [List.length_append, wL_len]; simp; omega), List.getElem?_eq_none (by rw [wL_len, ht]; omega)]
/-- the heap holds what the memory says -/
def WD (s : Mem) (H : Heap) : Prop := va_P E.2.2.1 vwCl (wL E s) H ∧ H.size = E.1.1 + nT s ∧ wfA s.2.2
end
end
section
/-! memory changes and the heap's list of cells -/
theorem ft2 {k j : Nat} (hj : j < nNf (nKc k)) (h : nFt (nKc k) j = 2) : k = 30 := by
  unfold nKc at hj h
  split at hj
  all_goals first
    | rfl
    | (exfalso; revert h; revert hj; revert j; decide)
    | (exact absurd hj (Nat.not_lt_zero _))
theorem kc_ak {k : Nat} (h : nKc k ≠ 0) : nAk k = 0 := by
  unfold nKc at h
  split at h
  all_goals first | rfl | exact absurd rfl h
theorem ak_kc {k : Nat} (h : nAk k ≠ 0) : nKc k = 0 := by
  rcases Nat.eq_zero_or_pos (nKc k) with q | q
  · exact q
  · exact absurd (kc_ak (by omega)) h
theorem map_set {N j : Nat} {f g : Nat → Value} {v : Value} (h1 : g j = v) (h2 : ∀ x, x < N → x ≠ j → g x = f x) : ((List.range N).map f).set j v = (List.range N).map g := by
  apply List.ext_getElem?
  intro n
  by_cases hn : n < N
  · by_cases e : n = j
    · subst e
      rw [List.getElem?_set_self (by simpa using hn)]
      simp [hn, h1]
    · rw [List.getElem?_set_ne (Ne.symm e)]
      simp [hn, h2 n hn e]
  · rw [List.getElem?_eq_none (by simp; omega), List.getElem?_eq_none (by simp; omega)]
section
variable (E : EnvT)
theorem cE_ext {s s' : Mem} {k i : Nat} (h1 : ∀ j, s'.1 k i j = s.1 k i j) (h2 : k = 30 → s'.2.1 = s.2.1) (h3 : ∀ j, rsl k j = true → nRok s'.2.2 k i j = nRok s.2.2 k i j) : cE E s' k i = cE E s k i := by
  unfold cE
  have e1 : s'.1 k i = s.1 k i := funext h1
  split
  · congr 2
    apply List.map_congr_left
    intro j hj
    have hj := List.mem_range.mp hj
    unfold fV
    split
    · rename_i h
      rw [h2 (ft2 hj h)]
    · rename_i h
      rw [h3 j (by
        have hc : nKc k ≠ 0 := by intro q; rw [q] at hj; exact absurd hj (Nat.not_lt_zero _)
        unfold rsl
        simp [hc, h, hj])]
    · rw [h1]
  · rename_i h
    have e2 : rV E s' k i = rV E s k i := by
      funext j
      unfold rV
      by_cases hj : j < nAl k
      · rw [h3 j (by unfold rsl; simp [h, hj])]
      · have hb : Nat.blt j (nAl k) = false := by rw [Bool.eq_false_iff]; intro q; exact hj (Nat.blt_eq.mp q)
        rw [hb]; rfl
    rw [e2]
  · rw [e1]
  · rw [e1]
theorem WD.put {s s' : Mem} {k i : Nat} {H H1 : Heap} (hW : WD E s H) (hv : okT (nT s) (k, i)) (ht : nT s' = nT s) (ho : ∀ k2 i2, okT (nT s) (k2, i2) → (k2, i2) ≠ (k, i) → cE E s' k2 i2 = cE E s k2 i2) (hA : wfA s'.2.2)
    (hP : va_P E.2.2.1 vwCl ((wL E s).set (nOff k i) (cA E k i, cE E s' k i)) H1) (hz : H1.size ≤ H.size) : WD E s' H1 := by
  rw [wL_set E s s' ht hv ho] at hP
  refine ⟨hP, ?_, hA⟩
  have h1 := (hP (nOff k i) _ (wL_at E s' (by rw [ht]; exact hv))).lt
  have hpos : 0 < nT s := Nat.lt_of_le_of_lt (Nat.zero_le _) hv.2.1
  have h2 := (hP (nT s - 1) _ (wL_get E s' (n := nT s - 1) (by rw [ht]; omega))).lt
  dsimp only at h2
  have h3 := hW.2.1
  rw [ht]
  omega
theorem WD.new {s s' : Mem} {H H1 : Heap} {q : Nat} {x : va_E} (hW : WD E s H) (ht : nT s' = nT s + 1) (ho : ∀ k2 i2, okT (nT s) (k2, i2) → cE E s' k2 i2 = cE E s k2 i2) (hA : wfA s'.2.2) (hx : x = cE E s' (nIdAt (nT s)).1 (nIdAt (nT s)).2)
    (hP : va_P E.2.2.1 vwCl (wL E s ++ [(q, x)]) H1) (hD : va_D (fun q : Nat => E.1.1 ≤ q) (wL E s ++ [(q, x)])) (hz : H1.size ≤ H.size + 1) : WD E s' H1 ∧ q = cA E (nIdAt (nT s)).1 (nIdAt (nT s)).2 := by
  have e0 : (wL E s ++ [(q, x)])[nT s]? = some (q, x) := by
    rw [List.getElem?_append_right (by rw [wL_len]; exact Nat.le_refl _), wL_len, Nat.sub_self]
    rfl
  have hl := (hP (nT s) _ e0).lt
  have hb := hD.2 (nT s) _ e0
  dsimp only at hl hb
  have h3 := hW.2.1
  have hq : q = E.1.1 + nT s := by
    rcases Nat.lt_or_ge q (E.1.1 + nT s) with hc | hc
    · exfalso
      have hn : q - E.1.1 < nT s := by omega
      have e1 : (wL E s ++ [(q, x)])[q - E.1.1]? = some (E.1.1 + (q - E.1.1), cE E s (nIdAt (q - E.1.1)).1 (nIdAt (q - E.1.1)).2) := by
        rw [List.getElem?_append_left (by rw [wL_len]; exact hn), wL_get E s hn]
      have := hD.1 _ _ _ _ e1 e0 (by dsimp only; omega)
      omega
    · omega
  subst hx
  subst hq
  rw [wL_push E s s' ht ho] at hP
  refine ⟨⟨hP, by omega, hA⟩, ?_⟩
  unfold cA
  have hne := idAt_ne (nT s)
  rw [if_neg hne.2.1, if_neg hne.2.2, off_idAt]
end
theorem wfA.congr {A B : AL} (h : wfA A) (hA : B = A) : wfA B := hA ▸ h
/-- a reference is set -/
theorem rset_t (A : AL) (k i j : Nat) : (nRset A k i j).2.2.2 = A.2.2.2 := by
  unfold nRset
  dsimp only
  cases nAllC.all ((k, i, j) :: A.2.2.1).contains <;> cases nAllM.all ((k, i, j) :: A.2.2.1).contains <;> rfl
def okTl (t : Nat) (l : List (Nat × Nat × Nat)) : Prop := ∀ q ∈ l, okT t (q.1, q.2.1) ∧ okT t (nTg q.1 q.2.1 q.2.2)
theorem okTl.filter {t : Nat} {l : List (Nat × Nat × Nat)} (h : okTl t l) (p : Nat × Nat × Nat → Bool) : okTl t (l.filter p) := fun q hq => h q (List.mem_filter.mp hq).1
theorem rset_wf {A : AL} (hA : wfA A) {k i j : Nat} (h1 : okT A.2.2.2.1 (k, i)) (h2 : okT A.2.2.2.1 (nTg k i j)) : wfA (nRset A k i j) := by
  have hl : okTl A.2.2.2.1 ((k, i, j) :: A.2.2.1) := by
    intro q hq
    rcases List.mem_cons.mp hq with rfl | hq
    · exact ⟨h1, h2⟩
    · exact hA.2.2 q hq
  unfold nRset
  dsimp only
  cases hc : nAllC.all ((k, i, j) :: A.2.2.1).contains
  · cases hm : nAllM.all ((k, i, j) :: A.2.2.1).contains
    · exact ⟨hA.1, hA.2.1, hl⟩
    · simp only [cond_true, cond_false]
      refine ⟨hA.1, fun _ => ?_, fun q hq => hl q (List.mem_filter.mp hq).1⟩
      have h3 := List.all_eq_true.mp hm (30, 0, 48) (by decide)
      have h4 := (hl (30, 0, 48) (by simpa using h3)).2.2.1
      exact h4
  · simp only [cond_true]
    refine ⟨fun _ => ?_, hA.2.1, fun q hq => hl q (List.mem_filter.mp hq).1⟩
    have h3 := List.all_eq_true.mp hc (18, 3, 2) (by decide)
    have h4 := (hl (18, 3, 2) (by simpa using h3)).2.2.1
    exact h4
theorem allC_has : ((List.range 72).all fun n => (List.range 49).all fun j => !(rsl (nIdAt n).1 j && Nat.blt (nIdAt n).1 30) || nAllC.contains ((nIdAt n).1, (nIdAt n).2, j)) = true := by decide +kernel
theorem allM_has : ((List.range 72).all fun n => (List.range 49).all fun j => !(rsl (nIdAt n).1 j && Nat.ble 30 (nIdAt n).1) || nAllM.contains ((nIdAt n).1, (nIdAt n).2, j)) = true := by decide +kernel
theorem rsl_small2 {t k i j : Nat} (hv : okT t (k, i)) (hr : rsl k j = true) : nOff k i < 72 := by
  rcases Nat.lt_or_ge (nOff k i) 72 with q | q
  · exact q
  · have := hv.1
    dsimp only at this
    rw [idAt_big q] at this
    have h6 : k = 60 := (congrArg Prod.fst this).symm
    rw [rsl_small h6] at hr
    cases hr
theorem inC {t k i j : Nat} (hv : okT t (k, i)) (hr : rsl k j = true) (hk : k < 30) : (k, i, j) ∈ nAllC := by
  have hn := rsl_small2 hv hr
  have h := List.all_eq_true.mp (List.all_eq_true.mp allC_has (nOff k i) (List.mem_range.mpr hn)) j (List.mem_range.mpr (rsl_lt hr))
  have e1 : (nIdAt (nOff k i)).1 = k := congrArg Prod.fst hv.1
  have e2 : (nIdAt (nOff k i)).2 = i := congrArg Prod.snd hv.1
  rw [e1, e2, hr, Nat.blt_eq.mpr hk] at h
  simpa using h
theorem inM {t k i j : Nat} (hv : okT t (k, i)) (hr : rsl k j = true) (hk : 30 ≤ k) : (k, i, j) ∈ nAllM := by
  have hn := rsl_small2 hv hr
  have h := List.all_eq_true.mp (List.all_eq_true.mp allM_has (nOff k i) (List.mem_range.mpr hn)) j (List.mem_range.mpr (rsl_lt hr))
  have e1 : (nIdAt (nOff k i)).1 = k := congrArg Prod.fst hv.1
  have e2 : (nIdAt (nOff k i)).2 = i := congrArg Prod.snd hv.1
  rw [e1, e2, hr, Nat.ble_eq.mpr hk] at h
  simpa using h
theorem rok_iff (A : AL) (k i j : Nat) : nRok A k i j = true ↔ (if k < 30 then A.1 else A.2.1) = true ∨ (k, i, j) ∈ A.2.2.1 := by
  unfold nRok
  rw [Bool.or_eq_true, List.contains_iff_mem]
theorem rset_rok {A : AL} {k i j t k2 i2 j2 : Nat} (hv : okT t (k2, i2)) (hr : rsl k2 j2 = true) : nRok (nRset A k i j) k2 i2 j2 = true ↔ (k2, i2, j2) = (k, i, j) ∨ nRok A k2 i2 j2 = true := by
  rw [rok_iff, rok_iff]
  unfold nRset
  dsimp only
  cases hc : nAllC.all ((k, i, j) :: A.2.2.1).contains
  · cases hm : nAllM.all ((k, i, j) :: A.2.2.1).contains
    · simp only [cond_false, List.mem_cons]
      constructor
      · rintro (h | h | h)
        · exact Or.inr (Or.inl h)
        · exact Or.inl h
        · exact Or.inr (Or.inr h)
      · rintro (h | h | h)
        · exact Or.inr (Or.inl h)
        · exact Or.inl h
        · exact Or.inr (Or.inr h)
    · simp only [cond_false, cond_true]
      by_cases hk : k2 < 30
      · rw [if_pos hk, if_pos hk, List.mem_filter, List.mem_cons, Nat.blt_eq]
        constructor
        · rintro (h | ⟨h | h, -⟩)
          · exact Or.inr (Or.inl h)
          · exact Or.inl h
          · exact Or.inr (Or.inr h)
        · rintro (h | h | h)
          · exact Or.inr ⟨Or.inl h, hk⟩
          · exact Or.inl h
          · exact Or.inr ⟨Or.inr h, hk⟩
      · rw [if_neg hk, if_neg hk]
        have h3 := List.all_eq_true.mp hm _ (inM hv hr (by omega))
        rw [List.contains_iff_mem, List.mem_cons] at h3
        constructor
        · intro _
          rcases h3 with h | h
          · exact Or.inl h
          · exact Or.inr (Or.inr h)
        · intro _
          exact Or.inl rfl
  · simp only [cond_true]
    by_cases hk : k2 < 30
    · rw [if_pos hk, if_pos hk]
      have h3 := List.all_eq_true.mp hc _ (inC hv hr hk)
      rw [List.contains_iff_mem, List.mem_cons] at h3
      constructor
      · intro _
        rcases h3 with h | h
        · exact Or.inl h
        · exact Or.inr (Or.inr h)
      · intro _
        exact Or.inl rfl
    · rw [if_neg hk, if_neg hk, List.mem_filter, List.mem_cons, Nat.ble_eq]
      constructor
      · rintro (h | ⟨h | h, -⟩)
        · exact Or.inr (Or.inl h)
        · exact Or.inl h
        · exact Or.inr (Or.inr h)
      · rintro (h | h | h)
        · exact Or.inr ⟨Or.inl h, by omega⟩
        · exact Or.inl h
        · exact Or.inr ⟨Or.inr h, by omega⟩
theorem rset_rok_eq {A : AL} {k i j t k2 i2 j2 : Nat} (hv : okT t (k2, i2)) (hr : rsl k2 j2 = true) (hn : (k2, i2, j2) ≠ (k, i, j)) : nRok (nRset A k i j) k2 i2 j2 = nRok A k2 i2 j2 := by
  have h := rset_rok (A := A) (k := k) (i := i) (j := j) hv hr
  cases h1 : nRok A k2 i2 j2
  · cases h2 : nRok (nRset A k i j) k2 i2 j2
    · rfl
    · rcases h.mp h2 with q | q
      · exact absurd q hn
      · rw [h1] at q; cases q
  · exact h.mpr (Or.inr h1)
/-- a cell that is new has no reference set -/
theorem new_rok {A : AL} (hA : wfA A) {j : Nat} (hr : rsl (nIdAt A.2.2.2.1).1 j = true) : nRok A (nIdAt A.2.2.2.1).1 (nIdAt A.2.2.2.1).2 j = false := by
  cases h : nRok A (nIdAt A.2.2.2.1).1 (nIdAt A.2.2.2.1).2 j
  · rfl
  · exfalso
    rw [rok_iff] at h
    have hv : okT (A.2.2.2.1 + 1) ((nIdAt A.2.2.2.1).1, (nIdAt A.2.2.2.1).2) := okT_idAt (Nat.lt_succ_self _)
    have hn := rsl_small2 hv hr
    rw [off_idAt] at hn
    rcases h with h | h
    · have key : ∀ n, n < 72 → ((nIdAt n).1 < 30 ↔ n < 53) := by decide +kernel
      by_cases hk : (nIdAt A.2.2.2.1).1 < 30
      · rw [if_pos hk] at h
        have h1 := hA.1 h
        have h2 := (key _ hn).mp hk
        omega
      · rw [if_neg hk] at h
        have h1 := hA.2.1 h
        omega
    · have h1 := (hA.2.2 _ h).1.2.1
      dsimp only at h1
      rw [off_idAt] at h1
      omega
theorem wfA.up {A : AL} (hA : wfA A) (u : Nat) : wfA (A.1, A.2.1, A.2.2.1, A.2.2.2.1 + 1, u) := by
  refine ⟨fun h => Nat.le_succ_of_le (hA.1 h), fun h => Nat.le_succ_of_le (hA.2.1 h), fun q hq => ?_⟩
  exact ⟨(hA.2.2 q hq).1.le (Nat.le_succ _), (hA.2.2 q hq).2.le (Nat.le_succ _)⟩
end
section
/-! the surroundings of a method's run, its locals, and what it is to go on well -/
def gT : List Cond := lw_tbl.filter goodWord
theorem gT_in {w : Cond} (i : Nat) (h : lw_tbl[i]? = some w) (hg : goodWord w = true) : w ∈ gT := List.mem_filter.mpr ⟨List.mem_of_getElem? h, hg⟩
theorem gT_good {w : Cond} (h : w ∈ gT) : goodWord w = true := (List.mem_filter.mp h).2
def nestL : List Cond := [.methodLinkNest RX6 9 yX5_init RX6, .methodLinkNest RX6 25 yX2_init RX6, .methodLinkNest RX6 48 yX0_init RX6, .methodLinkNest RX6 66 yX4_init RX6, .methodLinkNest RX6 67 yX3_init RX6, .methodLinkNest RX5 43 yX6_sum RX6, .methodLinkNest RX3 22 yX6_sum RX6]
def strO : List (String × Nat × String) := [(RX6, 68, "takes grains ; keeps 50 ; sure grains ;"), (RX2, 98, "grains"), (RX2, 100, "mark"), (RX2, 102, "number"), (RX2, 104, "day"), (RX2, 106, "coast"), (RX2, 108, "shoe"), (RX2, 110, "takes"), (RX2, 112, "keeps"), (RX2, 114, "sure"), (RX2, 116, "or"), (RX2, 118, "and"), (RX2, 120, "not")]
def strN : List Nat := nStrL.map List.length
def strB : List (List Int32) := nStrL.map (fun l => l.map Int32.ofNat)
def tysF (E : EnvT) : List (ClassId × FieldType) := [(E.2.2.2.1, .int), (E.2.2.2.2.1, .boolean), (E.2.2.2.2.2.1, .object RX4), (E.2.2.2.2.2.2, .object RX3)]
def aF (E : EnvT) : Nat → Prop := fun q => E.1.1 ≤ q
def KF (E : EnvT) (X : Nat × (Nat → Int32)) (U : State) : Prop := va_K E.2.2.1 vwCl (tysF E) U ∧ (∀ w ∈ nestL, va_Nw w U) ∧ (va_AO RX4 U ∧ va_AO RX3 U) ∧ (∀ (i : Nat) (q : String × Nat × String), strO[i]? = some q → vk_R q.1 q.2.1 q.2.2 (E.2.1 i) U) ∧
  (∃ adV, vk_S 13 strN strB E.2.1 adV (aF E) U U.heap) ∧ va_Z "java/lang/String" "COMPACT_STRINGS" "Z" (.int 1) (aF E) U U.heap ∧ va_Zq "jdk/internal/util/Preconditions" "SIOOBE_FORMATTER" "Ljava/util/function/BiFunction;" (aF E) U U.heap ∧
  va_X E.1.2 X.1 X.2 U U.heap ∧ E.1.2 < E.1.1 ∧ E.1.1 ≤ U.heap.size ∧ X.1 < 2 ^ 31
theorem KF.moved {E : EnvT} {X : Nat × (Nat → Int32)} {s U : State} (h : KF E X s) (hW : s.WarmedH U.vm) (hh : ∀ a, a < E.1.1 → U.heap[a]? = s.heap[a]?) (hz : E.1.1 ≤ U.heap.size) : KF E X U := by
  obtain ⟨h1, h2, ⟨h3, h3b⟩, h4, ⟨adV, h5⟩, h6, h7, h8, h9, -, h11⟩ := h
  have hk : ∀ a : Nat, a < s.heap.size → ¬ aF E a → U.heap[a]? = s.heap[a]? := fun a _ h => hh a (Nat.lt_of_not_le h)
  refine ⟨va_K.moved hW.alike h1, ?_, ⟨va_AO.moved hW.alike h3, va_AO.moved hW.alike h3b⟩, fun i q hq => vk_R.warm hW (h4 i q hq), ⟨adV, (h5.moved hW.alike).kept hk⟩, (h6.moved hW.alike).kept hk, (h7.moved hW.alike).kept hk, (h8.moved hW.alike).kept (hh _ h9), h9, hz, h11⟩
  intro w hw
  have h0 := h2 w hw
  simp only [nestL, List.mem_cons, List.not_mem_nil, or_false] at hw
  rcases hw with rfl | rfl | rfl | rfl | rfl | rfl | rfl <;> exact va_Nw.warmM hW h0
theorem KF.same {E : EnvT} {X : Nat × (Nat → Int32)} {s U : State} (h : KF E X s) (hv : U.vm = s.vm) (hh : U.heap = s.heap) : KF E X U := by
  obtain ⟨h1, h2, ⟨h3, h3b⟩, h4, ⟨adV, h5⟩, h6, h7, h8, h9, h10, h11⟩ := h
  have hal : s.vm.Alike U.vm := by rw [hv]; exact Vm.Alike.refl _
  have hk : ∀ a : Nat, a < s.heap.size → ¬ aF E a → U.heap[a]? = s.heap[a]? := fun a _ _ => by rw [hh]
  refine ⟨va_K.moved hal h1, ?_, ⟨va_AO.moved hal h3, va_AO.moved hal h3b⟩, fun i q hq => vk_R.same hv (h4 i q hq), ⟨adV, (h5.moved hal).kept hk⟩, (h6.moved hal).kept hk, (h7.moved hal).kept hk, (h8.moved hal).kept (by rw [hh]), h9, by rw [hh]; exact h10, h11⟩
  intro w hw
  have h0 := h2 w hw
  simp only [nestL, List.mem_cons, List.not_mem_nil, or_false] at hw
  rcases hw with rfl | rfl | rfl | rfl | rfl | rfl | rfl <;> exact va_Nw.same rfl hv.symm h0
/-! locals -/
def isX : AV → Bool
  | .inr (.inr (0, _)) => true
  | _ => false
def asc (E : EnvT) : Nat → List AV → List (Nat × Value)
  | _, [] => []
  | i, v :: l => cond (isX v) (asc E (i + 1) l) ((i, cV E v) :: asc E (i + 1) l)
theorem mem_asc {E : EnvT} {j : Nat} {y : Value} : ∀ (ls : List AV) (i : Nat), (j, y) ∈ asc E i ls ↔ ∃ n v, ls[n]? = some v ∧ isX v = false ∧ j = i + n ∧ y = cV E v
  | [], i => by simp [asc]
  | a :: l, i => by
    have ih := mem_asc (E := E) (j := j) (y := y) l (i + 1)
    constructor
    · intro h
      have h2 : (isX a = false ∧ (j, y) = (i, cV E a)) ∨ (j, y) ∈ asc E (i + 1) l := by
        cases ha : isX a
        · rw [asc, ha] at h
          rcases List.mem_cons.mp h with h | h
          · exact Or.inl ⟨rfl, h⟩
          · exact Or.inr h
        · rw [asc, ha] at h
          exact Or.inr h
      rcases h2 with ⟨h2, h3⟩ | h2
      · exact ⟨0, a, rfl, h2, congrArg Prod.fst h3, congrArg Prod.snd h3⟩
      · obtain ⟨n, v, q1, q2, q3, q4⟩ := ih.mp h2
        exact ⟨n + 1, v, by simpa using q1, q2, by omega, q4⟩
    · rintro ⟨n, v, q1, q2, q3, q4⟩
      rcases n with _ | n
      · have q1 : a = v := Option.some.inj q1
        subst q1
        rw [asc, q2, q3, q4]
        exact List.mem_cons_self
      · have h2 := ih.mpr ⟨n, v, by simpa using q1, q2, by omega, q4⟩
        cases ha : isX a
        · rw [asc, ha]; exact List.mem_cons_of_mem _ h2
        · rw [asc, ha]; exact h2
theorem gt_some : ∀ (ls : List AV) (i : Nat) {v : AV}, nGt ls i = v → isX v = false → ls[i]? = some v
  | [], i, v, h, hx => by rw [nGt] at h; rw [← h] at hx; cases hx
  | a :: l, 0, v, h, _ => by rw [nGt] at h; rw [h]; rfl
  | a :: l, n + 1, v, h, hx => by rw [nGt] at h; simpa using gt_some l n h hx
theorem gt_get : ∀ (ls : List AV) (i : Nat) {v : AV}, ls[i]? = some v → nGt ls i = v
  | [], i, v, h => by simp at h
  | a :: l, 0, v, h => by rw [nGt]; exact Option.some.inj h
  | a :: l, n + 1, v, h => by rw [nGt]; exact gt_get l n (by simpa using h)
theorem pt_len : ∀ (ls : List AV) (i : Nat) (v : AV), (nPt ls i v).length = ls.length
  | [], _, _ => rfl
  | _ :: _, 0, _ => rfl
  | _ :: l, n + 1, v => by rw [nPt, List.length_cons, List.length_cons, pt_len l n v]
theorem pt_get : ∀ (ls : List AV) (i : Nat) (v : AV) (j : Nat), (nPt ls i v)[j]? = if j = i ∧ i < ls.length then some v else ls[j]?
  | [], i, v, j => by simp [nPt]
  | a :: l, 0, v, j => by
    rcases j with _ | j
    · simp [nPt]
    · simp [nPt]
  | a :: l, n + 1, v, j => by
    rcases j with _ | j
    · simp [nPt]
    · rw [nPt, List.getElem?_cons_succ, pt_get l n v j, List.getElem?_cons_succ, List.length_cons]
      by_cases h : j = n ∧ n < l.length
      · rw [if_pos h, if_pos (by omega)]
      · rw [if_neg h, if_neg (by omega)]
def LH (E : EnvT) (nL : Nat) (lsC : Array Slot) (ls : List AV) : Prop := lv_has lsC nL (asc E 0 ls) ∧ ls.length = nL
theorem LH.get {E : EnvT} {nL : Nat} {lsC : Array Slot} {ls : List AV} (h : LH E nL lsC ls) {i : Nat} {v : AV} (hg : nGt ls i = v) (hx : isX v = false) : lsC[i]? = some (.val (cV E v)) := by
  have h1 := h.1.2.2 (i, cV E v) ((mem_asc ls 0).mpr ⟨i, v, gt_some ls i hg hx, hx, (Nat.zero_add i).symm, rfl⟩)
  exact h1
theorem LH.mem {E : EnvT} {nL : Nat} {lsC : Array Slot} {ls : List AV} (h : LH E nL lsC ls) {i : Nat} {v : AV} (hg : nGt ls i = v) (hx : isX v = false) : ∃ k : Nat, (asc E 0 ls)[k]? = some (i, cV E v) := by
  have h1 := (mem_asc (E := E) (j := i) (y := cV E v) ls 0).mpr ⟨i, v, gt_some ls i hg hx, hx, (Nat.zero_add i).symm, rfl⟩
  obtain ⟨k, hk, h2⟩ := List.getElem_of_mem h1
  exact ⟨k, by rw [List.getElem?_eq_getElem hk, h2]⟩
theorem has_mono {lsC : Array Slot} {nL : Nat} {l l' : List (Nat × Value)} (h : lv_has lsC nL l) (hs : ∀ q ∈ l', q ∈ l) : lv_has lsC nL l' := ⟨h.1, h.2.1, fun q hq => h.2.2 q (hs q hq)⟩
theorem cat_of (E : EnvT) {v : AV} (h : nIsL v = false) : (cV E v).category = 1 := by
  rcases v with x | x | ⟨k, i⟩
  · rfl
  · cases h
  · rfl
theorem LH.put1 {E : EnvT} {nL : Nat} {lsC : Array Slot} {ls : List AV} {i : Nat} {v : AV} {y : Value} (hl : ls.length = nL) (hb : nLbf ls i = false) (hy : y = cV E v)
    (h : lv_has lsC nL ((i, y) :: (asc E 0 ls).filter (fun q => !(q.1 == i) && !(q.1 + 1 == i && q.2.category == 2)))) : LH E nL lsC (nPt ls i v) := by
  refine ⟨has_mono h ?_, by rw [pt_len]; exact hl⟩
  rintro ⟨j, z⟩ hq
  obtain ⟨n, w, q1, q2, q3, q4⟩ := (mem_asc _ 0).mp hq
  rw [pt_get] at q1
  by_cases hc : n = i ∧ i < ls.length
  · rw [if_pos hc] at q1
    have e1 := Option.some.inj q1
    have e2 : j = i := by omega
    rw [e2, q4, ← e1, ← hy]
    exact List.mem_cons_self
  · rw [if_neg hc] at q1
    have hni : j ≠ i := by
      intro e
      have hlt : n < ls.length := (List.getElem?_eq_some_iff.mp q1).1
      exact hc ⟨by omega, by omega⟩
    refine List.mem_cons_of_mem _ (List.mem_filter.mpr ⟨(mem_asc ls 0).mpr ⟨n, w, q1, q2, q3, q4⟩, ?_⟩)
    have h1 : (j == i) = false := by simpa using hni
    have h2 : ((j + 1 == i) && z.category == 2) = false := by
      cases hj : (j + 1 == i)
      · rfl
      · have hj2 : j + 1 = i := by simpa using hj
        subst hj2
        have e3 : n = j := by omega
        subst e3
        have e4 : nIsL w = false := by
          have := gt_get ls n q1
          have hb2 : nIsL (nGt ls n) = false := hb
          rw [this] at hb2
          exact hb2
        rw [q4, cat_of E e4]
        rfl
    show (!(j == i) && !((j + 1 == i) && z.category == 2)) = true
    rw [h1, h2]
    rfl
theorem LH.put2 {E : EnvT} {nL : Nat} {lsC : Array Slot} {ls : List AV} {i : Nat} {x : Int64} (hl : ls.length = nL) (hi : i + 1 < nL) (hb : nLbf ls i = false)
    (h : lv_has lsC nL ((i, Value.long x) :: (asc E 0 ls).filter (fun q => !(q.1 == i) && (!(q.1 == i + 1) && !(q.1 + 1 == i && q.2.category == 2))))) : LH E nL lsC (nPt (nPt ls i (vL x)) (i + 1) vX) := by
  refine ⟨has_mono h ?_, by rw [pt_len, pt_len]; exact hl⟩
  rintro ⟨j, z⟩ hq
  obtain ⟨n, w, q1, q2, q3, q4⟩ := (mem_asc _ 0).mp hq
  rw [pt_get, pt_len] at q1
  have hc0 : ¬ n = i + 1 := by
    intro e
    rw [if_pos ⟨e, by omega⟩] at q1
    rw [← Option.some.inj q1] at q2
    cases q2
  rw [if_neg (fun q => hc0 q.1), pt_get] at q1
  by_cases hc : n = i ∧ i < ls.length
  · rw [if_pos hc] at q1
    have e1 := Option.some.inj q1
    have e2 : j = i := by omega
    rw [e2, q4, ← e1]
    exact List.mem_cons_self
  · rw [if_neg hc] at q1
    have hni : j ≠ i := by
      intro e
      have hlt : n < ls.length := (List.getElem?_eq_some_iff.mp q1).1
      exact hc ⟨by omega, by omega⟩
    refine List.mem_cons_of_mem _ (List.mem_filter.mpr ⟨(mem_asc ls 0).mpr ⟨n, w, q1, q2, q3, q4⟩, ?_⟩)
    have h1 : (j == i) = false := by simpa using hni
    have h1b : (j == i + 1) = false := by
      have : j ≠ i + 1 := by omega
      simpa using this
    have h2 : ((j + 1 == i) && z.category == 2) = false := by
      cases hj : (j + 1 == i)
      · rfl
      · have hj2 : j + 1 = i := by simpa using hj
        subst hj2
        have e3 : n = j := by omega
        subst e3
        have e4 : nIsL w = false := by
          have := gt_get ls n q1
          have hb2 : nIsL (nGt ls n) = false := hb
          rw [this] at hb2
          exact hb2
        rw [q4, cat_of E e4]
        rfl
    show (!(j == i) && (!(j == i + 1) && !((j + 1 == i) && z.category == 2))) = true
    rw [h1, h1b, h2]
    rfl
/-- all a method's run stands on -/
def Ctx (E : EnvT) (X : Nat × (Nat → Int32)) (p : Program) (R : Room) (s : State) (m : MethodId) (args : Array Value) (meth : Method) (c : Code) (cc : ByteArray) (nL : Nat) (oC : String) (ini : Bool) : Prop :=
  p.tables.exec = Jvm.exec ∧ c.code = cc ∧ c.maxLocals = nL ∧ s.vm.findClass oC = some m.cls ∧ (∀ w ∈ gT, w.before args s = true) ∧ KF E X s ∧ (ini = true → meth.name = "<init>")
def Wf (E : EnvT) (nL : Nat) (s0 : Mem) (p : Program) (l : Launch) (e : Env) (R : Room) (s : State) (m : MethodId) (args : Array Value) (below : List Frame) (meth : Method) (c : Code) (Q : State → Prop) (pc : Nat) (ls st : List AV) (σ : Mem) : Prop :=
  (∀ v ∈ ls, okV (nT σ) v) → (∀ v ∈ st, okV (nT σ) v) → (nT s0 ≤ nT σ ∧ nU s0 ≤ nU σ) → ∀ (H : Heap) (locs : List Loc) (lsC : Array Slot), WD E σ H → LH E nL lsC ls → va_S (aF E) s.heap H locs →
    W p l e R s m args below meth c H locs (nT σ - nT s0) (nU σ - nU s0) Q (F0 m pc lsC (st.map (cV E)))
theorem okl_cons {t : Nat} {v : AV} {r : List AV} (h : okV t v) (hr : ∀ w ∈ r, okV t w) : ∀ w ∈ v :: r, okV t w := List.forall_mem_cons.mpr ⟨h, hr⟩
theorem okl_tl {t : Nat} {v : AV} {r : List AV} (h : ∀ w ∈ v :: r, okV t w) : ∀ w ∈ r, okV t w := (List.forall_mem_cons.mp h).2
theorem okl_hd {t : Nat} {v : AV} {r : List AV} (h : ∀ w ∈ v :: r, okV t w) : okV t v := (List.forall_mem_cons.mp h).1
theorem okl_pt {t : Nat} {ls : List AV} {i : Nat} {v : AV} (h : ∀ w ∈ ls, okV t w) (hv : okV t v) : ∀ w ∈ nPt ls i v, okV t w := by
  intro w hw
  obtain ⟨n, hn⟩ := List.getElem?_of_mem hw
  rw [pt_get] at hn
  by_cases hc : n = i ∧ i < ls.length
  · rw [if_pos hc] at hn
    rw [← Option.some.inj hn]; exact hv
  · rw [if_neg hc] at hn
    exact h w (List.mem_of_getElem? hn)
theorem okl_gt {t : Nat} {ls : List AV} {i : Nat} {v : AV} (h : ∀ w ∈ ls, okV t w) (hg : nGt ls i = v) : okV t v := by
  cases hx : isX v
  · exact h v (List.mem_of_getElem? (gt_some ls i hg hx))
  · rcases v with x | x | ⟨k, j⟩
    · trivial
    · trivial
    · rcases k with _ | k
      · exact Or.inl rfl
      · cases hx
end
section
/-! one instruction of the machine is one step of the small machine -/
section
variable {E : EnvT} {X : Nat × (Nat → Int32)} {nL : Nat} {s0 : Mem} {p : Program} {l : Launch} {e : Env} {R : Room} {s : State} {m : MethodId} {args : Array Value} {below : List Frame} {meth : Method} {c : Code} {Q : State → Prop} {cc : ByteArray} {oC : String} {ini : Bool} {pc : Nat} {ls st : List AV} {σ : Mem} {K : Kon} {r : Res}
/-- a plain value comes on the stack -/
theorem sim_push {v : AV} {len : Nat} (hv : okV (nT σ) v) (hrow : ∀ {H : Heap} {locs : List Loc} {cells slots : Nat} {lsC : Array Slot} {rest : List Value}, LH E nL lsC ls → W p l e R s m args below meth c H locs cells slots Q (F0 m (pc + len) lsC (cV E v :: rest)) → W p l e R s m args below meth c H locs cells slots Q (F0 m pc lsC rest))
    (hk : Wf E nL s0 p l e R s m args below meth c Q (pc + len) ls (v :: st) σ) : Wf E nL s0 p l e R s m args below meth c Q pc ls st σ :=
  fun h1 h2 h3 _ _ _ hW hL hS => hrow hL (hk h1 (okl_cons hv h2) h3 _ _ _ hW hL hS)
theorem sim_load {want len i : Nat} (hC : Ctx E X p R s m args meth c cc nL oC ini)
    (hi : want = 0 → ∀ {H : Heap} {locs : List Loc} {cells slots : Nat} {lsC : Array Slot} {rest : List Value} {x : Int32}, lsC[i]? = some (.val (.int x)) → W p l e R s m args below meth c H locs cells slots Q (F0 m (pc + len) lsC (.int x :: rest)) → W p l e R s m args below meth c H locs cells slots Q (F0 m pc lsC rest))
    (hl : want = 1 → ∀ {H : Heap} {locs : List Loc} {cells slots : Nat} {lsC : Array Slot} {rest : List Value} {x : Int64}, lsC[i]? = some (.val (.long x)) → W p l e R s m args below meth c H locs cells slots Q (F0 m (pc + len) lsC (.long x :: rest)) → W p l e R s m args below meth c H locs cells slots Q (F0 m pc lsC rest))
    (hr : want = 2 → ∀ {H : Heap} {locs : List Loc} {cells slots : Nat} {lsC : Array Slot} {rest : List Value} {x : Nat}, lsC[i]? = some (.val (.ref x)) → W p l e R s m args below meth c H locs cells slots Q (F0 m (pc + len) lsC (.ref x :: rest)) → W p l e R s m args below meth c H locs cells slots Q (F0 m pc lsC rest))
    (hK : pLoad K pc len ls st σ want i = some r) (hk : ∀ pc ls st σ', K pc ls st σ' = some r → Wf E nL s0 p l e R s m args below meth c Q pc ls st σ') : Wf E nL s0 p l e R s m args below meth c Q pc ls st σ := by
  unfold pLoad at hK
  intro h1
  revert h1
  rcases hg : nGt ls i with x | x | ⟨k, j⟩
  · rw [hg] at hK
    dsimp only at hK
    by_cases hw : want = 0
    · rw [if_pos hw] at hK
      intro h1 h2 h3 H locs lsC hW hL hS
      exact hi hw (hL.get hg rfl) (hk _ _ _ _ hK h1 (okl_cons trivial h2) h3 H locs lsC hW hL hS)
    · rw [if_neg hw] at hK; cases hK
  · rw [hg] at hK
    dsimp only at hK
    by_cases hw : want = 1
    · rw [if_pos hw] at hK
      intro h1 h2 h3 H locs lsC hW hL hS
      exact hl hw (hL.get hg rfl) (hk _ _ _ _ hK h1 (okl_cons trivial h2) h3 H locs lsC hW hL hS)
    · rw [if_neg hw] at hK; cases hK
  · rw [hg] at hK
    dsimp only at hK
    by_cases hw : want = 2 ∧ k ≠ 0
    · rw [if_pos hw] at hK
      intro h1 h2 h3 H locs lsC hW hL hS
      have hx : isX (.inr (.inr (k, j))) = false := by
        rcases k with _ | k
        · exact absurd rfl hw.2
        · rfl
      exact hr hw.1 (hL.get hg hx) (hk _ _ _ _ hK h1 (okl_cons (okl_gt h1 hg) h2) h3 H locs lsC hW hL hS)
    · rw [if_neg hw] at hK; cases hK
theorem sim_store {want len i : Nat}
    (hi : want = 0 → ∀ {H : Heap} {locs : List Loc} {cells slots : Nat} {lsC : Array Slot} {rest : List Value} {x : Int32} {lv : List (Nat × Value)}, lv_has lsC nL lv → i < nL → (∀ ls' : Array Slot, lv_has ls' nL ((i, Value.int x) :: lv.filter (fun q => !(q.1 == i) && !(q.1 + 1 == i && q.2.category == 2))) → W p l e R s m args below meth c H locs cells slots Q (F0 m (pc + len) ls' rest)) → W p l e R s m args below meth c H locs cells slots Q (F0 m pc lsC (.int x :: rest)))
    (hl : want = 1 → ∀ {H : Heap} {locs : List Loc} {cells slots : Nat} {lsC : Array Slot} {rest : List Value} {x : Int64} {lv : List (Nat × Value)}, lv_has lsC nL lv → i + 1 < nL → (∀ ls' : Array Slot, lv_has ls' nL ((i, Value.long x) :: lv.filter (fun q => !(q.1 == i) && (!(q.1 == i + 1) && !(q.1 + 1 == i && q.2.category == 2)))) → W p l e R s m args below meth c H locs cells slots Q (F0 m (pc + len) ls' rest)) → W p l e R s m args below meth c H locs cells slots Q (F0 m pc lsC (.long x :: rest)))
    (hr : want = 2 → ∀ {H : Heap} {locs : List Loc} {cells slots : Nat} {lsC : Array Slot} {rest : List Value} {x : Nat} {lv : List (Nat × Value)}, lv_has lsC nL lv → i < nL → (∀ ls' : Array Slot, lv_has ls' nL ((i, Value.ref x) :: lv.filter (fun q => !(q.1 == i) && !(q.1 + 1 == i && q.2.category == 2))) → W p l e R s m args below meth c H locs cells slots Q (F0 m (pc + len) ls' rest)) → W p l e R s m args below meth c H locs cells slots Q (F0 m pc lsC (.ref x :: rest)))
    (hK : pStore K pc len ls st σ want i = some r) (hk : ∀ pc ls st σ', K pc ls st σ' = some r → Wf E nL s0 p l e R s m args below meth c Q pc ls st σ') : Wf E nL s0 p l e R s m args below meth c Q pc ls st σ := by
  unfold pStore at hK
  rcases st with _ | ⟨x | x | ⟨k, j⟩, rr⟩
  · cases hK
  · dsimp only at hK
    by_cases hw : want = 0
    · rw [if_pos hw] at hK
      cases hlt : Nat.blt i ls.length
      · rw [hlt] at hK; cases hK
      · rw [hlt] at hK
        cases hb : nLbf ls i
        · rw [hb] at hK
          intro h1 h2 h3 H locs lsC hW hL hS
          have hlt := Nat.blt_eq.mp hlt
          exact hi hw hL.1 (by rw [← hL.2]; exact hlt) (fun ls' h' => hk _ _ _ _ hK (okl_pt h1 trivial) (okl_tl h2) h3 H locs ls' hW (LH.put1 hL.2 hb rfl h') hS)
        · rw [hb] at hK; cases hK
    · rw [if_neg hw] at hK; cases hK
  · dsimp only at hK
    by_cases hw : want = 1
    · rw [if_pos hw] at hK
      cases hlt : Nat.blt (i + 1) ls.length
      · rw [hlt] at hK; cases hK
      · rw [hlt] at hK
        cases hb : nLbf ls i
        · rw [hb] at hK
          intro h1 h2 h3 H locs lsC hW hL hS
          have hlt := Nat.blt_eq.mp hlt
          exact hl hw hL.1 (by rw [← hL.2]; exact hlt) (fun ls' h' => hk _ _ _ _ hK (okl_pt (okl_pt h1 trivial) (Or.inl rfl)) (okl_tl h2) h3 H locs ls' hW (LH.put2 hL.2 (by rw [← hL.2]; exact hlt) hb h') hS)
        · rw [hb] at hK; cases hK
    · rw [if_neg hw] at hK; cases hK
  · dsimp only at hK
    by_cases hw : want = 2 ∧ k ≠ 0
    · rw [if_pos hw] at hK
      cases hlt : Nat.blt i ls.length
      · rw [hlt] at hK; cases hK
      · rw [hlt] at hK
        cases hb : nLbf ls i
        · rw [hb] at hK
          intro h1 h2 h3 H locs lsC hW hL hS
          have hlt := Nat.blt_eq.mp hlt
          exact hr hw.1 hL.1 (by rw [← hL.2]; exact hlt) (fun ls' h' => hk _ _ _ _ hK (okl_pt h1 (okl_hd h2)) (okl_tl h2) h3 H locs ls' hW (LH.put1 hL.2 hb rfl h') hS)
        · rw [hb] at hK; cases hK
    · rw [if_neg hw] at hK; cases hK
theorem sim_i1 {f : Int32 → AV} (hf : ∀ x, okV (nT σ) (f x)) (hrow : ∀ {H : Heap} {locs : List Loc} {cells slots : Nat} {lsC : Array Slot} {rest : List Value} (x : Int32), W p l e R s m args below meth c H locs cells slots Q (F0 m (pc + 1) lsC (cV E (f x) :: rest)) → W p l e R s m args below meth c H locs cells slots Q (F0 m pc lsC (.int x :: rest)))
    (hK : pI1 K pc ls st σ f = some r) (hk : ∀ pc ls st σ', K pc ls st σ' = some r → Wf E nL s0 p l e R s m args below meth c Q pc ls st σ') : Wf E nL s0 p l e R s m args below meth c Q pc ls st σ := by
  rcases st with _ | ⟨x | x | ⟨k, j⟩, rr⟩
  · cases hK
  · intro h1 h2 h3 H locs lsC hW hL hS
    exact hrow x (hk _ _ _ _ hK h1 (okl_cons (hf x) (okl_tl h2)) h3 H locs lsC hW hL hS)
  · cases hK
  · cases hK
theorem sim_i2 {f : Int32 → Int32 → Int32} (hrow : ∀ {H : Heap} {locs : List Loc} {cells slots : Nat} {lsC : Array Slot} {rest : List Value} (x y : Int32), W p l e R s m args below meth c H locs cells slots Q (F0 m (pc + 1) lsC (.int (f x y) :: rest)) → W p l e R s m args below meth c H locs cells slots Q (F0 m pc lsC (.int y :: .int x :: rest)))
    (hK : pI2 K pc ls st σ f = some r) (hk : ∀ pc ls st σ', K pc ls st σ' = some r → Wf E nL s0 p l e R s m args below meth c Q pc ls st σ') : Wf E nL s0 p l e R s m args below meth c Q pc ls st σ := by
  rcases st with _ | ⟨x | x | ⟨k, j⟩, _ | ⟨y | y | ⟨k2, j2⟩, rr⟩⟩
  all_goals first
    | cases hK; done
    | (intro h1 h2 h3 H locs lsC hW hL hS
       exact hrow _ _ (hk _ _ _ _ hK h1 (okl_cons trivial (okl_tl (okl_tl h2))) h3 H locs lsC hW hL hS))
theorem sim_d2 {f : Int32 → Int32 → Int32} (hrow : ∀ {H : Heap} {locs : List Loc} {cells slots : Nat} {lsC : Array Slot} {rest : List Value} (x y : Int32), ¬ y = 0 → W p l e R s m args below meth c H locs cells slots Q (F0 m (pc + 1) lsC (.int (f x y) :: rest)) → W p l e R s m args below meth c H locs cells slots Q (F0 m pc lsC (.int y :: .int x :: rest)))
    (hK : pD2 K pc ls st σ f = some r) (hk : ∀ pc ls st σ', K pc ls st σ' = some r → Wf E nL s0 p l e R s m args below meth c Q pc ls st σ') : Wf E nL s0 p l e R s m args below meth c Q pc ls st σ := by
  rcases st with _ | ⟨x | x | ⟨k, j⟩, _ | ⟨y | y | ⟨k2, j2⟩, rr⟩⟩
  all_goals first
    | cases hK; done
    | (unfold pD2 at hK
       dsimp only at hK
       by_cases hz : x = 0
       · rw [if_pos hz] at hK; cases hK
       · rw [if_neg hz] at hK
         intro h1 h2 h3 H locs lsC hW hL hS
         exact hrow _ _ hz (hk _ _ _ _ hK h1 (okl_cons trivial (okl_tl (okl_tl h2))) h3 H locs lsC hW hL hS))
theorem sim_l2 {f : Int64 → Int64 → AV} (hf : ∀ x y, okV (nT σ) (f x y)) (hrow : ∀ {H : Heap} {locs : List Loc} {cells slots : Nat} {lsC : Array Slot} {rest : List Value} (x y : Int64), W p l e R s m args below meth c H locs cells slots Q (F0 m (pc + 1) lsC (cV E (f x y) :: rest)) → W p l e R s m args below meth c H locs cells slots Q (F0 m pc lsC (.long y :: .long x :: rest)))
    (hK : pL2 K pc ls st σ f = some r) (hk : ∀ pc ls st σ', K pc ls st σ' = some r → Wf E nL s0 p l e R s m args below meth c Q pc ls st σ') : Wf E nL s0 p l e R s m args below meth c Q pc ls st σ := by
  rcases st with _ | ⟨x | x | ⟨k, j⟩, _ | ⟨y | y | ⟨k2, j2⟩, rr⟩⟩
  all_goals first
    | cases hK; done
    | (intro h1 h2 h3 H locs lsC hW hL hS
       exact hrow _ _ (hk _ _ _ _ hK h1 (okl_cons (hf _ _) (okl_tl (okl_tl h2))) h3 H locs lsC hW hL hS))
theorem sim_ld {f : Int64 → Int64 → Int64} (hrow : ∀ {H : Heap} {locs : List Loc} {cells slots : Nat} {lsC : Array Slot} {rest : List Value} (x y : Int64), ¬ y = 0 → W p l e R s m args below meth c H locs cells slots Q (F0 m (pc + 1) lsC (.long (f x y) :: rest)) → W p l e R s m args below meth c H locs cells slots Q (F0 m pc lsC (.long y :: .long x :: rest)))
    (hK : pLD K pc ls st σ f = some r) (hk : ∀ pc ls st σ', K pc ls st σ' = some r → Wf E nL s0 p l e R s m args below meth c Q pc ls st σ') : Wf E nL s0 p l e R s m args below meth c Q pc ls st σ := by
  rcases st with _ | ⟨x | x | ⟨k, j⟩, _ | ⟨y | y | ⟨k2, j2⟩, rr⟩⟩
  all_goals first
    | cases hK; done
    | (unfold pLD at hK
       dsimp only at hK
       by_cases hz : x = 0
       · rw [if_pos hz] at hK; cases hK
       · rw [if_neg hz] at hK
         intro h1 h2 h3 H locs lsC hW hL hS
         exact hrow _ _ hz (hk _ _ _ _ hK h1 (okl_cons trivial (okl_tl (okl_tl h2))) h3 H locs lsC hW hL hS))
theorem sim_if {q : ClassFile.Cond} {off : Int} {tgt : Nat} (hC : Ctx E X p R s m args meth c cc nL oC ini) (hd : decode cc pc = .ok (.ifCond q off, 3)) (ht : (pc : Int) + off = (tgt : Int))
    (hK : pIf K pc tgt ls st σ q = some r) (hk : ∀ pc ls st σ', K pc ls st σ' = some r → Wf E nL s0 p l e R s m args below meth c Q pc ls st σ') : Wf E nL s0 p l e R s m args below meth c Q pc ls st σ := by
  rcases st with _ | ⟨x | x | ⟨k, j⟩, rr⟩
  · cases hK
  · intro h1 h2 h3 H locs lsC hW hL hS
    have go : ∀ pc2, K pc2 ls rr σ = some r → W p l e R s m args below meth c H locs (nT σ - nT s0) (nU σ - nU s0) Q (F0 m pc2 lsC (rr.map (cV E))) := fun pc2 hq => hk _ _ _ _ hq h1 (okl_tl h2) h3 H locs lsC hW hL hS
    cases q <;> unfold pIf at hK <;> dsimp only at hK
    · exact lv_if_eq hC.1 hC.2.1 hd ht (fun h => go _ (by rw [if_pos h] at hK; exact hK)) (fun h => go _ (by rw [if_neg h] at hK; exact hK))
    · exact lv_if_ne hC.1 hC.2.1 hd ht (fun h => go _ (by rw [if_neg h] at hK; exact hK)) (fun h => go _ (by rw [if_pos h] at hK; exact hK))
    · exact lv_if_lt hC.1 hC.2.1 hd ht (fun h => go _ (by rw [if_pos h] at hK; exact hK)) (fun h => go _ (by rw [if_neg h] at hK; exact hK))
    · exact lv_if_ge hC.1 hC.2.1 hd ht (fun h => go _ (by rw [if_pos h] at hK; exact hK)) (fun h => go _ (by rw [if_neg h] at hK; exact hK))
    · exact lv_if_gt hC.1 hC.2.1 hd ht (fun h => go _ (by rw [if_pos h] at hK; exact hK)) (fun h => go _ (by rw [if_neg h] at hK; exact hK))
    · exact lv_if_le hC.1 hC.2.1 hd ht (fun h => go _ (by rw [if_pos h] at hK; exact hK)) (fun h => go _ (by rw [if_neg h] at hK; exact hK))
  · cases hK
  · cases hK
theorem sim_cmp {q : ClassFile.Cond} {off : Int} {tgt : Nat} (hC : Ctx E X p R s m args meth c cc nL oC ini) (hd : decode cc pc = .ok (.if_icmp q off, 3)) (ht : (pc : Int) + off = (tgt : Int))
    (hK : pCmp K pc tgt ls st σ q = some r) (hk : ∀ pc ls st σ', K pc ls st σ' = some r → Wf E nL s0 p l e R s m args below meth c Q pc ls st σ') : Wf E nL s0 p l e R s m args below meth c Q pc ls st σ := by
  rcases st with _ | ⟨x | x | ⟨k, j⟩, _ | ⟨y | y | ⟨k2, j2⟩, rr⟩⟩
  all_goals try (cases hK; done)
  intro h1 h2 h3 H locs lsC hW hL hS
  have go : ∀ pc2, K pc2 ls rr σ = some r → W p l e R s m args below meth c H locs (nT σ - nT s0) (nU σ - nU s0) Q (F0 m pc2 lsC (rr.map (cV E))) := fun pc2 hq => hk _ _ _ _ hq h1 (okl_tl (okl_tl h2)) h3 H locs lsC hW hL hS
  cases q <;> unfold pCmp at hK <;> dsimp only at hK
  · exact lv_icmp_eq hC.1 hC.2.1 hd ht (fun h => go _ (by rw [if_pos h] at hK; exact hK)) (fun h => go _ (by rw [if_neg h] at hK; exact hK))
  · exact lv_icmp_ne hC.1 hC.2.1 hd ht (fun h => go _ (by rw [if_neg h] at hK; exact hK)) (fun h => go _ (by rw [if_pos h] at hK; exact hK))
  · exact lv_icmp_lt hC.1 hC.2.1 hd ht (fun h => go _ (by rw [if_pos h] at hK; exact hK)) (fun h => go _ (by rw [if_neg h] at hK; exact hK))
  · exact lv_icmp_ge hC.1 hC.2.1 hd ht (fun h => go _ (by rw [if_pos h] at hK; exact hK)) (fun h => go _ (by rw [if_neg h] at hK; exact hK))
  · exact lv_icmp_gt hC.1 hC.2.1 hd ht (fun h => go _ (by rw [if_pos h] at hK; exact hK)) (fun h => go _ (by rw [if_neg h] at hK; exact hK))
  · exact lv_icmp_le hC.1 hC.2.1 hd ht (fun h => go _ (by rw [if_pos h] at hK; exact hK)) (fun h => go _ (by rw [if_neg h] at hK; exact hK))
end
end
section
/-! classes by their numbers -/
def RC (c : Nat) : String := match c with
  | 1 => RX0 | 2 => RX2 | 3 => RX3 | 4 => RX4 | 5 => RX5 | 6 => RX6 | _ => RX7
def TC (c : Nat) : u_T := match c with
  | 1 => TX0 | 2 => TX2 | 3 => TX3 | 4 => TX4 | 5 => TX5 | 6 => TX6 | _ => TX7
def tyC (c : Nat) : Nat → FieldType := match c with
  | 1 => tyX0 | 2 => tyX2 | 3 => tyX3 | 4 => tyX4 | 5 => tyX5 | 6 => tyX6 | _ => tyX7
def okF (c : Nat) (f : String × String × String × Bool) (ty : FieldType) (n : Nat) : Bool := match n with
  | 0 => ty == .int && !f.2.2.2
  | 1 => ty == .boolean && !f.2.2.2
  | 2 => ty == .long && !f.2.2.2
  | _ => f.2.2.2 && (f.1 == RC c && (match ty with | .object _ => true | .array _ => true | _ => false))
theorem nf_pos {c j : Nat} (h : j < nNf c) : 1 ≤ c ∧ c ≤ 7 := by
  unfold nNf at h
  split at h
  all_goals first | exact ⟨by decide, by decide⟩ | exact absurd h (Nat.not_lt_zero _)
theorem cases7 {P : Nat → Prop} (h1 : P 1) (h2 : P 2) (h3 : P 3) (h4 : P 4) (h5 : P 5) (h6 : P 6) (h7 : P 7) {c : Nat} (h : 1 ≤ c ∧ c ≤ 7) : P c := by
  obtain ⟨a, b⟩ := h
  match c, a, b with
  | 1, _, _ => exact h1
  | 2, _, _ => exact h2
  | 3, _, _ => exact h3
  | 4, _, _ => exact h4
  | 5, _, _ => exact h5
  | 6, _, _ => exact h6
  | 7, _, _ => exact h7
  | n + 8, _, b => exact absurd b (by omega)
theorem clAt {c : Nat} (h : 1 ≤ c ∧ c ≤ 7) : vwCl[c - 1]? = some (RC c, TC c, nNf c) := cases7 (P := fun c => vwCl[c - 1]? = some (RC c, TC c, nNf c)) rfl rfl rfl rfl rfl rfl rfl h
theorem clTy {c : Nat} (h : 1 ≤ c ∧ c ≤ 7) : ∀ k, k < nNf c → parseFieldDescriptor (TC c k).2.2.1 = some (tyC c k) := cases7 (P := fun c => ∀ k, k < nNf c → parseFieldDescriptor (TC c k).2.2.1 = some (tyC c k)) tyX0_ok tyX2_ok tyX3_ok tyX4_ok tyX5_ok tyX6_ok tyX7_ok h
theorem clNm {c : Nat} (h : 1 ≤ c ∧ c ≤ 7) : ∀ a, a < nNf c → ∀ b, b < nNf c → a ≠ b → (TC c a).2.1 ≠ (TC c b).2.1 := cases7 (P := fun c => ∀ a, a < nNf c → ∀ b, b < nNf c → a ≠ b → (TC c a).2.1 ≠ (TC c b).2.1) nmX0 nmX2 nmX3 nmX4 nmX5 nmX6 nmX7 h
theorem clOk {c : Nat} (h : 1 ≤ c ∧ c ≤ 7) : ∀ k, k < nNf c → okF c (TC c k) (tyC c k) (nFt c k) = true := cases7 (P := fun c => ∀ k, k < nNf c → okF c (TC c k) (tyC c k) (nFt c k) = true) (by decide +kernel) (by decide +kernel) (by decide +kernel) (by decide +kernel) (by decide +kernel) (by decide +kernel) (by decide +kernel) h
theorem ws_good {C : String} {T : u_T} {N : Nat} (h : ∀ w ∈ u_ws C T N, w ∈ lw_tbl) (hg : (u_ws C T N).all goodWord = true) : ∀ w ∈ u_ws C T N, w ∈ gT := fun w hw => List.mem_filter.mpr ⟨h w hw, List.all_eq_true.mp hg w hw⟩
theorem clWs {c : Nat} (h : 1 ≤ c ∧ c ≤ 7) : ∀ w ∈ u_ws (RC c) (TC c) (nNf c), w ∈ gT := cases7 (P := fun c => ∀ w ∈ u_ws (RC c) (TC c) (nNf c), w ∈ gT) (ws_good inX0 (by decide +kernel)) (ws_good inX2 (by decide +kernel)) (ws_good inX3 (by decide +kernel)) (ws_good inX4 (by decide +kernel)) (ws_good inX5 (by decide +kernel)) (ws_good inX6 (by decide +kernel)) (ws_good inX7 (by decide +kernel)) h
theorem tri {k i j k2 i2 j2 : Nat} (q : (k2, i2, j2) = (k, i, j)) : (k2, i2) = (k, i) := by
  cases q
  rfl
theorem W_sz {p : Program} {l : Launch} {e : Env} {R : Room} {s : State} {m : MethodId} {args : Array Value} {below : List Frame} {meth : Method} {c : Code} {Q : State → Prop} {H : Heap} {locs : List Loc} {cells slots : Nat} {g : JFrame} (k : H.size ≤ s.heap.size + cells → W p l e R s m args below meth c H locs cells slots Q g) : W p l e R s m args below meth c H locs cells slots Q g :=
  fun T hT X => k (by rw [← hT]; exact X.same.2.2.1) T hT X
section
variable {E : EnvT} {X : Nat × (Nat → Int32)} {nL : Nat} {s0 : Mem} {p : Program} {l : Launch} {e : Env} {R : Room} {s : State} {m : MethodId} {args : Array Value} {below : List Frame} {meth : Method} {c : Code} {Q : State → Prop} {cc : ByteArray} {oC : String} {ini : Bool} {pc : Nat} {ls st : List AV} {σ : Mem} {K : Kon} {r : Res}
theorem cE_obj {k i cn : Nat} (hc : nKc k = cn) (h0 : cn ≠ 0) : cE E σ k i = .inr (cn - 1, (List.range (nNf cn)).map (fV E σ k i)) := by
  subst hc
  unfold cE
  rw [kc_ak h0]
  rfl
theorem cE_int {k i : Nat} (hk : nAk k = 1) : cE E σ k i = .inl (E.2.2.2.1, nAl k, .inl (σ.1 k i)) := by
  unfold cE
  rw [hk]
  rfl
theorem cE_bool {k i : Nat} (hk : nAk k = 2) : cE E σ k i = .inl (E.2.2.2.2.1, nAl k, .inl (σ.1 k i)) := by
  unfold cE
  rw [hk]
  rfl
theorem cE_ref {k i : Nat} (hk : nAk k = 3) : cE E σ k i = .inl (cond (k == 13) E.2.2.2.2.2.1 E.2.2.2.2.2.2, nAl k, .inr (.inr (.inr (.inr (rV E σ k i))))) := by
  unfold cE
  rw [hk]
  rfl
theorem in_iff {x : Int32} {n : Nat} (h : nIn x n = true) : vp_in x n := by
  unfold nIn at h
  unfold vp_in
  exact of_decide_eq_true h
theorem in_lt {x : Int32} {n : Nat} (h : nIn x n = true) : x.toNatClampNeg < n := Nat.lt_of_not_le (fun q => in_iff h (Or.inr q))
theorem cV_ok {k i : Nat} (h : okT (nT σ) (k, i)) : cV E (.inr (.inr (k, i))) = .ref (E.1.1 + nOff k i) := by
  show Value.ref (cA E k i) = _
  unfold cA
  rw [if_neg h.2.2.2.1, if_neg h.2.2.2.2]
theorem sim_get {cn j idx : Nat} (hC : Ctx E X p R s m args meth c cc nL oC ini) (hd : decode cc pc = .ok (.getfield idx, 3)) (hl : Cond.fieldLink oC idx (TC cn j).1 (TC cn j).2.1 (TC cn j).2.2.1 ∈ gT)
    (hK : pGet K pc ls st σ cn j = some r) (hk : ∀ pc ls st σ', K pc ls st σ' = some r → Wf E nL s0 p l e R s m args below meth c Q pc ls st σ') : Wf E nL s0 p l e R s m args below meth c Q pc ls st σ := by
  rcases st with _ | ⟨x | x | ⟨k, i⟩, rr⟩
  · cases hK
  · cases hK
  · cases hK
  · unfold pGet at hK
    dsimp only at hK
    cases hb : (nKc k == cn && Nat.blt j (nNf cn))
    · rw [hb] at hK; cases hK
    · rw [hb] at hK
      rw [Bool.and_eq_true] at hb
      have hj : j < nNf cn := Nat.blt_eq.mp hb.2
      have hcn := nf_pos hj
      have hkc : nKc k = cn := eq_of_beq hb.1
      intro h1 h2 h3 H locs lsC hW hL hS
      have hv : okT (nT σ) (k, i) := okV.kc (okl_hd h2) (kc_ne hb.1 (by omega))
      have he := wL_at E σ hv
      rw [cE_obj hkc (by omega)] at he
      have hfv : ((List.range (nNf cn)).map (fV E σ k i))[j]? = some (fV E σ k i j) := by simp [hj]
      refine va_get (D := E.2.2.1) (cl := vwCl) (tys := tysF E) (ws := wL E σ) (C := RC cn) (T := TC cn) (N := nNf cn) hC.1 hC.2.1 (fun w hw => hC.2.2.2.2.1 w hw) (clWs hcn) hC.2.2.2.1 hC.2.2.2.2.2.1.1 hW.1 (nOff k i) he (clAt hcn) j hj (hC.2.2.2.2.1 _ hl) (fun _ h9 => h9) hfv hd ?_
      have hrs : nFt cn j = 3 → rsl k j = true := by
        intro h
        unfold rsl
        rw [hkc, h]
        simp only [bne_iff_ne, Bool.or_eq_true, Bool.and_eq_true, beq_iff_eq, Nat.blt_eq]
        exact Or.inr ⟨by omega, hj, trivial⟩
      have fin : ∀ v : AV, okV (nT σ) v → cV E v = fV E σ k i j → K (pc + 3) ls (v :: rr) σ = some r → W p l e R s m args below meth c H locs (nT σ - nT s0) (nU σ - nU s0) Q (F0 m (pc + 3) lsC (fV E σ k i j :: rr.map (cV E))) := by
        intro v hv2 hcv hq
        rw [← hcv]
        exact hk _ _ _ _ hq h1 (okl_cons hv2 (okl_tl h2)) h3 H locs lsC hW hL hS
      revert hK
      rcases hf : nFt cn j with _ | _ | _ | _ | n
      · intro hK
        exact fin (vI (σ.1 k i j)) trivial (by unfold fV; rw [hkc, hf]; rfl) hK
      · intro hK
        exact fin (vI (σ.1 k i j)) trivial (by unfold fV; rw [hkc, hf]; rfl) hK
      · intro hK
        exact fin (vL σ.2.1) trivial (by unfold fV; rw [hkc, hf]; rfl) hK
      · intro hK
        dsimp only [cond_true] at hK
        cases ho : nRok σ.2.2 k i j
        · rw [ho] at hK; cases hK
        · rw [ho] at hK
          have ht := wfA.tg hW.2.2 hv (hrs hf) ho
          refine fin (vR (nTg k i j).1 (nTg k i j).2) (Or.inr (Or.inr (Or.inr ht))) ?_ hK
          show cV E (.inr (.inr ((nTg k i j).1, (nTg k i j).2))) = _
          have hcv := cV_ok (E := E) (k := (nTg k i j).1) (i := (nTg k i j).2) ht
          rw [hcv]
          unfold fV
          rw [hkc, hf]
          try dsimp only
          rw [ho]
          rfl
      · intro hK
        exact fin (vI (σ.1 k i j)) trivial (by unfold fV; rw [hkc, hf]; rfl) hK
theorem st_self (M : MM) (k i j : Nat) (v : Int32) : nSt M k i j v k i j = v := if_pos ⟨rfl, rfl, rfl⟩
theorem st_ne (M : MM) (k i j : Nat) (v : Int32) {a b d : Nat} (h : ¬ (a = k ∧ b = i ∧ d = j)) : nSt M k i j v a b d = M a b d := if_neg h
theorem st_other {k i j : Nat} {v : Int32} {k2 i2 : Nat} (hn : (k2, i2) ≠ (k, i)) : cE E (nSt σ.1 k i j v, σ.2) k2 i2 = cE E σ k2 i2 :=
  cE_ext E (fun d => st_ne _ _ _ _ _ (fun q => hn (by rw [q.1, q.2.1]))) (fun _ => rfl) (fun _ _ => rfl)
theorem sim_put {cn j idx own : Nat} (hC : Ctx E X p R s m args meth c cc nL oC ini) (hs0 : s.heap.size = E.1.1 + nT s0) (hown : own = cn → 1 ≤ cn → oC = RC cn) (hd : decode cc pc = .ok (.putfield idx, 3)) (hl : Cond.fieldLink oC idx (TC cn j).1 (TC cn j).2.1 (TC cn j).2.2.1 ∈ gT)
    (hK : pPut own ini K pc ls st σ cn j = some r) (hk : ∀ pc ls st σ', K pc ls st σ' = some r → Wf E nL s0 p l e R s m args below meth c Q pc ls st σ') : Wf E nL s0 p l e R s m args below meth c Q pc ls st σ := by
  have key : ∀ (x : AV) (k i : Nat) (rr : List AV) (s' : Mem) (ty : FieldType), st = x :: .inr (.inr (k, i)) :: rr → nKc k = cn → j < nNf cn → K (pc + 3) ls rr s' = some r → nT s' = nT σ → nU s' = nU σ →
      tyC cn j = ty → narrow ty (cV E x) = cV E x → fits ty (cV E x) = true → ((TC cn j).2.2.2 = false ∨ ((TC cn j).2.2.2 = true ∧ ini = true ∧ (TC cn j).1 = oC)) →
      (okT (nT σ) (k, i) → okV (nT σ) x → wfA σ.2.2 → wfA s'.2.2 ∧ (∀ k2 i2, okT (nT σ) (k2, i2) → (k2, i2) ≠ (k, i) → cE E s' k2 i2 = cE E σ k2 i2) ∧ cE E s' k i = .inr (cn - 1, ((List.range (nNf cn)).map (fV E σ k i)).set j (cV E x))) →
      Wf E nL s0 p l e R s m args below meth c Q pc ls st σ := by
    intro x k i rr s' ty hst hkc hj hq ht hu hty hn hfit hfin hch
    subst hst
    have hcn := nf_pos hj
    intro h1 h2 h3 H locs lsC hW hL hS
    have hv : okT (nT σ) (k, i) := okV.kc (okl_hd (okl_tl h2)) (kc_ne (c := cn) (by rw [hkc]; simp) (by omega))
    obtain ⟨c1, c2, c3⟩ := hch hv (okl_hd h2) hW.2.2
    have he := wL_at E σ hv
    rw [cE_obj hkc (by omega)] at he
    have hlen : j < ((List.range (nNf cn)).map (fV E σ k i)).length := by simpa using hj
    have hpd : parseFieldDescriptor (TC cn j).2.2.1 = some ty := by rw [clTy hcn j hj, hty]
    have fin : ∀ (H1 : Heap) (locs1 : List Loc), va_P E.2.2.1 vwCl ((wL E σ).set (nOff k i) (cA E k i, .inr (cn - 1, ((List.range (nNf cn)).map (fV E σ k i)).set j (cV E x)))) H1 → va_D (aF E) ((wL E σ).set (nOff k i) (cA E k i, .inr (cn - 1, ((List.range (nNf cn)).map (fV E σ k i)).set j (cV E x)))) → va_S (aF E) s.heap H1 locs1 →
        W p l e R s m args below meth c H1 locs1 (nT σ - nT s0) (nU σ - nU s0) Q (F0 m (pc + 3) lsC (rr.map (cV E))) := by
      intro H1 locs1 hP1 _ hS1
      refine W_sz fun hz => ?_
      have hW1 : WD E s' H1 := by
        rw [← c3] at hP1
        refine WD.put E hW hv ht c2 c1 hP1 ?_
        have := hW.2.1
        have := h3.1
        omega
      have h4 := hk _ _ _ _ hq (by rw [ht]; exact h1) (by rw [ht]; exact okl_tl (okl_tl h2)) (by rw [ht, hu]; exact h3) H1 locs1 lsC hW1 hL hS1
      rw [ht, hu] at h4
      exact h4
    rcases hfin with hfin | ⟨hfin, hini, hdecl⟩
    · exact va_put (D := E.2.2.1) (cl := vwCl) (tys := tysF E) (ws := wL E σ) (C := RC cn) (T := TC cn) (N := nNf cn) (A := aF E) hC.1 hC.2.1 (fun w hw => hC.2.2.2.2.1 w hw) (clWs hcn) (tyC cn) (clTy hcn) (clNm hcn) hC.2.2.2.1 hC.2.2.2.2.2.1.1 hW.1 (wL_D E σ) hS (nOff k i) he (clAt hcn) j hj (hC.2.2.2.2.1 _ hl) (fun _ h9 => h9) hfin hpd hn hfit hlen hd fin
    · exact va_putF (D := E.2.2.1) (cl := vwCl) (tys := tysF E) (ws := wL E σ) (C := RC cn) (T := TC cn) (N := nNf cn) (A := aF E) hC.1 hC.2.1 (fun w hw => hC.2.2.2.2.1 w hw) (clWs hcn) (tyC cn) (clTy hcn) (clNm hcn) hC.2.2.2.1 hC.2.2.2.2.2.1.1 hW.1 (wL_D E σ) hS (nOff k i) he (clAt hcn) j hj (hC.2.2.2.2.1 _ hl) (fun _ h9 => h9) hfin (hC.2.2.2.2.2.2 hini) hdecl hpd hn hfit hlen hd fin
  have isint : ∀ (x : Int32) (k i : Nat) (rr : List AV), st = .inl x :: .inr (.inr (k, i)) :: rr → nKc k = cn → j < nNf cn → (nFt cn j = 0 ∨ (nFt cn j = 1 ∧ nIsb x = true)) → K (pc + 3) ls rr (nSt σ.1 k i j x, σ.2) = some r → Wf E nL s0 p l e R s m args below meth c Q pc ls st σ := by
    intro x k i rr hst hkc hj hf hq
    have hcn := nf_pos hj
    have ho := clOk hcn j hj
    have hch : okT (nT σ) (k, i) → okV (nT σ) (.inl x) → wfA σ.2.2 → wfA (nSt σ.1 k i j x, σ.2).2.2 ∧ (∀ k2 i2, okT (nT σ) (k2, i2) → (k2, i2) ≠ (k, i) → cE E (nSt σ.1 k i j x, σ.2) k2 i2 = cE E σ k2 i2) ∧ cE E (nSt σ.1 k i j x, σ.2) k i = .inr (cn - 1, ((List.range (nNf cn)).map (fV E σ k i)).set j (cV E (.inl x))) := by
      intro _ _ hA
      refine ⟨hA, fun k2 i2 _ hn => st_other hn, ?_⟩
      rw [cE_obj hkc (by omega)]
      rw [map_set (g := fV E (nSt σ.1 k i j x, σ.2) k i)]
      · have e1 : nSt σ.1 k i j x k i j = x := st_self _ _ _ _ _
        unfold fV
        rw [hkc]
        rcases hf with hf | ⟨hf, -⟩
        · rw [hf]; dsimp only; rw [e1]; rfl
        · rw [hf]; dsimp only; rw [e1]; rfl
      · intro d _ hd2
        unfold fV
        have e1 : nSt σ.1 k i j x k i d = σ.1 k i d := st_ne _ _ _ _ _ (fun q => hd2 q.2.2)
        dsimp only
        rw [e1]
    rcases hf with hf | ⟨hf, hb⟩
    · rw [hf] at ho
      simp only [okF, Bool.and_eq_true, beq_iff_eq, Bool.not_eq_true'] at ho
      exact key (.inl x) k i rr _ .int hst hkc hj hq rfl rfl ho.1 rfl rfl (Or.inl ho.2) hch
    · rw [hf] at ho
      simp only [okF, Bool.and_eq_true, beq_iff_eq, Bool.not_eq_true'] at ho
      have hx : x = 0 ∨ x = 1 := by simpa [nIsb] using hb
      exact key (.inl x) k i rr _ .boolean hst hkc hj hq rfl rfl ho.1 (by rcases hx with rfl | rfl <;> rfl) (by rcases hx with rfl | rfl <;> rfl) (Or.inl ho.2) hch
  rcases st with _ | ⟨x | x | ⟨k2, i2⟩, _ | ⟨y | y | ⟨k, i⟩, rr⟩⟩
  all_goals try (cases hK; done)
  · unfold pPut at hK
    dsimp only at hK
    cases hb : (nKc k == cn && Nat.blt j (nNf cn))
    · rw [hb] at hK; cases hK
    · rw [hb] at hK
      rw [Bool.and_eq_true] at hb
      dsimp only [cond_true] at hK
      rcases hf : nFt cn j with _ | _ | n
      · rw [hf] at hK
        exact isint x k i rr rfl (eq_of_beq hb.1) (Nat.blt_eq.mp hb.2) (Or.inl hf) hK
      · rw [hf] at hK
        try dsimp only at hK
        cases hx : nIsb x
        · rw [hx] at hK; cases hK
        · rw [hx] at hK
          exact isint x k i rr rfl (eq_of_beq hb.1) (Nat.blt_eq.mp hb.2) (Or.inr ⟨hf, hx⟩) hK
      · rw [hf] at hK; cases hK
  · unfold pPut at hK
    dsimp only at hK
    cases hb : (nKc k == cn && Nat.blt j (nNf cn))
    · rw [hb] at hK; cases hK
    · rw [hb] at hK
      rw [Bool.and_eq_true] at hb
      have hj : j < nNf cn := Nat.blt_eq.mp hb.2
      have hcn := nf_pos hj
      have ho := clOk hcn j hj
      have hkc : nKc k = cn := eq_of_beq hb.1
      dsimp only [cond_true] at hK
      rcases hf : nFt cn j with _ | _ | _ | n
      · rw [hf] at hK; cases hK
      · rw [hf] at hK; cases hK
      · rw [hf] at hK ho
        simp only [okF, Bool.and_eq_true, beq_iff_eq, Bool.not_eq_true'] at ho
        have hk30 : k = 30 := ft2 (by rw [hkc]; exact hj) (by rw [hkc]; exact hf)
        refine key (.inr (.inl x)) k i rr (σ.1, x, σ.2.2) .long rfl hkc hj hK rfl rfl ho.1 rfl rfl (Or.inl ho.2) (fun hv _ hA => ⟨hA, fun k2 i2 hv2 hn => cE_ext E (fun _ => rfl) (fun h => ?_) (fun _ _ => rfl), ?_⟩)
        · exfalso
          apply hn
          subst h
          subst hk30
          have e1 : i2 = 0 := by
            have := hv2.1
            dsimp only at this
            unfold nOff at this
            have h5 : nOb 30 + nOs 30 * i2 = 53 := by show 53 + 0 * i2 = 53; omega
            rw [h5] at this
            exact (congrArg Prod.snd this).symm
          have e2 : i = 0 := by
            have := hv.1
            dsimp only at this
            unfold nOff at this
            have h5 : nOb 30 + nOs 30 * i = 53 := by show 53 + 0 * i = 53; omega
            rw [h5] at this
            exact (congrArg Prod.snd this).symm
          rw [e1, e2]
        · rw [cE_obj hkc (by omega)]
          rw [map_set (g := fV E (σ.1, x, σ.2.2) k i)]
          · unfold fV
            rw [hkc, hf]
            rfl
          · intro d hdN hd2
            unfold fV
            dsimp only
            rw [hkc]
            have hne : nFt cn d ≠ 2 := by
              intro h6
              have : nKc 30 = cn := by rw [← hk30]; exact hkc
              have hc7 : cn = 7 := this.symm
              subst hc7
              have u2 : ∀ d, d < 49 → nFt 7 d = 2 → d = 24 := by decide
              exact hd2 ((u2 d hdN h6).trans (u2 j hj hf).symm)
            split
            · rename_i h6; exact absurd h6 hne
            · rfl
            · rfl
      · rw [hf] at hK; cases hK
  · unfold pPut at hK
    dsimp only at hK
    cases hb : (nKc k == cn && Nat.blt j (nNf cn))
    · rw [hb] at hK; cases hK
    · rw [hb] at hK
      rw [Bool.and_eq_true] at hb
      have hj : j < nNf cn := Nat.blt_eq.mp hb.2
      have hcn := nf_pos hj
      have ho := clOk hcn j hj
      have hkc : nKc k = cn := eq_of_beq hb.1
      dsimp only [cond_true] at hK
      rcases hf : nFt cn j with _ | _ | _ | _ | n
      · rw [hf] at hK; cases hK
      · rw [hf] at hK; cases hK
      · rw [hf] at hK; cases hK
      · rw [hf] at hK ho
        try dsimp only at hK
        cases hg : (k2 == (nTg k i j).1 && (i2 == (nTg k i j).2 && (ini && own == cn)))
        · rw [hg] at hK; cases hK
        · rw [hg] at hK
          simp only [Bool.and_eq_true, beq_iff_eq] at hg
          obtain ⟨g1, g2, g3, g4⟩ := hg
          simp only [okF, Bool.and_eq_true, beq_iff_eq] at ho
          have hrs : rsl k j = true := by
            unfold rsl
            rw [hkc, hf]
            simp only [bne_iff_ne, Bool.or_eq_true, Bool.and_eq_true, beq_iff_eq, Nat.blt_eq]
            exact Or.inr ⟨by omega, hj, trivial⟩
          have e0 : (k2, i2) = nTg k i j := by rw [g1, g2]
          refine key (.inr (.inr (k2, i2))) k i rr (σ.1, σ.2.1, nRset σ.2.2 k i j) (tyC cn j) rfl hkc hj hK (congrArg Prod.fst (rset_t σ.2.2 k i j)) (congrArg Prod.snd (rset_t σ.2.2 k i j)) rfl ?_ ?_ (Or.inr ⟨ho.1, g3, ho.2.1.trans (hown g4 hcn.1).symm⟩) (fun hv hv2 hA => ?_)
          · cases hty : tyC cn j <;> rfl
          · have := ho.2.2
            cases hty : tyC cn j <;> rw [hty] at this <;> first | rfl | cases this
          · have hne2 : k2 ≠ 0 ∧ k2 ≠ 1 ∧ k2 ≠ 70 := by
              have hn := rsl_small2 hv hrs
              have h5 := tg_small (nOff k i) hn j (rsl_lt hrs) (by rw [show (nIdAt (nOff k i)).1 = k from congrArg Prod.fst hv.1]; exact hrs)
              rw [show (nIdAt (nOff k i)).1 = k from congrArg Prod.fst hv.1, show (nIdAt (nOff k i)).2 = i from congrArg Prod.snd hv.1] at h5
              rw [g1]
              exact h5.2.2
            have hv3 : okT (nT σ) (nTg k i j) := by
              rw [← e0]
              exact okV.kc hv2 hne2
            refine ⟨rset_wf hA hv hv3, fun k3 i3 hv4 hn => cE_ext E (fun _ => rfl) (fun _ => rfl) (fun d hd2 => rset_rok_eq hv4 hd2 (fun q => hn (tri q))), ?_⟩
            rw [cE_obj hkc (by omega)]
            refine congrArg (fun z => Sum.inr (cn - 1, z)) (Eq.symm ?_)
            apply List.ext_getElem?
            intro d
            by_cases hd2 : d < nNf cn
            · by_cases e1 : d = j
              · subst e1
                rw [List.getElem?_set_self (by simpa using hd2)]
                simp only [List.getElem?_map, List.getElem?_range hd2, Option.map_some]
                unfold fV
                rw [hkc, hf]
                dsimp only
                rw [(rset_rok (A := σ.2.2) (k := k) (i := i) (j := d) hv hrs).mpr (Or.inl rfl)]
                rw [cV_ok (by rw [e0]; exact hv3), cond_true, g1, g2]
                rfl
              · rw [List.getElem?_set_ne (Ne.symm e1)]
                simp only [List.getElem?_map, List.getElem?_range hd2, Option.map_some]
                unfold fV
                dsimp only
                rw [hkc]
                split
                · rfl
                · rename_i h6
                  have hrs2 : rsl k d = true := by
                    unfold rsl
                    rw [hkc, h6]
                    simp only [bne_iff_ne, Bool.or_eq_true, Bool.and_eq_true, beq_iff_eq, Nat.blt_eq]
                    exact Or.inr ⟨by omega, hd2, trivial⟩
                  rw [rset_rok_eq hv hrs2 (fun q => e1 (congrArg (fun z => z.2.2) q))]
                · rfl
            · rw [List.getElem?_eq_none (by simp; omega), List.getElem?_eq_none (by simp; omega)]
      · rw [hf] at hK; cases hK
end
end
section
section
variable {E : EnvT} {X : Nat × (Nat → Int32)} {nL : Nat} {s0 : Mem} {p : Program} {l : Launch} {e : Env} {R : Room} {s : State} {m : MethodId} {args : Array Value} {below : List Frame} {meth : Method} {c : Code} {Q : State → Prop} {cc : ByteArray} {oC : String} {ini : Bool} {pc : Nat} {ls st : List AV} {σ : Mem} {K : Kon} {r : Res}
theorem fin_put {s' : Mem} {k i pc2 : Nat} {rr : List AV} {H H1 : Heap} {locs1 : List Loc} {lsC : Array Slot} (hs0 : s.heap.size = E.1.1 + nT s0) (hW : WD E σ H) (hv : okT (nT σ) (k, i)) (ht : nT s' = nT σ) (hu : nU s' = nU σ) (hA : wfA s'.2.2)
    (ho : ∀ k2 i2, okT (nT σ) (k2, i2) → (k2, i2) ≠ (k, i) → cE E s' k2 i2 = cE E σ k2 i2) (hP1 : va_P E.2.2.1 vwCl ((wL E σ).set (nOff k i) (cA E k i, cE E s' k i)) H1) (hS1 : va_S (aF E) s.heap H1 locs1) (hL : LH E nL lsC ls)
    (h1 : ∀ v ∈ ls, okV (nT σ) v) (h2 : ∀ v ∈ rr, okV (nT σ) v) (h3 : nT s0 ≤ nT σ ∧ nU s0 ≤ nU σ) (hk : Wf E nL s0 p l e R s m args below meth c Q pc2 ls rr s') :
    W p l e R s m args below meth c H1 locs1 (nT σ - nT s0) (nU σ - nU s0) Q (F0 m pc2 lsC (rr.map (cV E))) := by
  refine W_sz fun hz => ?_
  have hW1 : WD E s' H1 := by
    refine WD.put E hW hv ht ho hA hP1 ?_
    have := hW.2.1
    have := h3.1
    omega
  have h4 := hk (by rw [ht]; exact h1) (by rw [ht]; exact h2) (by rw [ht, hu]; exact h3) H1 locs1 lsC hW1 hL hS1
  rw [ht, hu] at h4
  exact h4
theorem st_upd (M : MM) (k i j : Nat) (v : Int32) : nSt M k i j v k i = upd (M k i) j v := by
  funext d
  unfold nSt upd
  by_cases h : d = j
  · rw [if_pos ⟨rfl, rfl, h⟩, if_pos h]
  · rw [if_neg (fun q => h q.2.2), if_neg h]
theorem sim_iald (hC : Ctx E X p R s m args meth c cc nL oC ini) (hd : decode cc pc = .ok (.iaload, 1))
    (hK : pIald X K pc ls st σ = some r) (hk : ∀ pc ls st σ', K pc ls st σ' = some r → Wf E nL s0 p l e R s m args below meth c Q pc ls st σ') : Wf E nL s0 p l e R s m args below meth c Q pc ls st σ := by
  rcases st with _ | ⟨x | x | ⟨k, j⟩, _ | ⟨y | y | ⟨k2, i2⟩, rr⟩⟩
  all_goals try (cases hK; done)
  unfold pIald at hK
  dsimp only at hK
  obtain ⟨g1, g2, g3, g4, g5, g6, g7⟩ := hC
  intro h1 h2 h3 H locs lsC hW hL hS
  by_cases h70 : k2 = 70
  · rw [if_pos h70] at hK
    cases hx : nIn x X.1
    · rw [hx] at hK; cases hK
    · rw [hx] at hK
      subst h70
      obtain ⟨-, -, -, -, -, -, -, k1, k2, k3, -⟩ := g6
      exact va_sld g1 g2 k1 (Nat.lt_of_lt_of_le k2 k3) (Nat.not_le.mpr k2) hS (in_iff hx) hd (hk _ _ _ _ hK h1 (okl_cons trivial (okl_tl (okl_tl h2))) h3 H locs lsC hW hL hS)
  · rw [if_neg h70] at hK
    cases ha : (nAk k2 == 1)
    · rw [ha] at hK; cases hK
    · rw [ha] at hK
      cases hx : nIn x (nAl k2)
      · rw [hx] at hK; cases hK
      · rw [hx] at hK
        have hv : okT (nT σ) (k2, i2) := okV.kc (okl_hd (okl_tl h2)) (ak_ne ha (by decide))
        have he := wL_at E σ hv
        rw [cE_int (eq_of_beq ha)] at he
        exact va_iald (D := E.2.2.1) (cl := vwCl) (tys := tysF E) (ws := wL E σ) g1 g2 g6.1 hW.1 (nOff k2 i2) 0 he rfl (in_iff hx) hd (hk _ _ _ _ hK h1 (okl_cons trivial (okl_tl (okl_tl h2))) h3 H locs lsC hW hL hS)
theorem sim_zald (hC : Ctx E X p R s m args meth c cc nL oC ini) (hd : decode cc pc = .ok (.baload, 1))
    (hK : pZald K pc ls st σ = some r) (hk : ∀ pc ls st σ', K pc ls st σ' = some r → Wf E nL s0 p l e R s m args below meth c Q pc ls st σ') : Wf E nL s0 p l e R s m args below meth c Q pc ls st σ := by
  rcases st with _ | ⟨x | x | ⟨k, j⟩, _ | ⟨y | y | ⟨k2, i2⟩, rr⟩⟩
  all_goals try (cases hK; done)
  unfold pZald at hK
  dsimp only at hK
  obtain ⟨g1, g2, g3, g4, g5, g6, g7⟩ := hC
  intro h1 h2 h3 H locs lsC hW hL hS
  cases ha : (nAk k2 == 2)
  · rw [ha] at hK; cases hK
  · rw [ha] at hK
    cases hx : nIn x (nAl k2)
    · rw [hx] at hK; cases hK
    · rw [hx] at hK
      have hv : okT (nT σ) (k2, i2) := okV.kc (okl_hd (okl_tl h2)) (ak_ne ha (by decide))
      have he := wL_at E σ hv
      rw [cE_bool (eq_of_beq ha)] at he
      exact va_zald (D := E.2.2.1) (cl := vwCl) (tys := tysF E) (ws := wL E σ) g1 g2 g6.1 hW.1 (nOff k2 i2) 1 he rfl (in_iff hx) hd (hk _ _ _ _ hK h1 (okl_cons trivial (okl_tl (okl_tl h2))) h3 H locs lsC hW hL hS)
theorem sim_aald (hC : Ctx E X p R s m args meth c cc nL oC ini) (hd : decode cc pc = .ok (.aaload, 1))
    (hK : pAald K pc ls st σ = some r) (hk : ∀ pc ls st σ', K pc ls st σ' = some r → Wf E nL s0 p l e R s m args below meth c Q pc ls st σ') : Wf E nL s0 p l e R s m args below meth c Q pc ls st σ := by
  rcases st with _ | ⟨x | x | ⟨k, j⟩, _ | ⟨y | y | ⟨k2, i2⟩, rr⟩⟩
  all_goals try (cases hK; done)
  unfold pAald at hK
  dsimp only at hK
  obtain ⟨g1, g2, g3, g4, g5, g6, g7⟩ := hC
  intro h1 h2 h3 H locs lsC hW hL hS
  cases ha : (nAk k2 == 3)
  · rw [ha] at hK; cases hK
  · rw [ha] at hK
    cases hx : nIn x (nAl k2)
    · rw [hx] at hK; cases hK
    · rw [hx] at hK
      cases ho : nRok σ.2.2 k2 i2 x.toNatClampNeg
      · rw [ho] at hK; cases hK
      · rw [ho] at hK
        have hv : okT (nT σ) (k2, i2) := okV.kc (okl_hd (okl_tl h2)) (ak_ne ha (by decide))
        have he := wL_at E σ hv
        have ha3 := eq_of_beq ha
        rw [cE_ref ha3] at he
        have hlt := in_lt hx
        have hrs : rsl k2 x.toNatClampNeg = true := by
          unfold rsl
          rw [ha3]
          simp only [Bool.or_eq_true, Bool.and_eq_true, beq_iff_eq, Nat.blt_eq]
          exact Or.inl ⟨trivial, hlt⟩
        have ht := wfA.tg hW.2.2 hv hrs ho
        have hcv := cV_ok (E := E) (k := (nTg k2 i2 x.toNatClampNeg).1) (i := (nTg k2 i2 x.toNatClampNeg).2) ht
        have hgo := hk _ _ _ _ hK h1 (okl_cons (Or.inr (Or.inr (Or.inr ht))) (okl_tl (okl_tl h2))) h3 H locs lsC hW hL hS
        have hrv : va_rf (rV E σ k2 i2 x.toNatClampNeg) = cV E (vR (nTg k2 i2 x.toNatClampNeg).1 (nTg k2 i2 x.toNatClampNeg).2) := by
          unfold rV
          rw [Nat.blt_eq.mpr hlt, ho]
          exact hcv.symm
        have hgo2 : W p l e R s m args below meth c H locs (nT σ - nT s0) (nU σ - nU s0) Q (F0 m (pc + 1) lsC (va_rf (rV E σ k2 i2 x.toNatClampNeg) :: rr.map (cV E))) := by
          rw [hrv]; exact hgo
        by_cases h13 : k2 = 13
        · subst h13
          exact va_aldq (D := E.2.2.1) (cl := vwCl) (tys := tysF E) (ws := wL E σ) (C := RX4) g1 g2 g6.1 hW.1 (nOff 13 i2) 2 he rfl (in_iff hx) hd hgo2
        · have h13b : (k2 == 13) = false := by simpa using h13
          rw [h13b] at he
          exact va_aldq (D := E.2.2.1) (cl := vwCl) (tys := tysF E) (ws := wL E σ) (C := RX3) g1 g2 g6.1 hW.1 (nOff k2 i2) 3 he rfl (in_iff hx) hd hgo2
theorem sim_iast (hC : Ctx E X p R s m args meth c cc nL oC ini) (hs0 : s.heap.size = E.1.1 + nT s0) (hd : decode cc pc = .ok (.iastore, 1))
    (hK : pIast K pc ls st σ = some r) (hk : ∀ pc ls st σ', K pc ls st σ' = some r → Wf E nL s0 p l e R s m args below meth c Q pc ls st σ') : Wf E nL s0 p l e R s m args below meth c Q pc ls st σ := by
  rcases st with _ | ⟨v | x | ⟨k, j⟩, _ | ⟨x | y | ⟨k2, j2⟩, _ | ⟨z | z | ⟨k3, i3⟩, rr⟩⟩⟩
  all_goals try (cases hK; done)
  unfold pIast at hK
  dsimp only at hK
  obtain ⟨g1, g2, g3, g4, g5, g6, g7⟩ := hC
  intro h1 h2 h3 H locs lsC hW hL hS
  cases ha : (nAk k3 == 1)
  · rw [ha] at hK; cases hK
  · rw [ha] at hK
    cases hx : nIn x (nAl k3)
    · rw [hx] at hK; cases hK
    · rw [hx] at hK
      have hv : okT (nT σ) (k3, i3) := okV.kc (okl_hd (okl_tl (okl_tl h2))) (ak_ne ha (by decide))
      have he := wL_at E σ hv
      have ha1 := eq_of_beq ha
      rw [cE_int ha1] at he
      refine va_iast (D := E.2.2.1) (cl := vwCl) (tys := tysF E) (ws := wL E σ) (A := aF E) g1 g2 g6.1 hW.1 (wL_D E σ) hS (nOff k3 i3) 0 he rfl (in_iff hx) hd (fun H1 locs1 hP1 _ hS1 => ?_)
      refine fin_put (s' := (nSt σ.1 k3 i3 x.toNatClampNeg v, σ.2)) hs0 hW hv rfl rfl hW.2.2 (fun k4 i4 _ hn => st_other hn) ?_ hS1 hL h1 (okl_tl (okl_tl (okl_tl h2))) h3 (hk _ _ _ _ hK)
      rw [cE_int ha1]
      dsimp only
      rw [st_upd]
      exact hP1
theorem sim_zast (hC : Ctx E X p R s m args meth c cc nL oC ini) (hs0 : s.heap.size = E.1.1 + nT s0) (hd : decode cc pc = .ok (.bastore, 1))
    (hK : pZast K pc ls st σ = some r) (hk : ∀ pc ls st σ', K pc ls st σ' = some r → Wf E nL s0 p l e R s m args below meth c Q pc ls st σ') : Wf E nL s0 p l e R s m args below meth c Q pc ls st σ := by
  rcases st with _ | ⟨v | x | ⟨k, j⟩, _ | ⟨x | y | ⟨k2, j2⟩, _ | ⟨z | z | ⟨k3, i3⟩, rr⟩⟩⟩
  all_goals try (cases hK; done)
  unfold pZast at hK
  dsimp only at hK
  obtain ⟨g1, g2, g3, g4, g5, g6, g7⟩ := hC
  intro h1 h2 h3 H locs lsC hW hL hS
  cases hab : (nAk k3 == 2 && nIsb v)
  · rw [hab] at hK; cases hK
  · rw [hab] at hK
    rw [Bool.and_eq_true] at hab
    obtain ⟨ha, hb⟩ := hab
    cases hx : nIn x (nAl k3)
    · rw [hx] at hK; cases hK
    · rw [hx] at hK
      have hv : okT (nT σ) (k3, i3) := okV.kc (okl_hd (okl_tl (okl_tl h2))) (ak_ne ha (by decide))
      have he := wL_at E σ hv
      have ha1 := eq_of_beq ha
      rw [cE_bool ha1] at he
      refine va_zast (D := E.2.2.1) (cl := vwCl) (tys := tysF E) (ws := wL E σ) (A := aF E) g1 g2 g6.1 hW.1 (wL_D E σ) hS (nOff k3 i3) 1 he rfl (in_iff hx) hd (fun H1 locs1 hP1 _ hS1 => ?_)
      refine fin_put (s' := (nSt σ.1 k3 i3 x.toNatClampNeg v, σ.2)) hs0 hW hv rfl rfl hW.2.2 (fun k4 i4 _ hn => st_other hn) ?_ hS1 hL h1 (okl_tl (okl_tl (okl_tl h2))) h3 (hk _ _ _ _ hK)
      have hvv : vp_nar .boolean v = v := by
        have hx : v = 0 ∨ v = 1 := by simpa [nIsb] using hb
        rcases hx with rfl | rfl <;> rfl
      rw [hvv] at hP1
      rw [cE_bool ha1]
      dsimp only
      rw [st_upd]
      exact hP1
theorem sim_aast (hC : Ctx E X p R s m args meth c cc nL oC ini) (hs0 : s.heap.size = E.1.1 + nT s0) (hd : decode cc pc = .ok (.aastore, 1))
    (hK : pAast K pc ls st σ = some r) (hk : ∀ pc ls st σ', K pc ls st σ' = some r → Wf E nL s0 p l e R s m args below meth c Q pc ls st σ') : Wf E nL s0 p l e R s m args below meth c Q pc ls st σ := by
  rcases st with _ | ⟨v | v | ⟨k2, i2⟩, _ | ⟨x | y | ⟨k4, j4⟩, _ | ⟨z | z | ⟨k, i⟩, rr⟩⟩⟩
  all_goals try (cases hK; done)
  unfold pAast at hK
  dsimp only at hK
  obtain ⟨g1, g2, g3, g4, g5, g6, g7⟩ := hC
  intro h1 h2 h3 H locs lsC hW hL hS
  cases ha : (nAk k == 3)
  · rw [ha] at hK; cases hK
  · rw [ha] at hK
    cases hx : nIn x (nAl k)
    · rw [hx] at hK; cases hK
    · rw [hx] at hK
      cases hg : (k2 == (nTg k i x.toNatClampNeg).1 && i2 == (nTg k i x.toNatClampNeg).2)
      · rw [hg] at hK; cases hK
      · rw [hg] at hK
        rw [Bool.and_eq_true] at hg
        have e1 := eq_of_beq hg.1
        have e2 := eq_of_beq hg.2
        have hv : okT (nT σ) (k, i) := okV.kc (okl_hd (okl_tl (okl_tl h2))) (ak_ne ha (by decide))
        have he := wL_at E σ hv
        have ha3 := eq_of_beq ha
        have hlt := in_lt hx
        have hrs : rsl k x.toNatClampNeg = true := by
          unfold rsl
          rw [ha3]
          simp only [Bool.or_eq_true, Bool.and_eq_true, beq_iff_eq, Nat.blt_eq]
          exact Or.inl ⟨trivial, hlt⟩
        have hne2 : k2 ≠ 0 ∧ k2 ≠ 1 ∧ k2 ≠ 70 := by
          have hn := rsl_small2 hv hrs
          have h5 := tg_small (nOff k i) hn _ (rsl_lt hrs) (by rw [show (nIdAt (nOff k i)).1 = k from congrArg Prod.fst hv.1]; exact hrs)
          rw [show (nIdAt (nOff k i)).1 = k from congrArg Prod.fst hv.1, show (nIdAt (nOff k i)).2 = i from congrArg Prod.snd hv.1] at h5
          rw [e1]
          exact h5.2.2
        have hv2 : okT (nT σ) (k2, i2) := okV.kc (okl_hd h2) hne2
        have hv3 : okT (nT σ) (nTg k i x.toNatClampNeg) := by
          have : (k2, i2) = nTg k i x.toNatClampNeg := by rw [e1, e2]
          rw [← this]; exact hv2
        have hec : k = 13 ∨ k = 17 := by
          unfold nAk at ha3
          split at ha3
          all_goals first | exact Or.inl rfl | exact Or.inr rfl | exact absurd ha3 (by decide)
        have hcA2 : cA E k2 i2 = E.1.1 + nOff (nTg k i x.toNatClampNeg).1 (nTg k i x.toNatClampNeg).2 := by
          unfold cA
          rw [if_neg hne2.2.1, if_neg hne2.2.2, e1, e2]
        have hcE : cE E (σ.1, σ.2.1, nRset σ.2.2 k i x.toNatClampNeg) k i = .inl (cond (k == 13) E.2.2.2.2.2.1 E.2.2.2.2.2.2, nAl k, .inr (.inr (.inr (.inr (va_up (rV E σ k i) x.toNatClampNeg (some (cA E k2 i2))))))) := by
          rw [cE_ref ha3]
          have : rV E (σ.1, σ.2.1, nRset σ.2.2 k i x.toNatClampNeg) k i = va_up (rV E σ k i) x.toNatClampNeg (some (cA E k2 i2)) := by
            funext d
            unfold va_up
            by_cases hd2 : d = x.toNatClampNeg
            · subst hd2
              rw [if_pos rfl]
              unfold rV
              dsimp only
              rw [(rset_rok (A := σ.2.2) (k := k) (i := i) hv hrs).mpr (Or.inl rfl), Nat.blt_eq.mpr hlt, hcA2]
              rfl
            · rw [if_neg hd2]
              unfold rV
              dsimp only
              by_cases hdl : d < nAl k
              · have hrs2 : rsl k d = true := by
                  unfold rsl
                  rw [ha3]
                  simp only [Bool.or_eq_true, Bool.and_eq_true, beq_iff_eq, Nat.blt_eq]
                  exact Or.inl ⟨trivial, hdl⟩
                rw [rset_rok_eq hv hrs2 (fun q => hd2 (by cases q; rfl))]
              · have hb : Nat.blt d (nAl k) = false := by rw [Bool.eq_false_iff]; intro q; exact hdl (Nat.blt_eq.mp q)
                rw [hb]
                rfl
          rw [this]
        rw [cE_ref ha3] at he
        have fin : ∀ (H1 : Heap) (locs1 : List Loc), va_P E.2.2.1 vwCl ((wL E σ).set (nOff k i) (cA E k i, .inl (cond (k == 13) E.2.2.2.2.2.1 E.2.2.2.2.2.2, nAl k, .inr (.inr (.inr (.inr (va_up (rV E σ k i) x.toNatClampNeg (some (cA E k2 i2))))))))) H1 → va_S (aF E) s.heap H1 locs1 →
            W p l e R s m args below meth c H1 locs1 (nT σ - nT s0) (nU σ - nU s0) Q (F0 m (pc + 1) lsC (rr.map (cV E))) := by
          intro H1 locs1 hP1 hS1
          refine fin_put (s' := (σ.1, σ.2.1, nRset σ.2.2 k i x.toNatClampNeg)) hs0 hW hv (congrArg Prod.fst (rset_t σ.2.2 k i _)) (congrArg Prod.snd (rset_t σ.2.2 k i _)) (rset_wf hW.2.2 hv hv3) (fun k4 i4 hv4 hn => cE_ext E (fun _ => rfl) (fun _ => rfl) (fun d hd2 => rset_rok_eq hv4 hd2 (fun q => hn (tri q)))) ?_ hS1 hL h1 (okl_tl (okl_tl (okl_tl h2))) h3 (hk _ _ _ _ hK)
          rw [hcE]
          exact hP1
        rcases hec with rfl | rfl
        · have k14 : k2 = 14 := e1
          subst k14
          have he2 := wL_at E σ hv2
          rw [cE_obj (cn := 4) rfl (by decide)] at he2
          exact va_astq (D := E.2.2.1) (cl := vwCl) (tys := tysF E) (ws := wL E σ) (A := aF E) (r := (RX4, TX4, 2)) g1 g2 g6.1 hW.1 (wL_D E σ) hS (nOff 13 i) 2 (nOff 14 i2) 3 he rfl he2 rfl (in_iff hx) hd (fun H1 locs1 hP1 _ hS1 => fin H1 locs1 hP1 hS1)
        · have k18 : k2 = 18 := e1
          subst k18
          have he2 := wL_at E σ hv2
          rw [cE_obj (cn := 3) rfl (by decide)] at he2
          exact va_astq (D := E.2.2.1) (cl := vwCl) (tys := tysF E) (ws := wL E σ) (A := aF E) (r := (RX3, TX3, 3)) g1 g2 g6.1 hW.1 (wL_D E σ) hS (nOff 17 i) 3 (nOff 18 i2) 2 he rfl he2 rfl (in_iff hx) hd (fun H1 locs1 hP1 _ hS1 => fin H1 locs1 hP1 hS1)
theorem sim_len (hC : Ctx E X p R s m args meth c cc nL oC ini) (hd : decode cc pc = .ok (.arraylength, 1))
    (hK : pLen X K pc ls st σ = some r) (hk : ∀ pc ls st σ', K pc ls st σ' = some r → Wf E nL s0 p l e R s m args below meth c Q pc ls st σ') : Wf E nL s0 p l e R s m args below meth c Q pc ls st σ := by
  rcases st with _ | ⟨x | x | ⟨k, i⟩, rr⟩
  all_goals try (cases hK; done)
  unfold pLen at hK
  dsimp only at hK
  obtain ⟨g1, g2, g3, g4, g5, g6, g7⟩ := hC
  intro h1 h2 h3 H locs lsC hW hL hS
  by_cases h70 : k = 70
  · rw [if_pos h70] at hK
    subst h70
    obtain ⟨-, -, -, -, -, -, -, k1, k2, k3, -⟩ := g6
    exact va_slen g1 g2 k1 (Nat.lt_of_lt_of_le k2 k3) (Nat.not_le.mpr k2) hS hd (hk _ _ _ _ hK h1 (okl_cons trivial (okl_tl h2)) h3 H locs lsC hW hL hS)
  · rw [if_neg h70] at hK
    cases ha : (nAk k == 0)
    · rw [ha] at hK
      have ha0 : nAk k ≠ 0 := by simpa using ha
      have hv : okT (nT σ) (k, i) := okV.kc (okl_hd h2) ⟨fun q => ha0 (by rw [q]; rfl), fun q => ha0 (by rw [q]; rfl), h70⟩
      have he := wL_at E σ hv
      have hgo := hk _ _ _ _ hK h1 (okl_cons trivial (okl_tl h2)) h3 H locs lsC hW hL hS
      have hle : nAk k = 1 ∨ nAk k = 2 ∨ nAk k = 3 := by
        revert ha0
        unfold nAk
        split <;> intro ha0 <;> first | exact Or.inl rfl | exact Or.inr (Or.inl rfl) | exact Or.inr (Or.inr rfl) | exact absurd rfl ha0
      rcases hle with h | h | h
      · rw [cE_int h] at he
        exact va_alen (D := E.2.2.1) (cl := vwCl) (tys := tysF E) (ws := wL E σ) g1 g2 g6.1 hW.1 (nOff k i) 0 he rfl rfl hd hgo
      · rw [cE_bool h] at he
        exact va_alen (D := E.2.2.1) (cl := vwCl) (tys := tysF E) (ws := wL E σ) g1 g2 g6.1 hW.1 (nOff k i) 1 he rfl rfl hd hgo
      · rw [cE_ref h] at he
        by_cases h13 : k = 13
        · subst h13
          exact va_alen (D := E.2.2.1) (cl := vwCl) (tys := tysF E) (ws := wL E σ) g1 g2 g6.1 hW.1 (nOff 13 i) 2 he rfl rfl hd hgo
        · have h13b : (k == 13) = false := by simpa using h13
          rw [h13b] at he
          exact va_alen (D := E.2.2.1) (cl := vwCl) (tys := tysF E) (ws := wL E σ) g1 g2 g6.1 hW.1 (nOff k i) 3 he rfl rfl hd hgo
    · rw [ha] at hK; cases hK
end
end
section
section
variable {E : EnvT} {X : Nat × (Nat → Int32)} {nL : Nat} {s0 : Mem} {p : Program} {l : Launch} {e : Env} {R : Room} {s : State} {m : MethodId} {args : Array Value} {below : List Frame} {meth : Method} {c : Code} {Q : State → Prop} {cc : ByteArray} {oC : String} {ini : Bool} {pc : Nat} {ls st : List AV} {σ : Mem} {K : Kon} {r : Res}
theorem mk_t (σ : Mem) (n : Nat) : nT (nMk σ n) = nT σ + 1 := rfl
theorem mk_u (σ : Mem) (n : Nat) : nU (nMk σ n) = nU σ + n := rfl
theorem z_ne (M : MM) (k i : Nat) {a b d : Nat} (h : ¬ (a = k ∧ b = i)) : nZ M k i a b d = M a b d := if_neg h
theorem z_self (M : MM) (k i d : Nat) : nZ M k i k i d = 0 := if_pos ⟨rfl, rfl⟩
theorem mk_other (σ : Mem) (n : Nat) {k2 i2 : Nat} (hv : okT (nT σ) (k2, i2)) : cE E (nMk σ n) k2 i2 = cE E σ k2 i2 := by
  have hn : ¬ (k2 = (nIdAt (nT σ)).1 ∧ i2 = (nIdAt (nT σ)).2) := by
    rintro ⟨rfl, rfl⟩
    have := hv.2.1
    dsimp only at this
    rw [off_idAt] at this
    omega
  refine cE_ext E (fun d => z_ne _ _ _ hn) (fun h => ?_) (fun _ _ => rfl)
  show cond ((nIdAt (nT σ)).1 == 30) 0 σ.2.1 = σ.2.1
  cases h9 : ((nIdAt (nT σ)).1 == 30)
  · rfl
  · exfalso
    have h30 := eq_of_beq h9
    have e1 : nOff k2 i2 = 53 := by
      subst h
      show 53 + 0 * i2 = 53
      omega
    have e2 : nT σ = 53 := by
      have := off_idAt (nT σ)
      rw [h30] at this
      have h7 : nOff 30 (nIdAt (nT σ)).2 = 53 := by
        show 53 + 0 * _ = 53
        omega
      omega
    have := hv.2.1
    dsimp only at this
    omega
theorem mk_wf {σ : Mem} (n : Nat) (h : wfA σ.2.2) : wfA (nMk σ n).2.2 := h.up _
theorem fin_new {s' : Mem} {pc2 N : Nat} {rr : List AV} {H H1 : Heap} {locs1 : List Loc} {lsC : Array Slot} {q : Nat} {x : va_E} (hs0 : s.heap.size = E.1.1 + nT s0) (hW : WD E σ H) (hs' : s' = nMk σ N) (hx : x = cE E s' (nIdAt (nT σ)).1 (nIdAt (nT σ)).2)
    (hP1 : va_P E.2.2.1 vwCl (wL E σ ++ [(q, x)]) H1) (hD1 : va_D (aF E) (wL E σ ++ [(q, x)])) (hS1 : va_S (aF E) s.heap H1 locs1) (hL : LH E nL lsC ls)
    (h1 : ∀ v ∈ ls, okV (nT σ) v) (h2 : ∀ v ∈ rr, okV (nT σ) v) (h3 : nT s0 ≤ nT σ ∧ nU s0 ≤ nU σ) (hk : Wf E nL s0 p l e R s m args below meth c Q pc2 ls (vR (nIdAt (nT σ)).1 (nIdAt (nT σ)).2 :: rr) s') :
    W p l e R s m args below meth c H1 locs1 (nT σ - nT s0 + 1) (nU σ - nU s0 + N) Q (F0 m pc2 lsC (.ref q :: rr.map (cV E))) := by
  refine W_sz fun hz => ?_
  have ht : nT s' = nT σ + 1 := by rw [hs']; rfl
  have hu : nU s' = nU σ + N := by rw [hs']; rfl
  obtain ⟨hW1, hq⟩ := WD.new E (s' := s') hW ht (fun k2 i2 hv => by rw [hs']; exact mk_other σ N hv) (by rw [hs']; exact mk_wf N hW.2.2) hx hP1 hD1 (by
    have := hW.2.1
    have := h3.1
    omega)
  have hle : nT σ ≤ nT s' := by omega
  have h4 := hk (fun v hv => (h1 v hv).le hle) (okl_cons (Or.inr (Or.inr (Or.inr (by rw [ht]; exact okT_idAt (Nat.lt_succ_self _))))) (fun v hv => (h2 v hv).le hle)) (by omega) H1 locs1 lsC hW1 hL hS1
  have e1 : nT s' - nT s0 = nT σ - nT s0 + 1 := by omega
  have e2 : nU s' - nU s0 = nU σ - nU s0 + N := by omega
  rw [e1, e2] at h4
  subst hq
  exact h4
theorem sim_new {cn idx : Nat} (hC : Ctx E X p R s m args meth c cc nL oC ini) (hs0 : s.heap.size = E.1.1 + nT s0) (hd : decode cc pc = .ok (.new idx, 3)) (hl : Cond.classLink oC idx (RC cn) ∈ gT) (hins : Cond.instantiable (RC cn) (nNf cn) ∈ gT) (hini : Cond.initialized (RC cn) ∈ gT)
    (hK : pNew K pc ls st σ cn = some r) (hk : ∀ pc ls st σ', K pc ls st σ' = some r → Wf E nL s0 p l e R s m args below meth c Q pc ls st σ') (hfin : ∀ pc ls st σ', K pc ls st σ' = some r → nT σ' ≤ nT s0 + R.cells ∧ nU σ' ≤ nU s0 + R.slots) : Wf E nL s0 p l e R s m args below meth c Q pc ls st σ := by
  unfold pNew at hK
  cases hb : (nKc (nIdAt σ.2.2.2.2.2.1).1 == cn && Nat.blt 0 cn)
  · rw [hb] at hK; cases hK
  · rw [hb] at hK
    rw [Bool.and_eq_true] at hb
    have hkc := eq_of_beq hb.1
    have h0 : 0 < cn := Nat.blt_eq.mp hb.2
    have hcn : 1 ≤ cn ∧ cn ≤ 7 := by
      refine ⟨h0, ?_⟩
      rw [← hkc]
      unfold nKc
      split <;> decide
    obtain ⟨g1, g2, g3, g4, g5, g6, g7⟩ := hC
    intro h1 h2 h3 H locs lsC hW hL hS
    have hf := hfin _ _ _ _ hK
    rw [mk_t, mk_u] at hf
    have hex : cE E (nMk σ (nNf cn)) (nIdAt (nT σ)).1 (nIdAt (nT σ)).2 = .inr (cn - 1, (List.range (nNf cn)).map (fV E (nMk σ (nNf cn)) (nIdAt (nT σ)).1 (nIdAt (nT σ)).2)) := cE_obj hkc (by omega)
    refine va_new (D := E.2.2.1) (cl := vwCl) (tys := tysF E) (ws := wL E σ) (A := aF E) (C := RC cn) (T := TC cn) (N := nNf cn) (fs := (List.range (nNf cn)).map (fV E (nMk σ (nNf cn)) (nIdAt (nT σ)).1 (nIdAt (nT σ)).2)) g1 g2 (fun w hw => g5 w hw) (clWs hcn) (tyC cn) (clTy hcn) g4 (g5 _ hl) (g5 _ hins) (g5 _ hini) g6.1 hW.1 (wL_D E σ) hS (fun q hq => by
        show E.1.1 ≤ q
        omega) (clAt hcn) ?_ (by omega) (by omega) hd (fun q H1 hP1 hD1 hS1 => ?_)
    · intro j hj
      have ho := clOk hcn j hj
      have hv : vp_V ((List.range (nNf cn)).map (fV E (nMk σ (nNf cn)) (nIdAt (nT σ)).1 (nIdAt (nT σ)).2)) j = fV E (nMk σ (nNf cn)) (nIdAt (nT σ)).1 (nIdAt (nT σ)).2 j := by
        simp [vp_V, hj]
      rw [hv]
      have e0 : (nMk σ (nNf cn)).1 (nIdAt (nT σ)).1 (nIdAt (nT σ)).2 j = 0 := z_self _ _ _ _
      unfold fV
      rw [hkc]
      rcases hf2 : nFt cn j with _ | _ | _ | _ | n
      · rw [hf2] at ho
        simp only [okF, Bool.and_eq_true, beq_iff_eq] at ho
        rw [ho.1]
        exact (congrArg Value.int e0).symm
      · rw [hf2] at ho
        simp only [okF, Bool.and_eq_true, beq_iff_eq] at ho
        rw [ho.1]
        exact (congrArg Value.int e0).symm
      · rw [hf2] at ho
        simp only [okF, Bool.and_eq_true, beq_iff_eq] at ho
        rw [ho.1]
        have h30 : (nIdAt (nT σ)).1 = 30 := ft2 (by rw [hkc]; exact hj) (by rw [hkc]; exact hf2)
        show Value.long 0 = Value.long (cond ((nIdAt (nT σ)).1 == 30) 0 σ.2.1)
        rw [h30]
        rfl
      · rw [hf2] at ho
        simp only [okF, Bool.and_eq_true, beq_iff_eq] at ho
        have hrs : rsl (nIdAt (nT σ)).1 j = true := by
          unfold rsl
          rw [hkc, hf2]
          simp only [bne_iff_ne, Bool.or_eq_true, Bool.and_eq_true, beq_iff_eq, Nat.blt_eq]
          exact Or.inr ⟨by omega, hj, trivial⟩
        have hro := new_rok hW.2.2 hrs
        have hro2 : nRok (nMk σ (nNf cn)).2.2 (nIdAt (nT σ)).1 (nIdAt (nT σ)).2 j = false := hro
        try dsimp only
        rw [hro2]
        have h9 := ho.2.2
        cases hty : tyC cn j <;> rw [hty] at h9 <;> first | rfl | cases h9
      · exfalso
        revert hf2
        have : nFt cn j ≤ 3 := by
          unfold nFt
          split <;> (try split) <;> decide
        omega
    · exact fin_new hs0 hW rfl hex.symm hP1 hD1 hS1 hL h1 h2 h3 (hk _ _ _ _ hK)
theorem sim_newI {x : Int32} {rr : List AV} (hC : Ctx E X p R s m args meth c cc nL oC ini) (hs0 : s.heap.size = E.1.1 + nT s0) (hd : decode cc pc = .ok (.newarray .int, 2)) (hl : Cond.arrayClass .int ∈ gT)
    (hK : pNewa K pc 2 ls st σ 1 = some r) (hk : ∀ pc ls st σ', K pc ls st σ' = some r → Wf E nL s0 p l e R s m args below meth c Q pc ls st σ') (hfin : ∀ pc ls st σ', K pc ls st σ' = some r → nT σ' ≤ nT s0 + R.cells ∧ nU σ' ≤ nU s0 + R.slots) : Wf E nL s0 p l e R s m args below meth c Q pc ls st σ := by
  rcases st with _ | ⟨x | x | ⟨k, i⟩, rr⟩
  all_goals try (cases hK; done)
  unfold pNewa at hK
  dsimp only at hK
  cases hb : (nAk (nIdAt σ.2.2.2.2.2.1).1 == 1 && x == Int32.ofNat (nAl (nIdAt σ.2.2.2.2.2.1).1))
  · rw [hb] at hK; cases hK
  · rw [hb] at hK
    rw [Bool.and_eq_true] at hb
    have hak := eq_of_beq hb.1
    have hx := eq_of_beq hb.2
    obtain ⟨g1, g2, g3, g4, g5, g6, g7⟩ := hC
    intro h1 h2 h3 H locs lsC hW hL hS
    have hf := hfin _ _ _ _ hK
    rw [mk_t, mk_u] at hf
    have hal : nAl (nIdAt σ.2.2.2.2.2.1).1 ≤ 960 := by
      unfold nAl
      split <;> decide
    have hex : cE E (nMk σ (nAl (nIdAt σ.2.2.2.2.2.1).1)) (nIdAt (nT σ)).1 (nIdAt (nT σ)).2 = .inl (E.2.2.2.1, nAl (nIdAt σ.2.2.2.2.2.1).1, .inl (fun _ => 0)) := by
      rw [cE_int hak]
      have : (nMk σ (nAl (nIdAt σ.2.2.2.2.2.1).1)).1 (nIdAt (nT σ)).1 (nIdAt (nT σ)).2 = fun _ => 0 := funext fun d => z_self _ _ _ _
      rw [this]
    refine va_newa (D := E.2.2.1) (cl := vwCl) (tys := tysF E) (ws := wL E σ) (A := aF E) (atype := .int) (ty := .int) (a0 := (nAl (nIdAt σ.2.2.2.2.2.1).1, .inl (fun _ => 0))) (N' := nAl (nIdAt σ.2.2.2.2.2.1).1) g1 g2 (g5 _ hl) rfl g6.1 hW.1 (wL_D E σ) hS (fun q hq => by
        show E.1.1 ≤ q
        omega) (fun _ => rfl) (by rw [hx]; exact nI_pos (n := nAl (nIdAt σ.2.2.2.2.2.1).1) (by omega)) (by rw [hx]; exact nI_clamp (n := nAl (nIdAt σ.2.2.2.2.2.1).1) (by omega)) (by
        show nAl (nIdAt σ.2.2.2.2.2.1).1 * 4 ≤ 536870912
        omega) (by omega) (by omega) hd (fun q cA2 H1 hK1 hP1 hD1 hS1 => ?_)
    have hcl : cA2 = E.2.2.2.1 := by
      have a1 := (hK1.2 4 (cA2, .int) rfl).2
      have a2 := (g6.1.2 0 (E.2.2.2.1, .int) rfl).2
      exact Option.some.inj (a1.symm.trans a2)
    subst hcl
    exact fin_new hs0 hW rfl hex.symm hP1 hD1 hS1 hL h1 (okl_tl h2) h3 (hk _ _ _ _ hK)
theorem sim_newZ (hC : Ctx E X p R s m args meth c cc nL oC ini) (hs0 : s.heap.size = E.1.1 + nT s0) (hd : decode cc pc = .ok (.newarray .boolean, 2)) (hl : Cond.arrayClass .boolean ∈ gT)
    (hK : pNewa K pc 2 ls st σ 2 = some r) (hk : ∀ pc ls st σ', K pc ls st σ' = some r → Wf E nL s0 p l e R s m args below meth c Q pc ls st σ') (hfin : ∀ pc ls st σ', K pc ls st σ' = some r → nT σ' ≤ nT s0 + R.cells ∧ nU σ' ≤ nU s0 + R.slots) : Wf E nL s0 p l e R s m args below meth c Q pc ls st σ := by
  rcases st with _ | ⟨x | x | ⟨k, i⟩, rr⟩
  all_goals try (cases hK; done)
  unfold pNewa at hK
  dsimp only at hK
  cases hb : (nAk (nIdAt σ.2.2.2.2.2.1).1 == 2 && x == Int32.ofNat (nAl (nIdAt σ.2.2.2.2.2.1).1))
  · rw [hb] at hK; cases hK
  · rw [hb] at hK
    rw [Bool.and_eq_true] at hb
    have hak := eq_of_beq hb.1
    have hx := eq_of_beq hb.2
    obtain ⟨g1, g2, g3, g4, g5, g6, g7⟩ := hC
    intro h1 h2 h3 H locs lsC hW hL hS
    have hf := hfin _ _ _ _ hK
    rw [mk_t, mk_u] at hf
    have hal : nAl (nIdAt σ.2.2.2.2.2.1).1 ≤ 960 := by
      unfold nAl
      split <;> decide
    have hex : cE E (nMk σ (nAl (nIdAt σ.2.2.2.2.2.1).1)) (nIdAt (nT σ)).1 (nIdAt (nT σ)).2 = .inl (E.2.2.2.2.1, nAl (nIdAt σ.2.2.2.2.2.1).1, .inl (fun _ => 0)) := by
      rw [cE_bool hak]
      have : (nMk σ (nAl (nIdAt σ.2.2.2.2.2.1).1)).1 (nIdAt (nT σ)).1 (nIdAt (nT σ)).2 = fun _ => 0 := funext fun d => z_self _ _ _ _
      rw [this]
    refine va_newa (D := E.2.2.1) (cl := vwCl) (tys := tysF E) (ws := wL E σ) (A := aF E) (atype := .boolean) (ty := .boolean) (a0 := (nAl (nIdAt σ.2.2.2.2.2.1).1, .inl (fun _ => 0))) (N' := nAl (nIdAt σ.2.2.2.2.2.1).1) g1 g2 (g5 _ hl) rfl g6.1 hW.1 (wL_D E σ) hS (fun q hq => by
        show E.1.1 ≤ q
        omega) (fun _ => rfl) (by rw [hx]; exact nI_pos (n := nAl (nIdAt σ.2.2.2.2.2.1).1) (by omega)) (by rw [hx]; exact nI_clamp (n := nAl (nIdAt σ.2.2.2.2.2.1).1) (by omega)) (by
        show nAl (nIdAt σ.2.2.2.2.2.1).1 * 1 ≤ 536870912
        omega) (by omega) (by omega) hd (fun q cA2 H1 hK1 hP1 hD1 hS1 => ?_)
    have hcl : cA2 = E.2.2.2.2.1 := by
      have a1 := (hK1.2 4 (cA2, .boolean) rfl).2
      have a2 := (g6.1.2 1 (E.2.2.2.2.1, .boolean) rfl).2
      exact Option.some.inj (a1.symm.trans a2)
    subst hcl
    exact fin_new hs0 hW rfl hex.symm hP1 hD1 hS1 hL h1 (okl_tl h2) h3 (hk _ _ _ _ hK)
theorem sim_newA {cn idx : Nat} (hC : Ctx E X p R s m args meth c cc nL oC ini) (hs0 : s.heap.size = E.1.1 + nT s0) (hd : decode cc pc = .ok (.anewarray idx, 3)) (hl : Cond.classLink oC idx (RC cn) ∈ gT)
    (hK : cond (nAnk cn == (nIdAt σ.2.2.2.2.2.1).1) (pNewa K pc 3 ls st σ 3) none = some r) (hk : ∀ pc ls st σ', K pc ls st σ' = some r → Wf E nL s0 p l e R s m args below meth c Q pc ls st σ') (hfin : ∀ pc ls st σ', K pc ls st σ' = some r → nT σ' ≤ nT s0 + R.cells ∧ nU σ' ≤ nU s0 + R.slots) : Wf E nL s0 p l e R s m args below meth c Q pc ls st σ := by
  cases hkb : (nAnk cn == (nIdAt σ.2.2.2.2.2.1).1)
  · rw [hkb] at hK; cases hK
  rw [hkb] at hK
  rw [cond_true] at hK
  rcases st with _ | ⟨x | x | ⟨k, i⟩, rr⟩
  all_goals try (cases hK; done)
  unfold pNewa at hK
  dsimp only at hK
  cases hb : (nAk (nIdAt σ.2.2.2.2.2.1).1 == 3 && x == Int32.ofNat (nAl (nIdAt σ.2.2.2.2.2.1).1))
  · rw [hb] at hK; cases hK
  · rw [hb] at hK
    rw [Bool.and_eq_true] at hb
    have hak := eq_of_beq hb.1
    have hx := eq_of_beq hb.2
    have hkk := eq_of_beq hkb
    have hcn : cn = 4 ∨ cn = 3 := by
      rcases Nat.lt_or_ge cn 3 with q | q
      · exfalso
        have : nAnk cn = 0 := by unfold nAnk; split <;> first | rfl | omega
        rw [← hkk, this] at hak
        cases hak
      · rcases Nat.lt_or_ge cn 5 with q2 | q2
        · omega
        · exfalso
          have : nAnk cn = 0 := by unfold nAnk; split <;> first | rfl | omega
          rw [← hkk, this] at hak
          cases hak
    obtain ⟨g1, g2, g3, g4, g5, g6, g7⟩ := hC
    intro h1 h2 h3 H locs lsC hW hL hS
    have hf := hfin _ _ _ _ hK
    rw [mk_t, mk_u] at hf
    have hal : nAl (nIdAt σ.2.2.2.2.2.1).1 ≤ 960 := by
      unfold nAl
      split <;> decide
    have hrv : rV E (nMk σ (nAl (nIdAt σ.2.2.2.2.2.1).1)) (nIdAt (nT σ)).1 (nIdAt (nT σ)).2 = fun _ => none := by
      funext d
      unfold rV
      by_cases hdl : d < nAl (nIdAt (nT σ)).1
      · have hrs : rsl (nIdAt (nT σ)).1 d = true := by
          unfold rsl
          rw [hak]
          simp only [Bool.or_eq_true, Bool.and_eq_true, beq_iff_eq, Nat.blt_eq]
          exact Or.inl ⟨trivial, hdl⟩
        have hro2 : nRok (nMk σ (nAl (nIdAt σ.2.2.2.2.2.1).1)).2.2 (nIdAt (nT σ)).1 (nIdAt (nT σ)).2 d = false := new_rok hW.2.2 hrs
        rw [hro2, Bool.and_false]
        rfl
      · have hb2 : Nat.blt d (nAl (nIdAt (nT σ)).1) = false := by rw [Bool.eq_false_iff]; intro q; exact hdl (Nat.blt_eq.mp q)
        rw [hb2]
        rfl
    have hex : cE E (nMk σ (nAl (nIdAt σ.2.2.2.2.2.1).1)) (nIdAt (nT σ)).1 (nIdAt (nT σ)).2 = .inl (cond ((nIdAt (nT σ)).1 == 13) E.2.2.2.2.2.1 E.2.2.2.2.2.2, nAl (nIdAt σ.2.2.2.2.2.1).1, .inr (.inr (.inr (.inr (fun _ => none))))) := by
      rw [cE_ref hak, hrv]
    have hn1 : ¬ x < 0 := by rw [hx]; exact nI_pos (n := nAl (nIdAt σ.2.2.2.2.2.1).1) (by omega)
    have hn2 : x.toNatClampNeg = nAl (nIdAt σ.2.2.2.2.2.1).1 := by rw [hx]; exact nI_clamp (n := nAl (nIdAt σ.2.2.2.2.2.1).1) (by omega)
    rcases hcn with rfl | rfl
    · have e13 : (nIdAt (nT σ)).1 = 13 := hkk.symm
      refine va_newq (D := E.2.2.1) (cl := vwCl) (tys := tysF E) (ws := wL E σ) (A := aF E) (C := RX4) (N' := nAl (nIdAt σ.2.2.2.2.2.1).1) g1 g2 g4 (g5 _ hl) g6.2.2.1.1 g6.1 hW.1 (wL_D E σ) hS (fun q hq => by
        show E.1.1 ≤ q
        omega) hn1 hn2 (by omega) (by omega) (by omega) hd (fun q cA2 H1 hK1 hP1 hD1 hS1 => ?_)
      have hcl : cA2 = E.2.2.2.2.2.1 := by
        obtain ⟨_, _, _, _, _, a1⟩ := (hK1.2 4 (cA2, .object RX4) rfl).2
        obtain ⟨_, _, _, _, _, a2⟩ := (g6.1.2 2 (E.2.2.2.2.2.1, .object RX4) rfl).2
        exact Option.some.inj (a1.symm.trans a2)
      subst hcl
      rw [e13] at hex
      exact fin_new hs0 hW rfl (by rw [e13]; exact hex.symm) hP1 hD1 hS1 hL h1 (okl_tl h2) h3 (hk _ _ _ _ hK)
    · have e17 : (nIdAt (nT σ)).1 = 17 := hkk.symm
      refine va_newq (D := E.2.2.1) (cl := vwCl) (tys := tysF E) (ws := wL E σ) (A := aF E) (C := RX3) (N' := nAl (nIdAt σ.2.2.2.2.2.1).1) g1 g2 g4 (g5 _ hl) g6.2.2.1.2 g6.1 hW.1 (wL_D E σ) hS (fun q hq => by
        show E.1.1 ≤ q
        omega) hn1 hn2 (by omega) (by omega) (by omega) hd (fun q cA2 H1 hK1 hP1 hD1 hS1 => ?_)
      have hcl : cA2 = E.2.2.2.2.2.2 := by
        obtain ⟨_, _, _, _, _, a1⟩ := (hK1.2 4 (cA2, .object RX3) rfl).2
        obtain ⟨_, _, _, _, _, a2⟩ := (g6.1.2 3 (E.2.2.2.2.2.2, .object RX3) rfl).2
        exact Option.some.inj (a1.symm.trans a2)
      subst hcl
      rw [e17] at hex
      exact fin_new hs0 hW rfl (by rw [e17]; exact hex.symm) hP1 hD1 hS1 hL h1 (okl_tl h2) h3 (hk _ _ _ _ hK)
end
end
section
/-! calls, and the host's own methods on text constants -/
theorem good_self {y : MethodName} {cc : ByteArray} {n : Nat} {ret : Option FieldType} (i : Nat) (h : lw_tbl[i]? = some (.code y cc n ret)) : GoodIn gT (Cond.code y cc n ret :: gT) := by
  intro w hw
  rcases List.mem_cons.mp hw with rfl | hw
  · exact ⟨gT_in i h rfl, good_of_word rfl⟩
  · exact ⟨hw, good_of_word (gT_good hw)⟩
theorem W_run {p : Program} {l : Launch} {e : Env} {R : Room} {s : State} {m : MethodId} {args : Array Value} {below : List Frame} {meth : Method} {c : Code} {Q : State → Prop} {H : Heap} {locs : List Loc} {cells slots mc ms pc : Nat} {lsC : Array Slot} {st0 rest : List Value} {Qa : State → Outcome → State → Prop} {free : Addr → Prop}
    (hr : va_Run p l e R s m args below meth c H locs cells slots mc ms (F0 m pc lsC st0) rest Qa free)
    (kk : ∀ (v : Option Value) (st1 t : State) (L : List Loc), st1.heap = H → Qa st1 (.returned v) t → (∀ q ∈ L, free q.base) → W p l e R s m args below meth c t.heap (locs ++ L) (cells + mc) (slots + ms) Q (F0 m (pc + 3) lsC (v.toList ++ rest))) : W p l e R s m args below meth c H locs cells slots Q (F0 m pc lsC st0) := by
  intro T hT X
  obtain ⟨v, st1, t, T', L, h0, X', hL, e1, e2, hq, st⟩ := hr T hT X
  obtain ⟨t2, a1, b1⟩ := kk v st1 t L h0 hq hL T' e1 X'
  exact ⟨t2, st t2 a1, b1⟩
/-- a method's start: its surroundings stand -/
theorem met_in {l : Launch} {E : EnvT} {X : Nat × (Nat → Int32)} {y : MethodName} {cc : ByteArray} {maxL : Nat} {ret : Option FieldType} {rm : Room} {av : List Value} {B : State → Prop} {Qc : Array Value → State → Outcome → State → Prop} {mc ms : Nat} (ini : Bool) (hini : ini = true → y.name = "<init>") (hy : plainName y.cls = true) (hlen : (lg_sl av).length ≤ maxL)
    (body : ∀ (p : Program) (e : Env) (s : State) (m : MethodId) (below : List Frame) (meth : Method) (c : Code), Ctx E X p rm s m av.toArray meth c cc maxL y.cls ini → meth.sig.returnType = ret → meth.locks = false → B s → ∀ lsC, lv_has lsC maxL (lv_args 0 av) →
      W p l e rm s m av.toArray below meth c s.heap [] 0 0 (MQ below Qc av.toArray s mc ms (aF E)) (F0 m 0 lsC [])) : Met l y (Cond.code y cc maxL ret :: gT) rm (va_Pc av (fun U => B U ∧ KF E X U)) Qc mc ms (aF E) := by
  refine Met.ofW (cc := cc) (maxL := maxL) (ret := ret) hy rfl ?_
  intro p e s m args below meth c s₁ Bd hml hv
  obtain ⟨rfl, hB, hKF⟩ := hv
  have hts := atoms_spec (ws := Cond.code y cc maxL ret :: gT) Bd.pre
  have hown : s.vm.findClass y.cls = some m.cls := findClass_of_methodNamed Bd.named
  have hl := lv_entry av (n := maxL) hlen
  rw [lg_entry_eq]
  exact body p e s m below meth c ⟨Bd.exec, Bd.bytes, hml, hown, fun w hw => hts w (List.mem_cons_of_mem _ hw), hKF, fun h => (name_of_methodNamed Bd.named Bd.method).1.trans (hini h)⟩ Bd.returns Bd.notSynchronized hB _ hl
def QJ (v : Option Value) : Array Value → State → Outcome → State → Prop := fun _ st o t => o = .returned v ∧ t.heap = st.heap
def BT : State → Prop := fun _ => True
theorem blind_B {E : EnvT} {X : Nat × (Nat → Int32)} {av : List Value} {B : State → Prop} (hB : ∀ (U V : State), V.heap = U.heap → B U → B V) : FrameBlind (va_Pc av (fun U => B U ∧ KF E X U)) := by
  intro a U g mk h
  exact ⟨h.1, hB U _ rfl h.2.1, h.2.2.same rfl rfl⟩
def rmJ (k : Nat) : Room := { frames := k, cells := 0, slots := 0, locals := 32 * k }
section
variable {E : EnvT} {X : Nat × (Nat → Int32)} {l : Launch}
theorem str_lt : ∀ i, i < 13 → strN.getD i 0 < 2 ^ 31 ∧ strN.getD i 0 = nSlen i := by decide +kernel
theorem gg (i : Nat) {w : Cond} (h : lw_tbl[i]? = some w) (hg : goodWord w = true) {args : Array Value} {s : State} (hts : ∀ w ∈ gT, w.before args s = true) : w.before args s = true := hts w (gT_in i h hg)
theorem m_coder {i : Nat} (hi : i < 13) : Met l yJ0_coder_7d493 (Cond.code yJ0_coder_7d493 cJ0_coder_7d493 1 (some .byte) :: gT) (rmJ 0) (va_Pc [.ref (E.2.1 i)] (fun U => BT U ∧ KF E X U)) (QJ (some (.int 0))) 0 0 (aF E) := by
  refine met_in false (fun h => by cases h) (by decide +kernel) (Nat.le_of_ble_eq_true rfl) ?_
  intro p e s m below meth c hC hr hlocks _ lsC hl
  obtain ⟨hx, hb, hml, hown, hts, hKF, -⟩ := hC
  obtain ⟨-, -, -, -, ⟨adV, hvS⟩, hZ, -, -⟩ := hKF
  have hl : lv_has lsC 1 [(0, .ref (E.2.1 i))] := hl
  refine va_gets hx hb hZ va_S.rf hown (gg 251 (w := .fieldLink RJ0 38 "java/lang/String" "COMPACT_STRINGS" "Z") (by decide +kernel) rfl hts) (fun _ h => h) (by decide +kernel : decode cJ0_coder_7d493 0 = .ok (.getstatic 38, 3)) ?_
  refine lv_if_eq (tgt := 13) hx hb (by decide +kernel : decode cJ0_coder_7d493 3 = .ok (.ifCond .eq 10, 3)) (by decide) (fun h => absurd h (by decide)) (fun _ => ?_)
  refine lv_aload_n hx hb (by decide +kernel : decode cJ0_coder_7d493 6 = .ok (.aload_n 0, 1)) rfl (lv_at hl 0 rfl) ?_
  refine vk_getf hx hb (hvS.1 i hi).2.1 va_S.rf hown (gg 1260 (w := .fieldLink RJ0 15 "java/lang/String" "coder" "B") (by decide +kernel) rfl hts) (fun _ h => h) (by decide +kernel : decode cJ0_coder_7d493 7 = .ok (.getfield 15, 3)) ?_
  refine lv_goto (tgt := 14) hx hb (by decide +kernel : decode cJ0_coder_7d493 10 = .ok (.goto 4, 3)) (by decide) ?_
  exact W.zret hx hb hr rfl (fun t ht _ => ⟨rfl, ht⟩) (fun q h => by cases h) (by decide +kernel : decode cJ0_coder_7d493 14 = .ok (.ireturn, 1))
theorem m_isLatin1 {i : Nat} (hi : i < 13) : Met l yJ0_isLatin1_aae02 (Cond.code yJ0_isLatin1_aae02 cJ0_isLatin1_aae02 1 (some .boolean) :: gT) (rmJ 0) (va_Pc [.ref (E.2.1 i)] (fun U => BT U ∧ KF E X U)) (QJ (some (.int 1))) 0 0 (aF E) := by
  refine met_in false (fun h => by cases h) (by decide +kernel) (Nat.le_of_ble_eq_true rfl) ?_
  intro p e s m below meth c hC hr hlocks _ lsC hl
  obtain ⟨hx, hb, hml, hown, hts, hKF, -⟩ := hC
  obtain ⟨-, -, -, -, ⟨adV, hvS⟩, hZ, -, -⟩ := hKF
  have hl : lv_has lsC 1 [(0, .ref (E.2.1 i))] := hl
  refine va_gets hx hb hZ va_S.rf hown (gg 251 (w := .fieldLink RJ0 38 "java/lang/String" "COMPACT_STRINGS" "Z") (by decide +kernel) rfl hts) (fun _ h => h) (by decide +kernel : decode cJ0_isLatin1_aae02 0 = .ok (.getstatic 38, 3)) ?_
  refine lv_if_eq (tgt := 17) hx hb (by decide +kernel : decode cJ0_isLatin1_aae02 3 = .ok (.ifCond .eq 14, 3)) (by decide) (fun h => absurd h (by decide)) (fun _ => ?_)
  refine lv_aload_n hx hb (by decide +kernel : decode cJ0_isLatin1_aae02 6 = .ok (.aload_n 0, 1)) rfl (lv_at hl 0 rfl) ?_
  refine vk_getf hx hb (hvS.1 i hi).2.1 va_S.rf hown (gg 1260 (w := .fieldLink RJ0 15 "java/lang/String" "coder" "B") (by decide +kernel) rfl hts) (fun _ h => h) (by decide +kernel : decode cJ0_isLatin1_aae02 7 = .ok (.getfield 15, 3)) ?_
  refine lv_if_ne (tgt := 17) hx hb (by decide +kernel : decode cJ0_isLatin1_aae02 10 = .ok (.ifCond .ne 7, 3)) (by decide) (fun h => absurd rfl h) (fun _ => ?_)
  refine lv_iconst (v := 1) hx hb (by decide +kernel : decode cJ0_isLatin1_aae02 13 = .ok (.iconst 1, 1)) (by decide) ?_
  refine lv_goto (tgt := 18) hx hb (by decide +kernel : decode cJ0_isLatin1_aae02 14 = .ok (.goto 4, 3)) (by decide) ?_
  exact W.zret hx hb hr rfl (fun t ht _ => ⟨rfl, ht⟩) (fun q h => by cases h) (by decide +kernel : decode cJ0_isLatin1_aae02 18 = .ok (.ireturn, 1))
theorem m_check3 {k n : Nat} (hk : k < n) (hn : n < 2 ^ 31) (z : Value) : Met l yJ3_checkIndex_8e157 (Cond.code yJ3_checkIndex_8e157 cJ3_checkIndex_8e157 3 (some .int) :: gT) (rmJ 0) (va_Pc [.int (nI k), .int (nI n), z] (fun U => (BT U ∧ z.category = 1) ∧ KF E X U)) (QJ (some (.int (nI k)))) 0 0 (aF E) := by
  by_cases hz : z.category = 1
  · refine met_in (B := fun U => BT U ∧ z.category = 1) false (fun h => by cases h) (by decide +kernel) (by cases z <;> first | exact Nat.le_of_ble_eq_true rfl | cases hz) ?_
    intro p e s m below meth c hC hr hlocks _ lsC hl
    obtain ⟨hx, hb, hml, hown, hts, hKF, -⟩ := hC
    have hl : lv_has lsC 3 [(0, .int (nI k)), (1, .int (nI n)), (2, z)] := hl
    refine lv_iload_n hx hb (by decide +kernel : decode cJ3_checkIndex_8e157 0 = .ok (.iload_n 0, 1)) rfl (lv_at hl 0 rfl) ?_
    refine lv_if_lt (tgt := 9) hx hb (by decide +kernel : decode cJ3_checkIndex_8e157 1 = .ok (.ifCond .lt 8, 3)) (by decide) (fun h => absurd h (nI_pos (by omega))) (fun _ => ?_)
    refine lv_iload_n hx hb (by decide +kernel : decode cJ3_checkIndex_8e157 4 = .ok (.iload_n 0, 1)) rfl (lv_at hl 0 rfl) ?_
    refine lv_iload_n hx hb (by decide +kernel : decode cJ3_checkIndex_8e157 5 = .ok (.iload_n 1, 1)) rfl (lv_at hl 1 rfl) ?_
    refine lv_icmp_lt (tgt := 16) hx hb (by decide +kernel : decode cJ3_checkIndex_8e157 6 = .ok (.if_icmp .lt 10, 3)) (by decide) (fun _ => ?_) (fun h => absurd (nI_lt hk hn) h)
    refine lv_iload_n hx hb (by decide +kernel : decode cJ3_checkIndex_8e157 16 = .ok (.iload_n 0, 1)) rfl (lv_at hl 0 rfl) ?_
    exact W.iret hx hb hr (fun t ht _ => ⟨rfl, ht⟩) (fun q h => by cases h) (by decide +kernel : decode cJ3_checkIndex_8e157 17 = .ok (.ireturn, 1))
  · refine Met.ofW (cc := cJ3_checkIndex_8e157) (maxL := 3) (ret := some .int) (by decide +kernel) rfl ?_
    intro p e s m args below meth c s₁ Bd hml hv
    exact absurd hv.2.1.2 hz
theorem m_checkS {k n : Nat} (hk : k < n) (hn : n < 2 ^ 31) : Met l yJ0_checkIndex_df160 (Cond.code yJ0_checkIndex_df160 cJ0_checkIndex_df160 2 none :: gT) (rmJ 1) (va_Pc [.int (nI k), .int (nI n)] (fun U => BT U ∧ KF E X U)) (QJ none) 0 0 (aF E) := by
  refine met_in false (fun h => by cases h) (by decide +kernel) (Nat.le_of_ble_eq_true rfl) ?_
  intro p e s m below meth c hC hr hlocks _ lsC hl
  obtain ⟨hx, hb, hml, hown, hts, hKF, -⟩ := hC
  have hKF0 := hKF
  obtain ⟨-, -, -, -, ⟨adV, hvS⟩, hZ, hZq, -, -, hz10, -⟩ := hKF
  have hl : lv_has lsC 2 [(0, .int (nI k)), (1, .int (nI n))] := hl
  refine lv_iload_n hx hb (by decide +kernel : decode cJ0_checkIndex_df160 0 = .ok (.iload_n 0, 1)) rfl (lv_at hl 0 rfl) ?_
  refine lv_iload_n hx hb (by decide +kernel : decode cJ0_checkIndex_df160 1 = .ok (.iload_n 1, 1)) rfl (lv_at hl 1 rfl) ?_
  have go : ∀ z : Value, z.category = 1 → va_Z "jdk/internal/util/Preconditions" "SIOOBE_FORMATTER" "Ljava/util/function/BiFunction;" z (aF E) s s.heap → W p l e (rmJ 1) s m [Value.int (nI k), Value.int (nI n)].toArray below meth c s.heap [] 0 0 (MQ below (QJ none) [Value.int (nI k), Value.int (nI n)].toArray s 0 0 (aF E)) (F0 m 2 lsC [.int (nI n), .int (nI k)]) := by
    intro z hz hZz
    refine va_gets hx hb hZz va_S.rf hown (gg 267 (w := .fieldLink RJ0 1053 "jdk/internal/util/Preconditions" "SIOOBE_FORMATTER" "Ljava/util/function/BiFunction;") (by decide +kernel) rfl hts) (fun _ h => h) (by decide +kernel : decode cJ0_checkIndex_df160 2 = .ok (.getstatic 1053, 3)) ?_
    refine W_run (va_runS (As := [.int (nI k), .int (nI n), z]) (rest := []) ⟨hx, hb, hml, hown, hts⟩ (m_check3 (E := E) (X := X) hk hn z) ⟨callB_of 3 hts (good_self 271 (by decide +kernel)) rfl rfl rfl (gg 80 (w := .initialized RJ3) (by decide +kernel) rfl hts) (gg 269 (w := .methodLink RJ0 1059 yJ3_checkIndex_8e157) (by decide +kernel) rfl hts) (by decide +kernel) ⟨by decide, by decide⟩, gg 270 (w := .static yJ3_checkIndex_8e157) (by decide +kernel) rfl hts⟩
      ⟨blind_B (fun U V _ h => h), fun U hU hW => ⟨rfl, ⟨trivial, hz⟩, hKF0.moved hW (fun a _ => by rw [hU]) (by rw [hU]; exact hz10)⟩⟩ rfl rfl hl.1 rfl (lv_room (Nat.le_of_ble_eq_true rfl)) (by decide +kernel : decode cJ0_checkIndex_df160 5 = .ok (.invokestatic 1059, 3)) ⟨by decide, by decide⟩) ?_
    intro v st1 t L h0 hq hL
    obtain ⟨hq1, hq2⟩ := hq
    cases hq1
    rw [hq2, h0]
    refine lv_pop hx hb (by decide +kernel : decode cJ0_checkIndex_df160 8 = .ok (.pop, 1)) rfl ?_
    exact W.vret hx hb hr (fun t ht _ => ⟨rfl, ht⟩) (fun q h => by
      rcases List.mem_append.mp h with h | h
      · cases h
      · exact hL q h) (by decide +kernel : decode cJ0_checkIndex_df160 9 = .ok (.return_, 1))
  rcases hZq with h | ⟨t, h⟩
  · exact go _ rfl h
  · exact go _ rfl h
theorem m_length {i : Nat} (hi : i < 13) : Met l yJ0_length_8abf5 (Cond.code yJ0_length_8abf5 cJ0_length_8abf5 1 (some .int) :: gT) (rmJ 1) (va_Pc [.ref (E.2.1 i)] (fun U => BT U ∧ KF E X U)) (QJ (some (.int (Int32.ofNat (nSlen i))))) 0 0 (aF E) := by
  refine met_in false (fun h => by cases h) (by decide +kernel) (Nat.le_of_ble_eq_true rfl) ?_
  intro p e s m below meth c hC hr hlocks _ lsC hl
  obtain ⟨hx, hb, hml, hown, hts, hKF, -⟩ := hC
  have hKF0 := hKF
  obtain ⟨-, -, -, -, ⟨adV, hvS⟩, hZ, -, -, -, hz10, -⟩ := hKF
  have hl : lv_has lsC 1 [(0, .ref (E.2.1 i))] := hl
  have hs := str_lt i hi
  refine lv_aload_n hx hb (by decide +kernel : decode cJ0_length_8abf5 0 = .ok (.aload_n 0, 1)) rfl (lv_at hl 0 rfl) ?_
  refine vk_getf hx hb (hvS.1 i hi).2.2.1 va_S.rf hown (gg 1259 (w := .fieldLink RJ0 9 "java/lang/String" "value" "[B") (by decide +kernel) rfl hts) (fun _ h => h) (by decide +kernel : decode cJ0_length_8abf5 1 = .ok (.getfield 9, 3)) ?_
  refine va_tlen hx hb (hvS.1 i hi).2.2.2 va_S.rf rfl (by decide +kernel : decode cJ0_length_8abf5 4 = .ok (.arraylength, 1)) ?_
  refine lv_aload_n hx hb (by decide +kernel : decode cJ0_length_8abf5 5 = .ok (.aload_n 0, 1)) rfl (lv_at hl 0 rfl) ?_
  refine W_run (va_runV (C := RJ0) (As := []) (rest := [.int (Int32.ofNat (strN.getD i 0))]) ⟨hx, hb, hml, hown, hts⟩ (m_coder (E := E) (X := X) hi) ⟨callB_of 0 hts (good_self 250 (by decide +kernel)) rfl rfl rfl (gg 78 (w := .initialized RJ0) (by decide +kernel) rfl hts) (gg 247 (w := .methodLink RJ0 335 yJ0_coder_7d493) (by decide +kernel) rfl hts) (by decide +kernel) ⟨by decide, by decide⟩, gg 248 (w := .instanceMethod yJ0_coder_7d493) (by decide +kernel) rfl hts, gg 249 (w := .selects RJ0 yJ0_coder_7d493 yJ0_coder_7d493) (by decide +kernel) rfl hts⟩
    ⟨blind_B (fun U V _ h => h), vk_recv hvS hi va_S.rf, fun U hU hW => ⟨rfl, trivial, hKF0.moved hW (fun a _ => by rw [hU]) (by rw [hU]; exact hz10)⟩⟩ rfl rfl hl.1 rfl (lv_room (Nat.le_of_ble_eq_true rfl)) (by decide +kernel : decode cJ0_length_8abf5 6 = .ok (.invokevirtual 335, 3)) ⟨by decide, by decide⟩) ?_
  intro v st1 t L h0 hq hL
  obtain ⟨hq1, hq2⟩ := hq
  cases hq1
  rw [hq2, h0]
  refine lv_ishr hx hb (by decide +kernel : decode cJ0_length_8abf5 9 = .ok (.ishr, 1)) ?_
  have e0 : Int32.ofNat (strN.getD i 0) >>> ((0 : Int32) &&& 31) = Int32.ofNat (nSlen i) := by
    rw [← hs.2]
    exact sc_shr0 hs.1
  rw [e0]
  exact W.iret hx hb hr (fun t ht _ => ⟨rfl, ht⟩) (fun q h => by
      rcases List.mem_append.mp h with h | h
      · cases h
      · exact hL q h) (by decide +kernel : decode cJ0_length_8abf5 10 = .ok (.ireturn, 1))
theorem str_ch : ∀ i, i < 13 → ∀ k, k < 40 → ((((strB.getD i []).getD k 0 &&& 255).toUInt32 % 65536).toInt32 = nSch i k ∧ narrow .char (.int (nSch i k)) = .int (nSch i k)) ∧ nSlen i ≤ 40 := by decide +kernel
theorem m_charL {i k : Nat} (hi : i < 13) (hk : k < nSlen i) {adV : Nat → Nat} : Met l yJ1_charAt_3b067 (Cond.code yJ1_charAt_3b067 cJ1_charAt_3b067 2 (some .char) :: gT) (rmJ 2) (va_Pc [.ref (adV i), .int (nI k)] (fun U => va_T .byte (adV i) (strN.getD i 0) (fun j => .int ((strB.getD i []).getD j 0)) (aF E) U U.heap ∧ KF E X U)) (QJ (some (.int (nSch i k)))) 0 0 (aF E) := by
  refine met_in false (fun h => by cases h) (by decide +kernel) (Nat.le_of_ble_eq_true rfl) ?_
  intro p e s m below meth c hC hr hlocks hT lsC hl
  obtain ⟨hx, hb, hml, hown, hts, hKF, -⟩ := hC
  have hKF0 := hKF
  obtain ⟨-, -, -, -, -, hZ, -, -, -, hz10, -⟩ := hKF
  have hl : lv_has lsC 2 [(0, .ref (adV i)), (1, .int (nI k))] := hl
  have hs := str_lt i hi
  have hk40 : k < 40 := Nat.lt_of_lt_of_le hk (str_ch i hi 0 (by decide)).2
  refine lv_iload_n hx hb (by decide +kernel : decode cJ1_charAt_3b067 0 = .ok (.iload_n 1, 1)) rfl (lv_at hl 1 rfl) ?_
  refine lv_aload_n hx hb (by decide +kernel : decode cJ1_charAt_3b067 1 = .ok (.aload_n 0, 1)) rfl (lv_at hl 0 rfl) ?_
  refine va_tlen hx hb hT va_S.rf rfl (by decide +kernel : decode cJ1_charAt_3b067 2 = .ok (.arraylength, 1)) ?_
  refine W_run (va_runS (As := [.int (nI k), .int (nI (strN.getD i 0))]) (rest := []) ⟨hx, hb, hml, hown, hts⟩ (m_checkS (E := E) (X := X) (k := k) (n := strN.getD i 0) (by omega) hs.1) ⟨callB_of 2 hts (good_self 266 (by decide +kernel)) rfl rfl rfl (gg 78 (w := .initialized RJ0) (by decide +kernel) rfl hts) (gg 264 (w := .methodLink RJ1 9 yJ0_checkIndex_df160) (by decide +kernel) rfl hts) (by decide +kernel) ⟨by decide, by decide⟩, gg 265 (w := .static yJ0_checkIndex_df160) (by decide +kernel) rfl hts⟩
    ⟨blind_B (fun U V _ h => h), fun U hU hW => ⟨rfl, trivial, hKF0.moved hW (fun a _ => by rw [hU]) (by rw [hU]; exact hz10)⟩⟩ rfl rfl hl.1 rfl (lv_room (Nat.le_of_ble_eq_true rfl)) (by decide +kernel : decode cJ1_charAt_3b067 3 = .ok (.invokestatic 9, 3)) ⟨by decide, by decide⟩) ?_
  intro v st1 t L h0 hq hL
  obtain ⟨hq1, hq2⟩ := hq
  cases hq1
  rw [hq2, h0]
  have hS2 : va_S (aF E) s.heap s.heap ([] ++ L) := ⟨Nat.le_refl _, fun _ _ _ => rfl, fun q h => by
    rcases List.mem_append.mp h with h | h
    · cases h
    · exact hL q h⟩
  refine lv_aload_n hx hb (by decide +kernel : decode cJ1_charAt_3b067 6 = .ok (.aload_n 0, 1)) rfl (lv_at hl 0 rfl) ?_
  refine lv_iload_n hx hb (by decide +kernel : decode cJ1_charAt_3b067 7 = .ok (.iload_n 1, 1)) rfl (lv_at hl 1 rfl) ?_
  refine va_tb hx hb hT hS2 (vp_in_nI (by omega) hs.1) rfl (by decide +kernel : decode cJ1_charAt_3b067 8 = .ok (.baload, 1)) ?_
  refine lv_sipush (v := 255) hx hb (by decide +kernel : decode cJ1_charAt_3b067 9 = .ok (.sipush 255, 3)) (by decide) ?_
  refine lv_iand hx hb (by decide +kernel : decode cJ1_charAt_3b067 12 = .ok (.iand, 1)) ?_
  rw [nI_clamp (by omega)]
  refine lv_i2c hx hb (by decide +kernel : decode cJ1_charAt_3b067 13 = .ok (.i2c, 1)) (str_ch i hi k hk40).1.1 ?_
  exact W.zret hx hb hr (str_ch i hi k hk40).1.2 (fun t ht _ => ⟨rfl, ht⟩) hS2.2.2 (by decide +kernel : decode cJ1_charAt_3b067 14 = .ok (.ireturn, 1))
theorem m_charAt {i k : Nat} (hi : i < 13) (hk : k < nSlen i) : Met l yJ0_charAt_5068e (Cond.code yJ0_charAt_5068e cJ0_charAt_5068e 2 (some .char) :: gT) (rmJ 3) (va_Pc [.ref (E.2.1 i), .int (nI k)] (fun U => BT U ∧ KF E X U)) (QJ (some (.int (nSch i k)))) 0 0 (aF E) := by
  refine met_in false (fun h => by cases h) (by decide +kernel) (Nat.le_of_ble_eq_true rfl) ?_
  intro p e s m below meth c hC hr hlocks _ lsC hl
  obtain ⟨hx, hb, hml, hown, hts, hKF, -⟩ := hC
  have hKF0 := hKF
  obtain ⟨-, -, -, -, ⟨adV, hvS⟩, hZ, -, -, -, hz10, -⟩ := hKF
  have hl : lv_has lsC 2 [(0, .ref (E.2.1 i)), (1, .int (nI k))] := hl
  have hs := str_lt i hi
  have hk40 : k < 40 := Nat.lt_of_lt_of_le hk (str_ch i hi 0 (by decide)).2
  refine lv_aload_n hx hb (by decide +kernel : decode cJ0_charAt_5068e 0 = .ok (.aload_n 0, 1)) rfl (lv_at hl 0 rfl) ?_
  refine W_run (va_runV (C := RJ0) (As := []) (rest := []) ⟨hx, hb, hml, hown, hts⟩ (m_isLatin1 (E := E) (X := X) hi) ⟨callB_of 0 hts (good_self 260 (by decide +kernel)) rfl rfl rfl (gg 78 (w := .initialized RJ0) (by decide +kernel) rfl hts) (gg 257 (w := .methodLink RJ0 492 yJ0_isLatin1_aae02) (by decide +kernel) rfl hts) (by decide +kernel) ⟨by decide, by decide⟩, gg 258 (w := .instanceMethod yJ0_isLatin1_aae02) (by decide +kernel) rfl hts, gg 259 (w := .selects RJ0 yJ0_isLatin1_aae02 yJ0_isLatin1_aae02) (by decide +kernel) rfl hts⟩
    ⟨blind_B (fun U V _ h => h), vk_recv hvS hi va_S.rf, fun U hU hW => ⟨rfl, trivial, hKF0.moved hW (fun a _ => by rw [hU]) (by rw [hU]; exact hz10)⟩⟩ rfl rfl hl.1 rfl (lv_room (Nat.le_of_ble_eq_true rfl)) (by decide +kernel : decode cJ0_charAt_5068e 1 = .ok (.invokevirtual 492, 3)) ⟨by decide, by decide⟩) ?_
  intro v st1 t L h0 hq hL
  obtain ⟨hq1, hq2⟩ := hq
  cases hq1
  rw [hq2, h0]
  have hS2 : va_S (aF E) s.heap s.heap ([] ++ L) := ⟨Nat.le_refl _, fun _ _ _ => rfl, fun q h => by
    rcases List.mem_append.mp h with h | h
    · cases h
    · exact hL q h⟩
  refine lv_if_eq (tgt := 16) hx hb (by decide +kernel : decode cJ0_charAt_5068e 4 = .ok (.ifCond .eq 12, 3)) (by decide) (fun h => absurd h (by decide)) (fun _ => ?_)
  refine lv_aload_n hx hb (by decide +kernel : decode cJ0_charAt_5068e 7 = .ok (.aload_n 0, 1)) rfl (lv_at hl 0 rfl) ?_
  refine vk_getf hx hb (hvS.1 i hi).2.2.1 hS2 hown (gg 1259 (w := .fieldLink RJ0 9 "java/lang/String" "value" "[B") (by decide +kernel) rfl hts) (fun _ h => h) (by decide +kernel : decode cJ0_charAt_5068e 8 = .ok (.getfield 9, 3)) ?_
  refine lv_iload_n hx hb (by decide +kernel : decode cJ0_charAt_5068e 11 = .ok (.iload_n 1, 1)) rfl (lv_at hl 1 rfl) ?_
  refine W_run (va_runS (As := [.ref (adV i), .int (nI k)]) (rest := []) ⟨hx, hb, hml, hown, hts⟩ (m_charL (E := E) (X := X) (adV := adV) hi hk) ⟨callB_of 2 hts (good_self 263 (by decide +kernel)) rfl rfl rfl (gg 79 (w := .initialized RJ1) (by decide +kernel) rfl hts) (gg 261 (w := .methodLink RJ0 495 yJ1_charAt_3b067) (by decide +kernel) rfl hts) (by decide +kernel) ⟨by decide, by decide⟩, gg 262 (w := .static yJ1_charAt_3b067) (by decide +kernel) rfl hts⟩
    ⟨fun a U g mk h => ⟨h.1, (h.2.1.moved (U := U.calling g mk a) (Vm.Alike.refl _)), h.2.2.same rfl rfl⟩, fun U hU hW => ⟨rfl, by rw [hU]; exact (hvS.1 i hi).2.2.2.moved hW.alike, hKF0.moved hW (fun a _ => by rw [hU]) (by rw [hU]; exact hz10)⟩⟩ rfl rfl hl.1 rfl (lv_room (Nat.le_of_ble_eq_true rfl)) (by decide +kernel : decode cJ0_charAt_5068e 12 = .ok (.invokestatic 495, 3)) ⟨by decide, by decide⟩) ?_
  intro v st2 t2 L2 h02 hq hL2
  obtain ⟨hq1, hq2⟩ := hq
  cases hq1
  rw [hq2, h02]
  exact W.zret hx hb hr (str_ch i hi k hk40).1.2 (fun t ht _ => ⟨rfl, ht⟩) (fun q h => by
      rcases List.mem_append.mp h with h | h
      · exact hS2.2.2 q h
      · exact hL2 q h) (by decide +kernel : decode cJ0_charAt_5068e 15 = .ok (.ireturn, 1))
end
end
section
abbrev MD : Type := MethodName × ByteArray × Nat × Option FieldType × Nat × Bool × Nat × Nat × Nat × Nat
def mdL : List MD := [(yX0_init, cX0_init, 1, none, 0, false, 179, 178, 0, 75),
  (yX0_search, cX0_search, 4, none, 2, false, 626, 624, 625, 75),
  (yX0_clear, cX0_clear, 2, none, 0, false, 630, 629, 20, 75),
  (yX0_isInShoe, cX0_isInShoe, 3, (some .boolean), 1, false, 634, 633, 21, 75),
  (yX0_found, cX0_found, 5, none, 0, false, 638, 637, 22, 75),
  (yX0_stepOn, cX0_stepOn, 3, none, 1, false, 642, 641, 23, 75),
  (yX0_takeUp, cX0_takeUp, 5, none, 3, false, 646, 645, 24, 75),
  (yX1_takes, cX1_takes, 4, (some .int), 4, true, 511, 510, 0, 85),
  (yX1_takesUnbounded, cX1_takesUnbounded, 4, (some .int), 4, true, 514, 513, 0, 85),
  (yX1_keeps, cX1_keeps, 3, (some .int), 3, true, 492, 491, 0, 85),
  (yX1_sure, cX1_sure, 3, (some .int), 3, true, 500, 499, 0, 85),
  (yX1_isUnder, cX1_isUnder, 2, (some .boolean), 2, true, 768, 767, 0, 85),
  (yX2_init, cX2_init, 1, none, 0, false, 138, 137, 0, 74),
  (yX2_add, cX2_add, 2, (some .int), 1, false, 298, 296, 297, 74),
  (yX2_read, cX2_read, 2, (some .int), 0, false, 306, 304, 305, 74),
  (yX2_readLevel, cX2_readLevel, 6, (some .boolean), 2, false, 350, 349, 5, 74),
  (yX2_readNot, cX2_readNot, 2, (some .boolean), 1, false, 362, 361, 8, 74),
  (yX2_readOne, cX2_readOne, 3, (some .boolean), 1, false, 354, 353, 6, 74),
  (yX2_levelOf, cX2_levelOf, 1, (some .int), 1, true, 365, 364, 0, 74),
  (yX2_stepOf, cX2_stepOf, 1, (some .int), 1, true, 368, 367, 0, 74),
  (yX2_put, cX2_put, 2, none, 1, false, 358, 357, 7, 74),
  (yX2_next, cX2_next, 1, none, 0, false, 310, 309, 0, 74),
  (yX2_nextWord, cX2_nextWord, 3, none, 0, false, 318, 317, 2, 74),
  (yX2_nextNumber, cX2_nextNumber, 1, none, 0, false, 343, 342, 4, 74),
  (yX2_isIn, cX2_isIn, 4, (some .boolean), 3, false, 314, 313, 1, 74),
  (yX2_isSign, cX2_isSign, 1, (some .boolean), 1, true, 346, 345, 0, 74),
  (yX2_isToken, cX2_isToken, 3, (some .boolean), 1, false, 337, 336, 3, 74),
  (yX2_wordOf, cX2_wordOf, 1, (some (.object "java/lang/String")), 1, true, 321, 320, 0, 74),
  (yX3_init, cX3_init, 1, none, 0, false, 227, 226, 0, 77),
  (yX3_isSort, cX3_isSort, 1, (some .boolean), 1, true, 740, 739, 0, 77),
  (yX3_isMissing, cX3_isMissing, 1, (some .boolean), 0, false, 618, 616, 617, 77),
  (yX3_has, cX3_has, 2, (some .boolean), 1, false, 748, 746, 747, 77),
  (yX3_hasRun, cX3_hasRun, 3, (some .boolean), 2, false, 756, 754, 755, 77),
  (yX3_becomes, cX3_becomes, 4, none, 2, false, 597, 595, 596, 77),
  (yX3_put, cX3_put, 3, none, 2, false, 601, 599, 600, 77),
  (yX3_all, cX3_all, 1, (some .int), 0, false, 605, 603, 604, 77),
  (yX4_init, cX4_init, 1, none, 0, false, 215, 214, 0, 76),
  (yX4_becomes, cX4_becomes, 3, none, 2, false, 372, 370, 371, 76),
  (yX4_value, cX4_value, 7, (some .int), 3, false, 480, 478, 479, 76),
  (yX4_joined, cX4_joined, 3, (some .int), 3, true, 483, 482, 0, 76),
  (yX5_init, cX5_init, 1, none, 0, false, 98, 97, 0, 73),
  (yX5_has, cX5_has, 2, (some .boolean), 1, false, 431, 429, 430, 73),
  (yX5_comes, cX5_comes, 5, (some .int), 2, false, 456, 454, 455, 73),
  (yX5_becomes, cX5_becomes, 2, none, 1, false, 720, 718, 719, 73),
  (yX5_allOnCoast, cX5_allOnCoast, 2, (some .int), 1, false, 445, 443, 444, 73),
  (yX5_allInShoe, cX5_allInShoe, 2, (some .int), 1, false, 435, 433, 434, 73),
  (yX5_allInShoes, cX5_allInShoes, 1, (some .int), 0, false, 733, 731, 732, 73),
  (yX5_apart, cX5_apart, 5, (some .int), 2, false, 542, 540, 541, 73),
  (yX5_oddest, cX5_oddest, 5, (some .int), 1, false, 562, 560, 561, 73),
  (yX5_poorest, cX5_poorest, 3, (some .int), 0, false, 557, 555, 556, 73),
  (yX6_init, cX6_init, 2, none, 0, false, 90, 89, 0, 72),
  (yX6_set, cX6_set, 5, (some .int), 3, false, 417, 415, 416, 72),
  (yX6_person, cX6_person, 3, (some .int), 2, false, 452, 450, 451, 72),
  (yX6_told, cX6_told, 3, (some .int), 2, false, 421, 419, 420, 72),
  (yX6_asks, cX6_asks, 4, (some .int), 3, false, 461, 459, 460, 72),
  (yX6_feed, cX6_feed, 2, (some .int), 1, false, 294, 292, 293, 72),
  (yX6_text, cX6_text, 2, (some .int), 0, false, 302, 300, 301, 72),
  (yX6_force, cX6_force, 3, (some .int), 1, false, 521, 519, 520, 72),
  (yX6_stay, cX6_stay, 5, (some .int), 2, false, 525, 523, 524, 72),
  (yX6_shake, cX6_shake, 4, (some .int), 1, false, 529, 527, 528, 72),
  (yX6_like, cX6_like, 4, (some .int), 3, false, 534, 532, 533, 72),
  (yX6_odd, cX6_odd, 4, (some .int), 2, false, 553, 551, 552, 72),
  (yX6_mean, cX6_mean, 4, (some .long), 3, false, 567, 565, 566, 72),
  (yX6_stays, cX6_stays, 4, (some .int), 3, false, 578, 576, 577, 72),
  (yX6_pack, cX6_pack, 6, (some .int), 3, false, 590, 588, 589, 72),
  (yX6_fit, cX6_fit, 5, (some .int), 3, false, 610, 608, 609, 72),
  (yX6_share, cX6_share, 5, (some .long), 4, false, 650, 648, 649, 72),
  (yX6_go, cX6_go, 10, (some .int), 4, false, 654, 652, 653, 72),
  (yX6_tells, cX6_tells, 6, (some .int), 4, false, 673, 671, 672, 72),
  (yX6_film, cX6_film, 6, (some .int), 3, false, 693, 691, 692, 72),
  (yX6_drawn, cX6_drawn, 4, (some .int), 3, false, 697, 695, 696, 72),
  (yX6_chance, cX6_chance, 8, (some .long), 5, false, 711, 709, 710, 72),
  (yX6_image, cX6_image, 1, (some .int), 0, false, 716, 714, 715, 72),
  (yX6_back, cX6_back, 1, (some .int), 0, false, 725, 723, 724, 72),
  (yX6_count, cX6_count, 2, (some .int), 1, false, 729, 727, 728, 72),
  (yX6_sheet, cX6_sheet, 4, (some .int), 3, false, 737, 735, 736, 72),
  (yX6_cell, cX6_cell, 5, (some .int), 3, false, 744, 742, 743, 72),
  (yX6_copy, cX6_copy, 8, (some .int), 5, false, 752, 750, 751, 72),
  (yX6_people, cX6_people, 9, (some .int), 4, false, 760, 758, 759, 72),
  (yX6_taken, cX6_taken, 3, (some .int), 2, false, 765, 763, 764, 72),
  (yX6_isCoast, cX6_isCoast, 1, (some .boolean), 1, true, 441, 440, 0, 72),
  (yX6_isMark, cX6_isMark, 1, (some .boolean), 1, true, 464, 463, 0, 72),
  (yX6_isPart, cX6_isPart, 1, (some .boolean), 1, true, 570, 569, 0, 72),
  (yX6_isSheet, cX6_isSheet, 1, (some .boolean), 1, true, 593, 592, 0, 72),
  (yX6_areTwo, cX6_areTwo, 3, (some .boolean), 2, false, 538, 537, 15, 72),
  (yX6_isPlace, cX6_isPlace, 2, (some .boolean), 2, true, 424, 423, 0, 72),
  (yX6_placeOf, cX6_placeOf, 1, (some .int), 1, true, 427, 426, 0, 72),
  (yX6_mostOf, cX6_mostOf, 1, (some .int), 1, true, 448, 447, 0, 72),
  (yX6_areStays, cX6_areStays, 3, (some .boolean), 1, true, 581, 580, 0, 72),
  (yX6_valueOf, cX6_valueOf, 5, (some .int), 3, false, 476, 475, 11, 72),
  (yX6_nameAll, cX6_nameAll, 7, none, 6, false, 472, 471, 10, 72),
  (yX6_takesOf, cX6_takesOf, 7, (some .int), 6, false, 508, 507, 14, 72),
  (yX6_takesNow, cX6_takesNow, 4, (some .int), 3, false, 504, 503, 13, 72),
  (yX6_keepsOf, cX6_keepsOf, 4, (some .int), 2, false, 468, 467, 9, 72),
  (yX6_sureOf, cX6_sureOf, 5, (some .int), 3, false, 497, 496, 12, 72),
  (yX6_tellsExaminer, cX6_tellsExaminer, 5, (some .int), 2, false, 549, 548, 16, 72),
  (yX6_tellDailyTakes, cX6_tellDailyTakes, 6, none, 1, false, 622, 621, 19, 72),
  (yX6_takesByStays, cX6_takesByStays, 7, (some .int), 3, false, 586, 585, 17, 72),
  (yX6_findFits, cX6_findFits, 3, (some .int), 2, false, 614, 613, 18, 72),
  (yX6_neverGoesBack, cX6_neverGoesBack, 6, (some .boolean), 2, true, 657, 656, 0, 72),
  (yX6_digitsOfWay, cX6_digitsOfWay, 6, (some .int), 2, true, 669, 668, 0, 72),
  (yX6_apartAfter, cX6_apartAfter, 8, (some .int), 4, false, 661, 660, 25, 72),
  (yX6_goInThought, cX6_goInThought, 3, none, 1, false, 665, 664, 26, 72),
  (yX6_allAfterDrawn, cX6_allAfterDrawn, 6, (some .int), 3, false, 701, 700, 31, 72),
  (yX6_stayInThought, cX6_stayInThought, 6, none, 3, false, 706, 705, 32, 72),
  (yX6_firstOtherwise, cX6_firstOtherwise, 12, (some .int), 5, false, 681, 680, 28, 72),
  (yX6_bitsThatTell, cX6_bitsThatTell, 8, (some .int), 5, false, 677, 676, 27, 72),
  (yX6_daysThatTell, cX6_daysThatTell, 6, (some .int), 3, false, 685, 684, 29, 72),
  (yX6_leastDayThatTells, cX6_leastDayThatTells, 5, (some .int), 3, false, 689, 688, 30, 72),
  (yX6_sum, cX6_sum, 5, (some .int), 3, true, 438, 437, 0, 72),
  (yX6_lowestTerms, cX6_lowestTerms, 7, (some .long), 3, true, 574, 573, 0, 72),
  (yX7_in, cX7_in, 6, (some .boolean), 3, true, 934, 933, 0, 83),
  (yX7_within, cX7_within, 3, (some .int), 3, true, 1078, 1077, 0, 83),
  (yX7_init, cX7_init, 1, none, 0, false, 773, 772, 0, 83),
  (yX7_spell, cX7_spell, 10, none, 9, false, 778, 777, 33, 83),
  (yX7_isOne, cX7_isOne, 2, (some .boolean), 1, false, 947, 946, 35, 83),
  (yX7_isCoast, cX7_isCoast, 1, (some .boolean), 1, true, 950, 949, 0, 83),
  (yX7_isMark, cX7_isMark, 1, (some .boolean), 1, true, 942, 941, 0, 83),
  (yX7_isOf, cX7_isOf, 3, (some .boolean), 2, false, 938, 937, 34, 83),
  (yX7_mostOf, cX7_mostOf, 1, (some .int), 1, true, 953, 952, 0, 83),
  (yX7_placeOf, cX7_placeOf, 1, (some .int), 1, true, 961, 960, 0, 83),
  (yX7_set, cX7_set, 5, (some .int), 3, false, 930, 928, 929, 83),
  (yX7_lays, cX7_lays, 4, none, 3, false, 973, 972, 38, 83),
  (yX7_person, cX7_person, 4, (some .int), 2, false, 977, 975, 976, 83),
  (yX7_told, cX7_told, 3, (some .int), 2, false, 957, 955, 956, 83),
  (yX7_shoeOf, cX7_shoeOf, 4, (some .int), 1, false, 965, 964, 36, 83),
  (yX7_coastOf, cX7_coastOf, 4, (some .int), 1, false, 969, 968, 37, 83),
  (yX7_feed, cX7_feed, 2, (some .int), 1, false, 983, 981, 982, 83),
  (yX7_byteAt, cX7_byteAt, 2, (some .int), 1, false, 1000, 999, 41, 83),
  (yX7_next, cX7_next, 3, none, 0, false, 996, 995, 40, 83),
  (yX7_fail, cX7_fail, 1, none, 0, false, 1021, 1020, 45, 83),
  (yX7_isLetter, cX7_isLetter, 3, (some .boolean), 2, false, 1013, 1012, 43, 83),
  (yX7_isWord, cX7_isWord, 9, (some .boolean), 8, false, 1009, 1008, 42, 83),
  (yX7_isSign, cX7_isSign, 2, (some .boolean), 1, false, 1053, 1052, 53, 83),
  (yX7_opens, cX7_opens, 1, (some .boolean), 0, false, 1037, 1036, 49, 83),
  (yX7_name, cX7_name, 1, (some .int), 0, false, 1057, 1056, 54, 83),
  (yX7_atom, cX7_atom, 2, (some .int), 0, false, 1049, 1048, 52, 83),
  (yX7_term, cX7_term, 2, (some .int), 0, false, 1045, 1044, 51, 83),
  (yX7_added, cX7_added, 4, (some .int), 0, false, 1041, 1040, 50, 83),
  (yX7_not, cX7_not, 4, (some .int), 0, false, 1033, 1032, 48, 83),
  (yX7_both, cX7_both, 3, (some .int), 0, false, 1029, 1028, 47, 83),
  (yX7_either, cX7_either, 3, (some .int), 0, false, 1025, 1024, 46, 83),
  (yX7_part, cX7_part, 3, (some .int), 1, false, 1017, 1016, 44, 83),
  (yX7_read, cX7_read, 6, (some .int), 2, false, 992, 991, 39, 83),
  (yX7_text, cX7_text, 2, (some .int), 0, false, 988, 986, 987, 83),
  (yX7_force, cX7_force, 3, (some .int), 1, false, 1063, 1061, 1062, 83),
  (yX7_says, cX7_says, 7, (some .int), 6, false, 1075, 1074, 56, 83),
  (yX7_takesOf, cX7_takesOf, 8, (some .int), 3, false, 1071, 1070, 55, 83),
  (yX7_keepsOf, cX7_keepsOf, 6, (some .int), 2, false, 1082, 1081, 57, 83),
  (yX7_sureOf, cX7_sureOf, 7, (some .int), 3, false, 1086, 1085, 58, 83),
  (yX7_asks, cX7_asks, 4, (some .int), 3, false, 1067, 1065, 1066, 83),
  (yX7_stays1, cX7_stays1, 4, none, 2, false, 1094, 1093, 59, 83),
  (yX7_stay, cX7_stay, 3, (some .int), 2, false, 1090, 1088, 1089, 83),
  (yX7_shake, cX7_shake, 4, (some .int), 1, false, 1098, 1096, 1097, 83),
  (yX7_apart, cX7_apart, 6, (some .int), 2, false, 1110, 1109, 61, 83),
  (yX7_tellsOf, cX7_tellsOf, 5, (some .int), 2, false, 1114, 1113, 62, 83),
  (yX7_areTwo, cX7_areTwo, 3, (some .boolean), 2, false, 1106, 1105, 60, 83),
  (yX7_like, cX7_like, 4, (some .int), 3, false, 1102, 1100, 1101, 83),
  (yX7_odd, cX7_odd, 7, (some .int), 2, false, 1118, 1116, 1117, 83),
  (yX7_lowest, cX7_lowest, 11, (some .long), 3, true, 1127, 1126, 0, 83),
  (yX7_mean, cX7_mean, 4, (some .long), 3, false, 1123, 1121, 1122, 83),
  (yX7_tables, cX7_tables, 4, none, 1, false, 1139, 1138, 63, 83),
  (yX7_daysOn, cX7_daysOn, 2, (some .int), 2, true, 1146, 1145, 0, 83),
  (yX7_packed, cX7_packed, 5, (some .int), 2, false, 1143, 1142, 64, 83),
  (yX7_wayOf, cX7_wayOf, 4, (some .int), 1, true, 1134, 1133, 0, 83),
  (yX7_digitsOf, cX7_digitsOf, 3, (some .int), 1, true, 1180, 1179, 0, 83),
  (yX7_stays, cX7_stays, 5, (some .int), 3, false, 1131, 1129, 1130, 83),
  (yX7_pack, cX7_pack, 7, (some .int), 3, false, 1150, 1148, 1149, 83),
  (yX7_fits, cX7_fits, 4, (some .boolean), 2, false, 1171, 1170, 66, 83),
  (yX7_lengthOf, cX7_lengthOf, 3, (some .int), 1, true, 1177, 1176, 0, 83),
  (yX7_coastsOf, cX7_coastsOf, 3, (some .int), 1, true, 1174, 1173, 0, 83),
  (yX7_looks, cX7_looks, 6, none, 2, false, 1167, 1166, 65, 83),
  (yX7_fit, cX7_fit, 4, (some .int), 3, false, 1162, 1160, 1161, 83),
  (yX7_share, cX7_share, 5, (some .long), 4, false, 1184, 1182, 1183, 83),
  (yX7_goes, cX7_goes, 9, none, 5, false, 1192, 1191, 67, 83),
  (yX7_go, cX7_go, 5, (some .int), 4, false, 1188, 1186, 1187, 83),
  (yX7_firstOther, cX7_firstOther, 5, (some .int), 3, false, 1201, 1200, 68, 83),
  (yX7_coastSet, cX7_coastSet, 5, (some .int), 2, false, 1205, 1204, 69, 83),
  (yX7_tells, cX7_tells, 12, (some .int), 4, false, 1196, 1194, 1195, 83),
  (yX7_film, cX7_film, 6, (some .int), 3, false, 1209, 1207, 1208, 83),
  (yX7_shoeDrawn, cX7_shoeDrawn, 9, (some .int), 3, false, 1218, 1217, 70, 83),
  (yX7_drawn, cX7_drawn, 4, (some .int), 3, false, 1213, 1211, 1212, 83),
  (yX7_chance, cX7_chance, 9, (some .long), 5, false, 1223, 1221, 1222, 83),
  (yX7_image, cX7_image, 2, (some .int), 0, false, 1229, 1227, 1228, 83),
  (yX7_back, cX7_back, 2, (some .int), 0, false, 1233, 1231, 1232, 83),
  (yX7_count, cX7_count, 4, (some .int), 1, false, 1237, 1235, 1236, 83),
  (yX7_isSheet, cX7_isSheet, 1, (some .boolean), 1, true, 1153, 1152, 0, 83),
  (yX7_sheet, cX7_sheet, 5, (some .int), 3, false, 1157, 1155, 1156, 83),
  (yX7_cell, cX7_cell, 4, (some .int), 3, false, 1242, 1240, 1241, 83),
  (yX7_copy, cX7_copy, 9, (some .int), 5, false, 1246, 1244, 1245, 83),
  (yX7_people, cX7_people, 8, (some .int), 4, false, 1250, 1248, 1249, 83),
  (yX7_over, cX7_over, 1, (some .int), 1, true, 1258, 1257, 0, 83),
  (yX7_taken, cX7_taken, 4, (some .int), 2, false, 1255, 1253, 1254, 83)]
set_option maxRecDepth 20000 in
theorem cd0 : lw_tbl[179]? = some (Cond.code yX0_init cX0_init 1 none) := by rfl
set_option maxRecDepth 20000 in
theorem cd1 : lw_tbl[626]? = some (Cond.code yX0_search cX0_search 4 none) := by rfl
set_option maxRecDepth 20000 in
theorem cd2 : lw_tbl[630]? = some (Cond.code yX0_clear cX0_clear 2 none) := by rfl
set_option maxRecDepth 20000 in
theorem cd3 : lw_tbl[634]? = some (Cond.code yX0_isInShoe cX0_isInShoe 3 (some .boolean)) := by rfl
set_option maxRecDepth 20000 in
theorem cd4 : lw_tbl[638]? = some (Cond.code yX0_found cX0_found 5 none) := by rfl
set_option maxRecDepth 20000 in
theorem cd5 : lw_tbl[642]? = some (Cond.code yX0_stepOn cX0_stepOn 3 none) := by rfl
set_option maxRecDepth 20000 in
theorem cd6 : lw_tbl[646]? = some (Cond.code yX0_takeUp cX0_takeUp 5 none) := by rfl
set_option maxRecDepth 20000 in
theorem cd7 : lw_tbl[511]? = some (Cond.code yX1_takes cX1_takes 4 (some .int)) := by rfl
set_option maxRecDepth 20000 in
theorem cd8 : lw_tbl[514]? = some (Cond.code yX1_takesUnbounded cX1_takesUnbounded 4 (some .int)) := by rfl
set_option maxRecDepth 20000 in
theorem cd9 : lw_tbl[492]? = some (Cond.code yX1_keeps cX1_keeps 3 (some .int)) := by rfl
set_option maxRecDepth 20000 in
theorem cd10 : lw_tbl[500]? = some (Cond.code yX1_sure cX1_sure 3 (some .int)) := by rfl
set_option maxRecDepth 20000 in
theorem cd11 : lw_tbl[768]? = some (Cond.code yX1_isUnder cX1_isUnder 2 (some .boolean)) := by rfl
set_option maxRecDepth 20000 in
theorem cd12 : lw_tbl[138]? = some (Cond.code yX2_init cX2_init 1 none) := by rfl
set_option maxRecDepth 20000 in
theorem cd13 : lw_tbl[298]? = some (Cond.code yX2_add cX2_add 2 (some .int)) := by rfl
set_option maxRecDepth 20000 in
theorem cd14 : lw_tbl[306]? = some (Cond.code yX2_read cX2_read 2 (some .int)) := by rfl
set_option maxRecDepth 20000 in
theorem cd15 : lw_tbl[350]? = some (Cond.code yX2_readLevel cX2_readLevel 6 (some .boolean)) := by rfl
set_option maxRecDepth 20000 in
theorem cd16 : lw_tbl[362]? = some (Cond.code yX2_readNot cX2_readNot 2 (some .boolean)) := by rfl
set_option maxRecDepth 20000 in
theorem cd17 : lw_tbl[354]? = some (Cond.code yX2_readOne cX2_readOne 3 (some .boolean)) := by rfl
set_option maxRecDepth 20000 in
theorem cd18 : lw_tbl[365]? = some (Cond.code yX2_levelOf cX2_levelOf 1 (some .int)) := by rfl
set_option maxRecDepth 20000 in
theorem cd19 : lw_tbl[368]? = some (Cond.code yX2_stepOf cX2_stepOf 1 (some .int)) := by rfl
set_option maxRecDepth 20000 in
theorem cd20 : lw_tbl[358]? = some (Cond.code yX2_put cX2_put 2 none) := by rfl
set_option maxRecDepth 20000 in
theorem cd21 : lw_tbl[310]? = some (Cond.code yX2_next cX2_next 1 none) := by rfl
set_option maxRecDepth 20000 in
theorem cd22 : lw_tbl[318]? = some (Cond.code yX2_nextWord cX2_nextWord 3 none) := by rfl
set_option maxRecDepth 20000 in
theorem cd23 : lw_tbl[343]? = some (Cond.code yX2_nextNumber cX2_nextNumber 1 none) := by rfl
set_option maxRecDepth 20000 in
theorem cd24 : lw_tbl[314]? = some (Cond.code yX2_isIn cX2_isIn 4 (some .boolean)) := by rfl
set_option maxRecDepth 20000 in
theorem cd25 : lw_tbl[346]? = some (Cond.code yX2_isSign cX2_isSign 1 (some .boolean)) := by rfl
set_option maxRecDepth 20000 in
theorem cd26 : lw_tbl[337]? = some (Cond.code yX2_isToken cX2_isToken 3 (some .boolean)) := by rfl
set_option maxRecDepth 20000 in
theorem cd27 : lw_tbl[321]? = some (Cond.code yX2_wordOf cX2_wordOf 1 (some (.object "java/lang/String"))) := by rfl
set_option maxRecDepth 20000 in
theorem cd28 : lw_tbl[227]? = some (Cond.code yX3_init cX3_init 1 none) := by rfl
set_option maxRecDepth 20000 in
theorem cd29 : lw_tbl[740]? = some (Cond.code yX3_isSort cX3_isSort 1 (some .boolean)) := by rfl
set_option maxRecDepth 20000 in
theorem cd30 : lw_tbl[618]? = some (Cond.code yX3_isMissing cX3_isMissing 1 (some .boolean)) := by rfl
set_option maxRecDepth 20000 in
theorem cd31 : lw_tbl[748]? = some (Cond.code yX3_has cX3_has 2 (some .boolean)) := by rfl
set_option maxRecDepth 20000 in
theorem cd32 : lw_tbl[756]? = some (Cond.code yX3_hasRun cX3_hasRun 3 (some .boolean)) := by rfl
set_option maxRecDepth 20000 in
theorem cd33 : lw_tbl[597]? = some (Cond.code yX3_becomes cX3_becomes 4 none) := by rfl
set_option maxRecDepth 20000 in
theorem cd34 : lw_tbl[601]? = some (Cond.code yX3_put cX3_put 3 none) := by rfl
set_option maxRecDepth 20000 in
theorem cd35 : lw_tbl[605]? = some (Cond.code yX3_all cX3_all 1 (some .int)) := by rfl
set_option maxRecDepth 20000 in
theorem cd36 : lw_tbl[215]? = some (Cond.code yX4_init cX4_init 1 none) := by rfl
set_option maxRecDepth 20000 in
theorem cd37 : lw_tbl[372]? = some (Cond.code yX4_becomes cX4_becomes 3 none) := by rfl
set_option maxRecDepth 20000 in
theorem cd38 : lw_tbl[480]? = some (Cond.code yX4_value cX4_value 7 (some .int)) := by rfl
set_option maxRecDepth 20000 in
theorem cd39 : lw_tbl[483]? = some (Cond.code yX4_joined cX4_joined 3 (some .int)) := by rfl
set_option maxRecDepth 20000 in
theorem cd40 : lw_tbl[98]? = some (Cond.code yX5_init cX5_init 1 none) := by rfl
set_option maxRecDepth 20000 in
theorem cd41 : lw_tbl[431]? = some (Cond.code yX5_has cX5_has 2 (some .boolean)) := by rfl
set_option maxRecDepth 20000 in
theorem cd42 : lw_tbl[456]? = some (Cond.code yX5_comes cX5_comes 5 (some .int)) := by rfl
set_option maxRecDepth 20000 in
theorem cd43 : lw_tbl[720]? = some (Cond.code yX5_becomes cX5_becomes 2 none) := by rfl
set_option maxRecDepth 20000 in
theorem cd44 : lw_tbl[445]? = some (Cond.code yX5_allOnCoast cX5_allOnCoast 2 (some .int)) := by rfl
set_option maxRecDepth 20000 in
theorem cd45 : lw_tbl[435]? = some (Cond.code yX5_allInShoe cX5_allInShoe 2 (some .int)) := by rfl
set_option maxRecDepth 20000 in
theorem cd46 : lw_tbl[733]? = some (Cond.code yX5_allInShoes cX5_allInShoes 1 (some .int)) := by rfl
set_option maxRecDepth 20000 in
theorem cd47 : lw_tbl[542]? = some (Cond.code yX5_apart cX5_apart 5 (some .int)) := by rfl
set_option maxRecDepth 20000 in
theorem cd48 : lw_tbl[562]? = some (Cond.code yX5_oddest cX5_oddest 5 (some .int)) := by rfl
set_option maxRecDepth 20000 in
theorem cd49 : lw_tbl[557]? = some (Cond.code yX5_poorest cX5_poorest 3 (some .int)) := by rfl
set_option maxRecDepth 20000 in
theorem cd50 : lw_tbl[90]? = some (Cond.code yX6_init cX6_init 2 none) := by rfl
set_option maxRecDepth 20000 in
theorem cd51 : lw_tbl[417]? = some (Cond.code yX6_set cX6_set 5 (some .int)) := by rfl
set_option maxRecDepth 20000 in
theorem cd52 : lw_tbl[452]? = some (Cond.code yX6_person cX6_person 3 (some .int)) := by rfl
set_option maxRecDepth 20000 in
theorem cd53 : lw_tbl[421]? = some (Cond.code yX6_told cX6_told 3 (some .int)) := by rfl
set_option maxRecDepth 20000 in
theorem cd54 : lw_tbl[461]? = some (Cond.code yX6_asks cX6_asks 4 (some .int)) := by rfl
set_option maxRecDepth 20000 in
theorem cd55 : lw_tbl[294]? = some (Cond.code yX6_feed cX6_feed 2 (some .int)) := by rfl
set_option maxRecDepth 20000 in
theorem cd56 : lw_tbl[302]? = some (Cond.code yX6_text cX6_text 2 (some .int)) := by rfl
set_option maxRecDepth 20000 in
theorem cd57 : lw_tbl[521]? = some (Cond.code yX6_force cX6_force 3 (some .int)) := by rfl
set_option maxRecDepth 20000 in
theorem cd58 : lw_tbl[525]? = some (Cond.code yX6_stay cX6_stay 5 (some .int)) := by rfl
set_option maxRecDepth 20000 in
theorem cd59 : lw_tbl[529]? = some (Cond.code yX6_shake cX6_shake 4 (some .int)) := by rfl
set_option maxRecDepth 20000 in
theorem cd60 : lw_tbl[534]? = some (Cond.code yX6_like cX6_like 4 (some .int)) := by rfl
set_option maxRecDepth 20000 in
theorem cd61 : lw_tbl[553]? = some (Cond.code yX6_odd cX6_odd 4 (some .int)) := by rfl
set_option maxRecDepth 20000 in
theorem cd62 : lw_tbl[567]? = some (Cond.code yX6_mean cX6_mean 4 (some .long)) := by rfl
set_option maxRecDepth 20000 in
theorem cd63 : lw_tbl[578]? = some (Cond.code yX6_stays cX6_stays 4 (some .int)) := by rfl
set_option maxRecDepth 20000 in
theorem cd64 : lw_tbl[590]? = some (Cond.code yX6_pack cX6_pack 6 (some .int)) := by rfl
set_option maxRecDepth 20000 in
theorem cd65 : lw_tbl[610]? = some (Cond.code yX6_fit cX6_fit 5 (some .int)) := by rfl
set_option maxRecDepth 20000 in
theorem cd66 : lw_tbl[650]? = some (Cond.code yX6_share cX6_share 5 (some .long)) := by rfl
set_option maxRecDepth 20000 in
theorem cd67 : lw_tbl[654]? = some (Cond.code yX6_go cX6_go 10 (some .int)) := by rfl
set_option maxRecDepth 20000 in
theorem cd68 : lw_tbl[673]? = some (Cond.code yX6_tells cX6_tells 6 (some .int)) := by rfl
set_option maxRecDepth 20000 in
theorem cd69 : lw_tbl[693]? = some (Cond.code yX6_film cX6_film 6 (some .int)) := by rfl
set_option maxRecDepth 20000 in
theorem cd70 : lw_tbl[697]? = some (Cond.code yX6_drawn cX6_drawn 4 (some .int)) := by rfl
set_option maxRecDepth 20000 in
theorem cd71 : lw_tbl[711]? = some (Cond.code yX6_chance cX6_chance 8 (some .long)) := by rfl
set_option maxRecDepth 20000 in
theorem cd72 : lw_tbl[716]? = some (Cond.code yX6_image cX6_image 1 (some .int)) := by rfl
set_option maxRecDepth 20000 in
theorem cd73 : lw_tbl[725]? = some (Cond.code yX6_back cX6_back 1 (some .int)) := by rfl
set_option maxRecDepth 20000 in
theorem cd74 : lw_tbl[729]? = some (Cond.code yX6_count cX6_count 2 (some .int)) := by rfl
set_option maxRecDepth 20000 in
theorem cd75 : lw_tbl[737]? = some (Cond.code yX6_sheet cX6_sheet 4 (some .int)) := by rfl
set_option maxRecDepth 20000 in
theorem cd76 : lw_tbl[744]? = some (Cond.code yX6_cell cX6_cell 5 (some .int)) := by rfl
set_option maxRecDepth 20000 in
theorem cd77 : lw_tbl[752]? = some (Cond.code yX6_copy cX6_copy 8 (some .int)) := by rfl
set_option maxRecDepth 20000 in
theorem cd78 : lw_tbl[760]? = some (Cond.code yX6_people cX6_people 9 (some .int)) := by rfl
set_option maxRecDepth 20000 in
theorem cd79 : lw_tbl[765]? = some (Cond.code yX6_taken cX6_taken 3 (some .int)) := by rfl
set_option maxRecDepth 20000 in
theorem cd80 : lw_tbl[441]? = some (Cond.code yX6_isCoast cX6_isCoast 1 (some .boolean)) := by rfl
set_option maxRecDepth 20000 in
theorem cd81 : lw_tbl[464]? = some (Cond.code yX6_isMark cX6_isMark 1 (some .boolean)) := by rfl
set_option maxRecDepth 20000 in
theorem cd82 : lw_tbl[570]? = some (Cond.code yX6_isPart cX6_isPart 1 (some .boolean)) := by rfl
set_option maxRecDepth 20000 in
theorem cd83 : lw_tbl[593]? = some (Cond.code yX6_isSheet cX6_isSheet 1 (some .boolean)) := by rfl
set_option maxRecDepth 20000 in
theorem cd84 : lw_tbl[538]? = some (Cond.code yX6_areTwo cX6_areTwo 3 (some .boolean)) := by rfl
set_option maxRecDepth 20000 in
theorem cd85 : lw_tbl[424]? = some (Cond.code yX6_isPlace cX6_isPlace 2 (some .boolean)) := by rfl
set_option maxRecDepth 20000 in
theorem cd86 : lw_tbl[427]? = some (Cond.code yX6_placeOf cX6_placeOf 1 (some .int)) := by rfl
set_option maxRecDepth 20000 in
theorem cd87 : lw_tbl[448]? = some (Cond.code yX6_mostOf cX6_mostOf 1 (some .int)) := by rfl
set_option maxRecDepth 20000 in
theorem cd88 : lw_tbl[581]? = some (Cond.code yX6_areStays cX6_areStays 3 (some .boolean)) := by rfl
set_option maxRecDepth 20000 in
theorem cd89 : lw_tbl[476]? = some (Cond.code yX6_valueOf cX6_valueOf 5 (some .int)) := by rfl
set_option maxRecDepth 20000 in
theorem cd90 : lw_tbl[472]? = some (Cond.code yX6_nameAll cX6_nameAll 7 none) := by rfl
set_option maxRecDepth 20000 in
theorem cd91 : lw_tbl[508]? = some (Cond.code yX6_takesOf cX6_takesOf 7 (some .int)) := by rfl
set_option maxRecDepth 20000 in
theorem cd92 : lw_tbl[504]? = some (Cond.code yX6_takesNow cX6_takesNow 4 (some .int)) := by rfl
set_option maxRecDepth 20000 in
theorem cd93 : lw_tbl[468]? = some (Cond.code yX6_keepsOf cX6_keepsOf 4 (some .int)) := by rfl
set_option maxRecDepth 20000 in
theorem cd94 : lw_tbl[497]? = some (Cond.code yX6_sureOf cX6_sureOf 5 (some .int)) := by rfl
set_option maxRecDepth 20000 in
theorem cd95 : lw_tbl[549]? = some (Cond.code yX6_tellsExaminer cX6_tellsExaminer 5 (some .int)) := by rfl
set_option maxRecDepth 20000 in
theorem cd96 : lw_tbl[622]? = some (Cond.code yX6_tellDailyTakes cX6_tellDailyTakes 6 none) := by rfl
set_option maxRecDepth 20000 in
theorem cd97 : lw_tbl[586]? = some (Cond.code yX6_takesByStays cX6_takesByStays 7 (some .int)) := by rfl
set_option maxRecDepth 20000 in
theorem cd98 : lw_tbl[614]? = some (Cond.code yX6_findFits cX6_findFits 3 (some .int)) := by rfl
set_option maxRecDepth 20000 in
theorem cd99 : lw_tbl[657]? = some (Cond.code yX6_neverGoesBack cX6_neverGoesBack 6 (some .boolean)) := by rfl
set_option maxRecDepth 20000 in
theorem cd100 : lw_tbl[669]? = some (Cond.code yX6_digitsOfWay cX6_digitsOfWay 6 (some .int)) := by rfl
set_option maxRecDepth 20000 in
theorem cd101 : lw_tbl[661]? = some (Cond.code yX6_apartAfter cX6_apartAfter 8 (some .int)) := by rfl
set_option maxRecDepth 20000 in
theorem cd102 : lw_tbl[665]? = some (Cond.code yX6_goInThought cX6_goInThought 3 none) := by rfl
set_option maxRecDepth 20000 in
theorem cd103 : lw_tbl[701]? = some (Cond.code yX6_allAfterDrawn cX6_allAfterDrawn 6 (some .int)) := by rfl
set_option maxRecDepth 20000 in
theorem cd104 : lw_tbl[706]? = some (Cond.code yX6_stayInThought cX6_stayInThought 6 none) := by rfl
set_option maxRecDepth 20000 in
theorem cd105 : lw_tbl[681]? = some (Cond.code yX6_firstOtherwise cX6_firstOtherwise 12 (some .int)) := by rfl
set_option maxRecDepth 20000 in
theorem cd106 : lw_tbl[677]? = some (Cond.code yX6_bitsThatTell cX6_bitsThatTell 8 (some .int)) := by rfl
set_option maxRecDepth 20000 in
theorem cd107 : lw_tbl[685]? = some (Cond.code yX6_daysThatTell cX6_daysThatTell 6 (some .int)) := by rfl
set_option maxRecDepth 20000 in
theorem cd108 : lw_tbl[689]? = some (Cond.code yX6_leastDayThatTells cX6_leastDayThatTells 5 (some .int)) := by rfl
set_option maxRecDepth 20000 in
theorem cd109 : lw_tbl[438]? = some (Cond.code yX6_sum cX6_sum 5 (some .int)) := by rfl
set_option maxRecDepth 20000 in
theorem cd110 : lw_tbl[574]? = some (Cond.code yX6_lowestTerms cX6_lowestTerms 7 (some .long)) := by rfl
set_option maxRecDepth 20000 in
theorem cd111 : lw_tbl[934]? = some (Cond.code yX7_in cX7_in 6 (some .boolean)) := by rfl
set_option maxRecDepth 20000 in
theorem cd112 : lw_tbl[1078]? = some (Cond.code yX7_within cX7_within 3 (some .int)) := by rfl
set_option maxRecDepth 20000 in
theorem cd113 : lw_tbl[773]? = some (Cond.code yX7_init cX7_init 1 none) := by rfl
set_option maxRecDepth 20000 in
theorem cd114 : lw_tbl[778]? = some (Cond.code yX7_spell cX7_spell 10 none) := by rfl
set_option maxRecDepth 20000 in
theorem cd115 : lw_tbl[947]? = some (Cond.code yX7_isOne cX7_isOne 2 (some .boolean)) := by rfl
set_option maxRecDepth 20000 in
theorem cd116 : lw_tbl[950]? = some (Cond.code yX7_isCoast cX7_isCoast 1 (some .boolean)) := by rfl
set_option maxRecDepth 20000 in
theorem cd117 : lw_tbl[942]? = some (Cond.code yX7_isMark cX7_isMark 1 (some .boolean)) := by rfl
set_option maxRecDepth 20000 in
theorem cd118 : lw_tbl[938]? = some (Cond.code yX7_isOf cX7_isOf 3 (some .boolean)) := by rfl
set_option maxRecDepth 20000 in
theorem cd119 : lw_tbl[953]? = some (Cond.code yX7_mostOf cX7_mostOf 1 (some .int)) := by rfl
set_option maxRecDepth 20000 in
theorem cd120 : lw_tbl[961]? = some (Cond.code yX7_placeOf cX7_placeOf 1 (some .int)) := by rfl
set_option maxRecDepth 20000 in
theorem cd121 : lw_tbl[930]? = some (Cond.code yX7_set cX7_set 5 (some .int)) := by rfl
set_option maxRecDepth 20000 in
theorem cd122 : lw_tbl[973]? = some (Cond.code yX7_lays cX7_lays 4 none) := by rfl
set_option maxRecDepth 20000 in
theorem cd123 : lw_tbl[977]? = some (Cond.code yX7_person cX7_person 4 (some .int)) := by rfl
set_option maxRecDepth 20000 in
theorem cd124 : lw_tbl[957]? = some (Cond.code yX7_told cX7_told 3 (some .int)) := by rfl
set_option maxRecDepth 20000 in
theorem cd125 : lw_tbl[965]? = some (Cond.code yX7_shoeOf cX7_shoeOf 4 (some .int)) := by rfl
set_option maxRecDepth 20000 in
theorem cd126 : lw_tbl[969]? = some (Cond.code yX7_coastOf cX7_coastOf 4 (some .int)) := by rfl
set_option maxRecDepth 20000 in
theorem cd127 : lw_tbl[983]? = some (Cond.code yX7_feed cX7_feed 2 (some .int)) := by rfl
set_option maxRecDepth 20000 in
theorem cd128 : lw_tbl[1000]? = some (Cond.code yX7_byteAt cX7_byteAt 2 (some .int)) := by rfl
set_option maxRecDepth 20000 in
theorem cd129 : lw_tbl[996]? = some (Cond.code yX7_next cX7_next 3 none) := by rfl
set_option maxRecDepth 20000 in
theorem cd130 : lw_tbl[1021]? = some (Cond.code yX7_fail cX7_fail 1 none) := by rfl
set_option maxRecDepth 20000 in
theorem cd131 : lw_tbl[1013]? = some (Cond.code yX7_isLetter cX7_isLetter 3 (some .boolean)) := by rfl
set_option maxRecDepth 20000 in
theorem cd132 : lw_tbl[1009]? = some (Cond.code yX7_isWord cX7_isWord 9 (some .boolean)) := by rfl
set_option maxRecDepth 20000 in
theorem cd133 : lw_tbl[1053]? = some (Cond.code yX7_isSign cX7_isSign 2 (some .boolean)) := by rfl
set_option maxRecDepth 20000 in
theorem cd134 : lw_tbl[1037]? = some (Cond.code yX7_opens cX7_opens 1 (some .boolean)) := by rfl
set_option maxRecDepth 20000 in
theorem cd135 : lw_tbl[1057]? = some (Cond.code yX7_name cX7_name 1 (some .int)) := by rfl
set_option maxRecDepth 20000 in
theorem cd136 : lw_tbl[1049]? = some (Cond.code yX7_atom cX7_atom 2 (some .int)) := by rfl
set_option maxRecDepth 20000 in
theorem cd137 : lw_tbl[1045]? = some (Cond.code yX7_term cX7_term 2 (some .int)) := by rfl
set_option maxRecDepth 20000 in
theorem cd138 : lw_tbl[1041]? = some (Cond.code yX7_added cX7_added 4 (some .int)) := by rfl
set_option maxRecDepth 20000 in
theorem cd139 : lw_tbl[1033]? = some (Cond.code yX7_not cX7_not 4 (some .int)) := by rfl
set_option maxRecDepth 20000 in
theorem cd140 : lw_tbl[1029]? = some (Cond.code yX7_both cX7_both 3 (some .int)) := by rfl
set_option maxRecDepth 20000 in
theorem cd141 : lw_tbl[1025]? = some (Cond.code yX7_either cX7_either 3 (some .int)) := by rfl
set_option maxRecDepth 20000 in
theorem cd142 : lw_tbl[1017]? = some (Cond.code yX7_part cX7_part 3 (some .int)) := by rfl
set_option maxRecDepth 20000 in
theorem cd143 : lw_tbl[992]? = some (Cond.code yX7_read cX7_read 6 (some .int)) := by rfl
set_option maxRecDepth 20000 in
theorem cd144 : lw_tbl[988]? = some (Cond.code yX7_text cX7_text 2 (some .int)) := by rfl
set_option maxRecDepth 20000 in
theorem cd145 : lw_tbl[1063]? = some (Cond.code yX7_force cX7_force 3 (some .int)) := by rfl
set_option maxRecDepth 20000 in
theorem cd146 : lw_tbl[1075]? = some (Cond.code yX7_says cX7_says 7 (some .int)) := by rfl
set_option maxRecDepth 20000 in
theorem cd147 : lw_tbl[1071]? = some (Cond.code yX7_takesOf cX7_takesOf 8 (some .int)) := by rfl
set_option maxRecDepth 20000 in
theorem cd148 : lw_tbl[1082]? = some (Cond.code yX7_keepsOf cX7_keepsOf 6 (some .int)) := by rfl
set_option maxRecDepth 20000 in
theorem cd149 : lw_tbl[1086]? = some (Cond.code yX7_sureOf cX7_sureOf 7 (some .int)) := by rfl
set_option maxRecDepth 20000 in
theorem cd150 : lw_tbl[1067]? = some (Cond.code yX7_asks cX7_asks 4 (some .int)) := by rfl
set_option maxRecDepth 20000 in
theorem cd151 : lw_tbl[1094]? = some (Cond.code yX7_stays1 cX7_stays1 4 none) := by rfl
set_option maxRecDepth 20000 in
theorem cd152 : lw_tbl[1090]? = some (Cond.code yX7_stay cX7_stay 3 (some .int)) := by rfl
set_option maxRecDepth 20000 in
theorem cd153 : lw_tbl[1098]? = some (Cond.code yX7_shake cX7_shake 4 (some .int)) := by rfl
set_option maxRecDepth 20000 in
theorem cd154 : lw_tbl[1110]? = some (Cond.code yX7_apart cX7_apart 6 (some .int)) := by rfl
set_option maxRecDepth 20000 in
theorem cd155 : lw_tbl[1114]? = some (Cond.code yX7_tellsOf cX7_tellsOf 5 (some .int)) := by rfl
set_option maxRecDepth 20000 in
theorem cd156 : lw_tbl[1106]? = some (Cond.code yX7_areTwo cX7_areTwo 3 (some .boolean)) := by rfl
set_option maxRecDepth 20000 in
theorem cd157 : lw_tbl[1102]? = some (Cond.code yX7_like cX7_like 4 (some .int)) := by rfl
set_option maxRecDepth 20000 in
theorem cd158 : lw_tbl[1118]? = some (Cond.code yX7_odd cX7_odd 7 (some .int)) := by rfl
set_option maxRecDepth 20000 in
theorem cd159 : lw_tbl[1127]? = some (Cond.code yX7_lowest cX7_lowest 11 (some .long)) := by rfl
set_option maxRecDepth 20000 in
theorem cd160 : lw_tbl[1123]? = some (Cond.code yX7_mean cX7_mean 4 (some .long)) := by rfl
set_option maxRecDepth 20000 in
theorem cd161 : lw_tbl[1139]? = some (Cond.code yX7_tables cX7_tables 4 none) := by rfl
set_option maxRecDepth 20000 in
theorem cd162 : lw_tbl[1146]? = some (Cond.code yX7_daysOn cX7_daysOn 2 (some .int)) := by rfl
set_option maxRecDepth 20000 in
theorem cd163 : lw_tbl[1143]? = some (Cond.code yX7_packed cX7_packed 5 (some .int)) := by rfl
set_option maxRecDepth 20000 in
theorem cd164 : lw_tbl[1134]? = some (Cond.code yX7_wayOf cX7_wayOf 4 (some .int)) := by rfl
set_option maxRecDepth 20000 in
theorem cd165 : lw_tbl[1180]? = some (Cond.code yX7_digitsOf cX7_digitsOf 3 (some .int)) := by rfl
set_option maxRecDepth 20000 in
theorem cd166 : lw_tbl[1131]? = some (Cond.code yX7_stays cX7_stays 5 (some .int)) := by rfl
set_option maxRecDepth 20000 in
theorem cd167 : lw_tbl[1150]? = some (Cond.code yX7_pack cX7_pack 7 (some .int)) := by rfl
set_option maxRecDepth 20000 in
theorem cd168 : lw_tbl[1171]? = some (Cond.code yX7_fits cX7_fits 4 (some .boolean)) := by rfl
set_option maxRecDepth 20000 in
theorem cd169 : lw_tbl[1177]? = some (Cond.code yX7_lengthOf cX7_lengthOf 3 (some .int)) := by rfl
set_option maxRecDepth 20000 in
theorem cd170 : lw_tbl[1174]? = some (Cond.code yX7_coastsOf cX7_coastsOf 3 (some .int)) := by rfl
set_option maxRecDepth 20000 in
theorem cd171 : lw_tbl[1167]? = some (Cond.code yX7_looks cX7_looks 6 none) := by rfl
set_option maxRecDepth 20000 in
theorem cd172 : lw_tbl[1162]? = some (Cond.code yX7_fit cX7_fit 4 (some .int)) := by rfl
set_option maxRecDepth 20000 in
theorem cd173 : lw_tbl[1184]? = some (Cond.code yX7_share cX7_share 5 (some .long)) := by rfl
set_option maxRecDepth 20000 in
theorem cd174 : lw_tbl[1192]? = some (Cond.code yX7_goes cX7_goes 9 none) := by rfl
set_option maxRecDepth 20000 in
theorem cd175 : lw_tbl[1188]? = some (Cond.code yX7_go cX7_go 5 (some .int)) := by rfl
set_option maxRecDepth 20000 in
theorem cd176 : lw_tbl[1201]? = some (Cond.code yX7_firstOther cX7_firstOther 5 (some .int)) := by rfl
set_option maxRecDepth 20000 in
theorem cd177 : lw_tbl[1205]? = some (Cond.code yX7_coastSet cX7_coastSet 5 (some .int)) := by rfl
set_option maxRecDepth 20000 in
theorem cd178 : lw_tbl[1196]? = some (Cond.code yX7_tells cX7_tells 12 (some .int)) := by rfl
set_option maxRecDepth 20000 in
theorem cd179 : lw_tbl[1209]? = some (Cond.code yX7_film cX7_film 6 (some .int)) := by rfl
set_option maxRecDepth 20000 in
theorem cd180 : lw_tbl[1218]? = some (Cond.code yX7_shoeDrawn cX7_shoeDrawn 9 (some .int)) := by rfl
set_option maxRecDepth 20000 in
theorem cd181 : lw_tbl[1213]? = some (Cond.code yX7_drawn cX7_drawn 4 (some .int)) := by rfl
set_option maxRecDepth 20000 in
theorem cd182 : lw_tbl[1223]? = some (Cond.code yX7_chance cX7_chance 9 (some .long)) := by rfl
set_option maxRecDepth 20000 in
theorem cd183 : lw_tbl[1229]? = some (Cond.code yX7_image cX7_image 2 (some .int)) := by rfl
set_option maxRecDepth 20000 in
theorem cd184 : lw_tbl[1233]? = some (Cond.code yX7_back cX7_back 2 (some .int)) := by rfl
set_option maxRecDepth 20000 in
theorem cd185 : lw_tbl[1237]? = some (Cond.code yX7_count cX7_count 4 (some .int)) := by rfl
set_option maxRecDepth 20000 in
theorem cd186 : lw_tbl[1153]? = some (Cond.code yX7_isSheet cX7_isSheet 1 (some .boolean)) := by rfl
set_option maxRecDepth 20000 in
theorem cd187 : lw_tbl[1157]? = some (Cond.code yX7_sheet cX7_sheet 5 (some .int)) := by rfl
set_option maxRecDepth 20000 in
theorem cd188 : lw_tbl[1242]? = some (Cond.code yX7_cell cX7_cell 4 (some .int)) := by rfl
set_option maxRecDepth 20000 in
theorem cd189 : lw_tbl[1246]? = some (Cond.code yX7_copy cX7_copy 9 (some .int)) := by rfl
set_option maxRecDepth 20000 in
theorem cd190 : lw_tbl[1250]? = some (Cond.code yX7_people cX7_people 8 (some .int)) := by rfl
set_option maxRecDepth 20000 in
theorem cd191 : lw_tbl[1258]? = some (Cond.code yX7_over cX7_over 1 (some .int)) := by rfl
set_option maxRecDepth 20000 in
theorem cd192 : lw_tbl[1255]? = some (Cond.code yX7_taken cX7_taken 4 (some .int)) := by rfl
def okMB (q : MD) : Bool := match q with
  | (y, cc, ml, ret, n, stt, pc, pi, ps, pz) => plainName y.cls && (cond stt (decide (lw_tbl[pi]? = some (.static y))) (decide (lw_tbl[pi]? = some (.instanceMethod y)) && (decide (y.name = "<init>") || decide (lw_tbl[ps]? = some (.selects y.cls y y)))) && (decide (lw_tbl[pz]? = some (.initialized y.cls)) &&
    (decide (y.cls ≠ "java/lang/invoke/MethodHandle" ∧ y.cls ≠ "java/lang/invoke/VarHandle") && (decide ((parseMethodDescriptor y.desc).map (fun d => d.parameters.length) = some n) && Nat.ble ml 40))))
set_option maxRecDepth 20000 in
theorem okM_all : mdL.all okMB = true := by decide +kernel
def cdP (q : MD) : Prop := lw_tbl[q.2.2.2.2.2.2.1]? = some (Cond.code q.1 q.2.1 q.2.2.1 q.2.2.2.1)
theorem cd_all : ∀ q ∈ mdL, cdP q := by
  unfold mdL
  refine List.forall_mem_cons.mpr ⟨cd0, ?_⟩
  refine List.forall_mem_cons.mpr ⟨cd1, ?_⟩
  refine List.forall_mem_cons.mpr ⟨cd2, ?_⟩
  refine List.forall_mem_cons.mpr ⟨cd3, ?_⟩
  refine List.forall_mem_cons.mpr ⟨cd4, ?_⟩
  refine List.forall_mem_cons.mpr ⟨cd5, ?_⟩
  refine List.forall_mem_cons.mpr ⟨cd6, ?_⟩
  refine List.forall_mem_cons.mpr ⟨cd7, ?_⟩
  refine List.forall_mem_cons.mpr ⟨cd8, ?_⟩
  refine List.forall_mem_cons.mpr ⟨cd9, ?_⟩
  refine List.forall_mem_cons.mpr ⟨cd10, ?_⟩
  refine List.forall_mem_cons.mpr ⟨cd11, ?_⟩
  refine List.forall_mem_cons.mpr ⟨cd12, ?_⟩
  refine List.forall_mem_cons.mpr ⟨cd13, ?_⟩
  refine List.forall_mem_cons.mpr ⟨cd14, ?_⟩
  refine List.forall_mem_cons.mpr ⟨cd15, ?_⟩
  refine List.forall_mem_cons.mpr ⟨cd16, ?_⟩
  refine List.forall_mem_cons.mpr ⟨cd17, ?_⟩
  refine List.forall_mem_cons.mpr ⟨cd18, ?_⟩
  refine List.forall_mem_cons.mpr ⟨cd19, ?_⟩
  refine List.forall_mem_cons.mpr ⟨cd20, ?_⟩
  refine List.forall_mem_cons.mpr ⟨cd21, ?_⟩
  refine List.forall_mem_cons.mpr ⟨cd22, ?_⟩
  refine List.forall_mem_cons.mpr ⟨cd23, ?_⟩
  refine List.forall_mem_cons.mpr ⟨cd24, ?_⟩
  refine List.forall_mem_cons.mpr ⟨cd25, ?_⟩
  refine List.forall_mem_cons.mpr ⟨cd26, ?_⟩
  refine List.forall_mem_cons.mpr ⟨cd27, ?_⟩
  refine List.forall_mem_cons.mpr ⟨cd28, ?_⟩
  refine List.forall_mem_cons.mpr ⟨cd29, ?_⟩
  refine List.forall_mem_cons.mpr ⟨cd30, ?_⟩
  refine List.forall_mem_cons.mpr ⟨cd31, ?_⟩
  refine List.forall_mem_cons.mpr ⟨cd32, ?_⟩
  refine List.forall_mem_cons.mpr ⟨cd33, ?_⟩
  refine List.forall_mem_cons.mpr ⟨cd34, ?_⟩
  refine List.forall_mem_cons.mpr ⟨cd35, ?_⟩
  refine List.forall_mem_cons.mpr ⟨cd36, ?_⟩
  refine List.forall_mem_cons.mpr ⟨cd37, ?_⟩
  refine List.forall_mem_cons.mpr ⟨cd38, ?_⟩
  refine List.forall_mem_cons.mpr ⟨cd39, ?_⟩
  refine List.forall_mem_cons.mpr ⟨cd40, ?_⟩
  refine List.forall_mem_cons.mpr ⟨cd41, ?_⟩
  refine List.forall_mem_cons.mpr ⟨cd42, ?_⟩
  refine List.forall_mem_cons.mpr ⟨cd43, ?_⟩
  refine List.forall_mem_cons.mpr ⟨cd44, ?_⟩
  refine List.forall_mem_cons.mpr ⟨cd45, ?_⟩
  refine List.forall_mem_cons.mpr ⟨cd46, ?_⟩
  refine List.forall_mem_cons.mpr ⟨cd47, ?_⟩
  refine List.forall_mem_cons.mpr ⟨cd48, ?_⟩
  refine List.forall_mem_cons.mpr ⟨cd49, ?_⟩
  refine List.forall_mem_cons.mpr ⟨cd50, ?_⟩
  refine List.forall_mem_cons.mpr ⟨cd51, ?_⟩
  refine List.forall_mem_cons.mpr ⟨cd52, ?_⟩
  refine List.forall_mem_cons.mpr ⟨cd53, ?_⟩
  refine List.forall_mem_cons.mpr ⟨cd54, ?_⟩
  refine List.forall_mem_cons.mpr ⟨cd55, ?_⟩
  refine List.forall_mem_cons.mpr ⟨cd56, ?_⟩
  refine List.forall_mem_cons.mpr ⟨cd57, ?_⟩
  refine List.forall_mem_cons.mpr ⟨cd58, ?_⟩
  refine List.forall_mem_cons.mpr ⟨cd59, ?_⟩
  refine List.forall_mem_cons.mpr ⟨cd60, ?_⟩
  refine List.forall_mem_cons.mpr ⟨cd61, ?_⟩
  refine List.forall_mem_cons.mpr ⟨cd62, ?_⟩
  refine List.forall_mem_cons.mpr ⟨cd63, ?_⟩
  refine List.forall_mem_cons.mpr ⟨cd64, ?_⟩
  refine List.forall_mem_cons.mpr ⟨cd65, ?_⟩
  refine List.forall_mem_cons.mpr ⟨cd66, ?_⟩
  refine List.forall_mem_cons.mpr ⟨cd67, ?_⟩
  refine List.forall_mem_cons.mpr ⟨cd68, ?_⟩
  refine List.forall_mem_cons.mpr ⟨cd69, ?_⟩
  refine List.forall_mem_cons.mpr ⟨cd70, ?_⟩
  refine List.forall_mem_cons.mpr ⟨cd71, ?_⟩
  refine List.forall_mem_cons.mpr ⟨cd72, ?_⟩
  refine List.forall_mem_cons.mpr ⟨cd73, ?_⟩
  refine List.forall_mem_cons.mpr ⟨cd74, ?_⟩
  refine List.forall_mem_cons.mpr ⟨cd75, ?_⟩
  refine List.forall_mem_cons.mpr ⟨cd76, ?_⟩
  refine List.forall_mem_cons.mpr ⟨cd77, ?_⟩
  refine List.forall_mem_cons.mpr ⟨cd78, ?_⟩
  refine List.forall_mem_cons.mpr ⟨cd79, ?_⟩
  refine List.forall_mem_cons.mpr ⟨cd80, ?_⟩
  refine List.forall_mem_cons.mpr ⟨cd81, ?_⟩
  refine List.forall_mem_cons.mpr ⟨cd82, ?_⟩
  refine List.forall_mem_cons.mpr ⟨cd83, ?_⟩
  refine List.forall_mem_cons.mpr ⟨cd84, ?_⟩
  refine List.forall_mem_cons.mpr ⟨cd85, ?_⟩
  refine List.forall_mem_cons.mpr ⟨cd86, ?_⟩
  refine List.forall_mem_cons.mpr ⟨cd87, ?_⟩
  refine List.forall_mem_cons.mpr ⟨cd88, ?_⟩
  refine List.forall_mem_cons.mpr ⟨cd89, ?_⟩
  refine List.forall_mem_cons.mpr ⟨cd90, ?_⟩
  refine List.forall_mem_cons.mpr ⟨cd91, ?_⟩
  refine List.forall_mem_cons.mpr ⟨cd92, ?_⟩
  refine List.forall_mem_cons.mpr ⟨cd93, ?_⟩
  refine List.forall_mem_cons.mpr ⟨cd94, ?_⟩
  refine List.forall_mem_cons.mpr ⟨cd95, ?_⟩
  refine List.forall_mem_cons.mpr ⟨cd96, ?_⟩
  refine List.forall_mem_cons.mpr ⟨cd97, ?_⟩
  refine List.forall_mem_cons.mpr ⟨cd98, ?_⟩
  refine List.forall_mem_cons.mpr ⟨cd99, ?_⟩
  refine List.forall_mem_cons.mpr ⟨cd100, ?_⟩
  refine List.forall_mem_cons.mpr ⟨cd101, ?_⟩
  refine List.forall_mem_cons.mpr ⟨cd102, ?_⟩
  refine List.forall_mem_cons.mpr ⟨cd103, ?_⟩
  refine List.forall_mem_cons.mpr ⟨cd104, ?_⟩
  refine List.forall_mem_cons.mpr ⟨cd105, ?_⟩
  refine List.forall_mem_cons.mpr ⟨cd106, ?_⟩
  refine List.forall_mem_cons.mpr ⟨cd107, ?_⟩
  refine List.forall_mem_cons.mpr ⟨cd108, ?_⟩
  refine List.forall_mem_cons.mpr ⟨cd109, ?_⟩
  refine List.forall_mem_cons.mpr ⟨cd110, ?_⟩
  refine List.forall_mem_cons.mpr ⟨cd111, ?_⟩
  refine List.forall_mem_cons.mpr ⟨cd112, ?_⟩
  refine List.forall_mem_cons.mpr ⟨cd113, ?_⟩
  refine List.forall_mem_cons.mpr ⟨cd114, ?_⟩
  refine List.forall_mem_cons.mpr ⟨cd115, ?_⟩
  refine List.forall_mem_cons.mpr ⟨cd116, ?_⟩
  refine List.forall_mem_cons.mpr ⟨cd117, ?_⟩
  refine List.forall_mem_cons.mpr ⟨cd118, ?_⟩
  refine List.forall_mem_cons.mpr ⟨cd119, ?_⟩
  refine List.forall_mem_cons.mpr ⟨cd120, ?_⟩
  refine List.forall_mem_cons.mpr ⟨cd121, ?_⟩
  refine List.forall_mem_cons.mpr ⟨cd122, ?_⟩
  refine List.forall_mem_cons.mpr ⟨cd123, ?_⟩
  refine List.forall_mem_cons.mpr ⟨cd124, ?_⟩
  refine List.forall_mem_cons.mpr ⟨cd125, ?_⟩
  refine List.forall_mem_cons.mpr ⟨cd126, ?_⟩
  refine List.forall_mem_cons.mpr ⟨cd127, ?_⟩
  refine List.forall_mem_cons.mpr ⟨cd128, ?_⟩
  refine List.forall_mem_cons.mpr ⟨cd129, ?_⟩
  refine List.forall_mem_cons.mpr ⟨cd130, ?_⟩
  refine List.forall_mem_cons.mpr ⟨cd131, ?_⟩
  refine List.forall_mem_cons.mpr ⟨cd132, ?_⟩
  refine List.forall_mem_cons.mpr ⟨cd133, ?_⟩
  refine List.forall_mem_cons.mpr ⟨cd134, ?_⟩
  refine List.forall_mem_cons.mpr ⟨cd135, ?_⟩
  refine List.forall_mem_cons.mpr ⟨cd136, ?_⟩
  refine List.forall_mem_cons.mpr ⟨cd137, ?_⟩
  refine List.forall_mem_cons.mpr ⟨cd138, ?_⟩
  refine List.forall_mem_cons.mpr ⟨cd139, ?_⟩
  refine List.forall_mem_cons.mpr ⟨cd140, ?_⟩
  refine List.forall_mem_cons.mpr ⟨cd141, ?_⟩
  refine List.forall_mem_cons.mpr ⟨cd142, ?_⟩
  refine List.forall_mem_cons.mpr ⟨cd143, ?_⟩
  refine List.forall_mem_cons.mpr ⟨cd144, ?_⟩
  refine List.forall_mem_cons.mpr ⟨cd145, ?_⟩
  refine List.forall_mem_cons.mpr ⟨cd146, ?_⟩
  refine List.forall_mem_cons.mpr ⟨cd147, ?_⟩
  refine List.forall_mem_cons.mpr ⟨cd148, ?_⟩
  refine List.forall_mem_cons.mpr ⟨cd149, ?_⟩
  refine List.forall_mem_cons.mpr ⟨cd150, ?_⟩
  refine List.forall_mem_cons.mpr ⟨cd151, ?_⟩
  refine List.forall_mem_cons.mpr ⟨cd152, ?_⟩
  refine List.forall_mem_cons.mpr ⟨cd153, ?_⟩
  refine List.forall_mem_cons.mpr ⟨cd154, ?_⟩
  refine List.forall_mem_cons.mpr ⟨cd155, ?_⟩
  refine List.forall_mem_cons.mpr ⟨cd156, ?_⟩
  refine List.forall_mem_cons.mpr ⟨cd157, ?_⟩
  refine List.forall_mem_cons.mpr ⟨cd158, ?_⟩
  refine List.forall_mem_cons.mpr ⟨cd159, ?_⟩
  refine List.forall_mem_cons.mpr ⟨cd160, ?_⟩
  refine List.forall_mem_cons.mpr ⟨cd161, ?_⟩
  refine List.forall_mem_cons.mpr ⟨cd162, ?_⟩
  refine List.forall_mem_cons.mpr ⟨cd163, ?_⟩
  refine List.forall_mem_cons.mpr ⟨cd164, ?_⟩
  refine List.forall_mem_cons.mpr ⟨cd165, ?_⟩
  refine List.forall_mem_cons.mpr ⟨cd166, ?_⟩
  refine List.forall_mem_cons.mpr ⟨cd167, ?_⟩
  refine List.forall_mem_cons.mpr ⟨cd168, ?_⟩
  refine List.forall_mem_cons.mpr ⟨cd169, ?_⟩
  refine List.forall_mem_cons.mpr ⟨cd170, ?_⟩
  refine List.forall_mem_cons.mpr ⟨cd171, ?_⟩
  refine List.forall_mem_cons.mpr ⟨cd172, ?_⟩
  refine List.forall_mem_cons.mpr ⟨cd173, ?_⟩
  refine List.forall_mem_cons.mpr ⟨cd174, ?_⟩
  refine List.forall_mem_cons.mpr ⟨cd175, ?_⟩
  refine List.forall_mem_cons.mpr ⟨cd176, ?_⟩
  refine List.forall_mem_cons.mpr ⟨cd177, ?_⟩
  refine List.forall_mem_cons.mpr ⟨cd178, ?_⟩
  refine List.forall_mem_cons.mpr ⟨cd179, ?_⟩
  refine List.forall_mem_cons.mpr ⟨cd180, ?_⟩
  refine List.forall_mem_cons.mpr ⟨cd181, ?_⟩
  refine List.forall_mem_cons.mpr ⟨cd182, ?_⟩
  refine List.forall_mem_cons.mpr ⟨cd183, ?_⟩
  refine List.forall_mem_cons.mpr ⟨cd184, ?_⟩
  refine List.forall_mem_cons.mpr ⟨cd185, ?_⟩
  refine List.forall_mem_cons.mpr ⟨cd186, ?_⟩
  refine List.forall_mem_cons.mpr ⟨cd187, ?_⟩
  refine List.forall_mem_cons.mpr ⟨cd188, ?_⟩
  refine List.forall_mem_cons.mpr ⟨cd189, ?_⟩
  refine List.forall_mem_cons.mpr ⟨cd190, ?_⟩
  refine List.forall_mem_cons.mpr ⟨cd191, ?_⟩
  refine List.forall_mem_cons.mpr ⟨cd192, ?_⟩
  exact fun _ h => absurd h List.not_mem_nil
def okM (q : MD) : Prop := match q with
  | (y, cc, ml, ret, n, stt, _, _, _, _) => plainName y.cls = true ∧ GoodIn gT (Cond.code y cc ml ret :: gT) ∧ (stt = true → Cond.static y ∈ gT) ∧ (stt = false → Cond.instanceMethod y ∈ gT ∧ (y.name = "<init>" ∨ Cond.selects y.cls y y ∈ gT)) ∧ Cond.initialized y.cls ∈ gT ∧
    (y.cls ≠ "java/lang/invoke/MethodHandle" ∧ y.cls ≠ "java/lang/invoke/VarHandle") ∧ (parseMethodDescriptor y.desc).map (fun d => d.parameters.length) = some n ∧ ml ≤ 40
theorem okM_at {y : Nat} {q : MD} (h : mdL[y]? = some q) : okM q := by
  have h1 := List.all_eq_true.mp okM_all q (List.mem_of_getElem? h)
  obtain ⟨y, cc, ml, ret, n, stt, pc, pi, ps, pz⟩ := q
  simp only [okMB, Bool.and_eq_true, decide_eq_true_eq] at h1
  obtain ⟨a1, a3, a4, a5, a6, a7⟩ := h1
  have a2 := cd_all _ (List.mem_of_getElem? h)
  refine ⟨a1, good_self pc a2, ?_, ?_, gT_in pz a4 rfl, a5, a6, by simpa using a7⟩
  · intro e
    subst e
    exact gT_in pi (by simpa using a3) rfl
  · intro e
    subst e
    simp only [cond_false, Bool.and_eq_true, decide_eq_true_eq, Bool.or_eq_true] at a3
    refine ⟨gT_in pi a3.1 rfl, ?_⟩
    rcases a3.2 with h | h
    · exact Or.inl h
    · exact Or.inr (gT_in ps h rfl)
end
section
theorem csum_eq (E : EnvT) : ∀ st : List AV, ((st.map (cV E)).map (fun v => v.category)).sum = nCsum st
  | [] => rfl
  | v :: l => by
    rw [List.map_cons, List.map_cons, List.sum_cons, csum_eq E l]
    have : (cV E v).category = nCat v := by
      rcases v with x | x | ⟨k, i⟩ <;> rfl
    rw [this]
    rfl
def rmD (d mc ms : Nat) : Room := { frames := d + 8, cells := mc, slots := ms, locals := 64 * d + 512 }
set_option maxRecDepth 20000 in
theorem room_le {ml d L : Nat} (h8 : ml ≤ 40) (h : 64 * d + 576 ≤ L) : 8 + (ml + 11) + (64 * d + 512) ≤ L := by omega
def QY (E : EnvT) (r : Res) : Array Value → State → Outcome → State → Prop := fun _ st o t => (o = .returned (r.1.map (cV E)) ∧ WD E r.2 t.heap) ∧ va_F (aF E) st t ∧ ∀ v, r.1 = some v → okV (nT r.2) v
def MetY (E : EnvT) (X : Nat × (Nat → Int32)) (l : Launch) (d : Nat) (q : MD) (av : List AV) (σ : Mem) (r : Res) : Prop :=
  Met l q.1 (Cond.code q.1 q.2.1 q.2.2.1 q.2.2.2.1 :: gT) (rmD d (nT r.2 - nT σ) (nU r.2 - nU σ)) (va_Pc (av.map (cV E)) (fun U => WD E σ U.heap ∧ KF E X U)) (QY E r) (nT r.2 - nT σ) (nU r.2 - nU σ) (aF E)
/-- what is known of the own methods at one depth -/
def Snd (E : EnvT) (X : Nat × (Nat → Int32)) (l : Launch) (d : Nat) (cal : Cal) : Prop := ∀ (y : Nat) (av : List AV) (σ : Mem) (r : Res), cal y av σ = some r → (∀ v ∈ av, okV (nT σ) v) → wfA σ.2.2 →
  (nT σ ≤ nT r.2 ∧ nU σ ≤ nU r.2) ∧ ∃ q, mdL[y]? = some q ∧ MetY E X l d q av σ r
section
variable {E : EnvT} {X : Nat × (Nat → Int32)} {nL : Nat} {s0 : Mem} {p : Program} {l : Launch} {e : Env} {R : Room} {s : State} {m : MethodId} {args : Array Value} {below : List Frame} {meth : Method} {c : Code} {Q : State → Prop} {cc : ByteArray} {oC : String} {ini : Bool} {pc : Nat} {ls st : List AV} {σ : Mem} {K : Kon} {r : Res} {d : Nat} {cal : Cal}
theorem fin_call {rr : Res} {rest : List AV} {st0 : List Value} {H : Heap} {locs : List Loc} {lsC : Array Slot} {As : Array Value} (hs0 : s.heap.size = E.1.1 + nT s0) (hle : nT σ ≤ nT rr.2 ∧ nU σ ≤ nU rr.2) (hL : LH E nL lsC ls) (hS : va_S (aF E) s.heap H locs)
    (h1 : ∀ v ∈ ls, okV (nT σ) v) (h2 : ∀ v ∈ rest, okV (nT σ) v) (h3 : nT s0 ≤ nT σ ∧ nU s0 ≤ nU σ) (hk : Wf E nL s0 p l e R s m args below meth c Q (pc + 3) ls (rr.1.toList ++ rest) rr.2)
    (hr : va_Run p l e R s m args below meth c H locs (nT σ - nT s0) (nU σ - nU s0) (nT rr.2 - nT σ) (nU rr.2 - nU σ) (F0 m pc lsC st0) (rest.map (cV E)) (QY E rr As) (aF E)) :
    W p l e R s m args below meth c H locs (nT σ - nT s0) (nU σ - nU s0) Q (F0 m pc lsC st0) := by
  refine W_run hr ?_
  intro v st1 t L h0 hq hLL
  obtain ⟨⟨hq1, hWt⟩, hF, hrv⟩ := hq
  have hq1 := Outcome.returned.inj hq1
  rw [hq1]
  have hst : (rr.1.map (cV E)).toList ++ rest.map (cV E) = (rr.1.toList ++ rest).map (cV E) := by
    cases rr.1 <;> simp
  rw [hst]
  have hS2 : va_S (aF E) s.heap t.heap (locs ++ L) := by
    obtain ⟨f1, f2⟩ := hF
    rw [h0] at f1 f2
    refine ⟨Nat.le_trans hS.1 f1, fun q q1 q2 => ?_, fun q hq => ?_⟩
    · rw [f2 q (Nat.lt_of_lt_of_le q1 hS.1) q2]
      exact hS.2.1 q q1 q2
    · rcases List.mem_append.mp hq with h | h
      · exact hS.2.2 q h
      · exact hLL q h
  have hok : ∀ w ∈ rr.1.toList ++ rest, okV (nT rr.2) w := by
    intro w hw
    rcases List.mem_append.mp hw with h | h
    · exact hrv w (by simpa using h)
    · exact (h2 w h).le hle.1
  have h4 := hk (fun w hw => (h1 w hw).le hle.1) hok ⟨Nat.le_trans h3.1 hle.1, Nat.le_trans h3.2 hle.2⟩ t.heap (locs ++ L) lsC hWt hL hS2
  have e1 : nT rr.2 - nT s0 = nT σ - nT s0 + (nT rr.2 - nT σ) := by omega
  have e2 : nU rr.2 - nU s0 = nU σ - nU s0 + (nU rr.2 - nU σ) := by omega
  rw [e1, e2] at h4
  exact h4
theorem blind_W {σ : Mem} {av : List Value} : FrameBlind (va_Pc av (fun U => WD E σ U.heap ∧ KF E X U)) := by
  intro a U g mk h
  exact ⟨h.1, h.2.1, h.2.2.same rfl rfl⟩
/-- a call's kind and link -/
def okCall (oC : String) (i : Nat) (a : List Nat) (kind : Nat) : Prop := ∃ q : MD, mdL[nAx a 1]? = some q ∧ nAx a 2 = q.2.2.2.2.1 ∧
  (Cond.methodLink oC i q.1 ∈ gT ∨ Cond.methodLinkNest oC i q.1 RX6 ∈ nestL) ∧
  (match kind with
    | 0 => nAx a 3 ≠ 0 ∧ q.2.2.2.2.2.1 = false ∧ q.1.name ≠ "<init>" ∧ q.1.cls = RC (nAx a 3) ∧ Cond.methodLink oC i q.1 ∈ gT
    | 1 => nAx a 3 ≠ 0 ∧ q.2.2.2.2.2.1 = false ∧ q.1.name = "<init>" ∧ q.2.2.2.1 = none
    | _ => q.2.2.2.2.2.1 = true)
theorem bnd_some {o : Option Res} {f : Option AV → Mem → Option Res} (h : nBnd o f = some r) : ∃ rr, o = some rr ∧ f rr.1 rr.2 = some r := by
  rcases o with _ | ⟨v, s⟩
  · cases h
  · exact ⟨(v, s), rfl, h⟩
theorem take_rev {st : List AV} {n : Nat} : st.map (cV E) = ((st.take n).reverse.map (cV E)).reverse ++ (st.drop n).map (cV E) := by
  rw [← List.map_reverse, List.reverse_reverse, ← List.map_append, List.take_append_drop]
theorem okl_take {t : Nat} {st : List AV} {n : Nat} (h : ∀ v ∈ st, okV t v) : ∀ v ∈ (st.take n).reverse, okV t v := fun v hv => h v (List.mem_of_mem_take (List.mem_reverse.mp hv))
theorem okl_drop {t : Nat} {st : List AV} {n : Nat} (h : ∀ v ∈ st, okV t v) : ∀ v ∈ st.drop n, okV t v := fun v hv => h v (List.mem_of_mem_drop hv)
theorem len_rev {st : List AV} {n : Nat} (h : n ≤ st.length) : ((st.take n).reverse.map (cV E)).length = n := by
  simp [Nat.min_eq_left h]
theorem nestNw {w : Cond} (hKF : KF E X s) (h : w ∈ nestL) (hw : w.onTables = true) : w.before args s = true := va_Nw.use hw (hKF.2.1 w h)
theorem sim_callS {idx : Nat} {a : List Nat} (hC : Ctx E X p R s m args meth c cc nL oC ini) (hs0 : s.heap.size = E.1.1 + nT s0) (hR : d + 9 ≤ R.frames ∧ 64 * d + 576 ≤ R.locals) (hcal : Snd E X l d cal) (hd : decode cc pc = .ok (.invokestatic idx, 3)) (hok : okCall oC idx a 2)
    (hK : pCall cal K pc ls st σ (nAx a 1) (nAx a 2) 0 = some r) (hk : ∀ pc ls st σ', K pc ls st σ' = some r → Wf E nL s0 p l e R s m args below meth c Q pc ls st σ') (hfin : ∀ pc ls st σ', K pc ls st σ' = some r → nT σ' ≤ nT s0 + R.cells ∧ nU σ' ≤ nU s0 + R.slots) : Wf E nL s0 p l e R s m args below meth c Q pc ls st σ := by
  obtain ⟨q, hq0, hn, hlk, hstt⟩ := hok
  try dsimp only at hstt
  unfold pCall at hK
  cases hcs : Nat.ble (nCsum (st.drop (nAx a 2))) 8
  · rw [hcs] at hK; cases hK
  rw [hcs] at hK
  dsimp only [cond_true] at hK
  cases hle : Nat.ble (nAx a 2) st.length
  · rw [hle] at hK; cases hK
  rw [hle] at hK
  obtain ⟨rr, hr1, hr2⟩ := bnd_some hK
  obtain ⟨g1, g2, g3, g4, g5, g6, g7⟩ := hC
  intro h1 h2 h3 H locs lsC hW hL hS
  obtain ⟨hmono, q2, hq2, hMet⟩ := hcal _ _ _ _ hr1 (okl_take h2) hW.2.2
  cases hq0.symm.trans hq2
  have hM := okM_at hq0
  obtain ⟨y, bc, ml, ret, n, stt, xx⟩ := q
  obtain ⟨b1, b2, b3, b4, b5, b6, b7, b8⟩ := hM
  dsimp only at hn hstt hlk hMet
  have hf := hfin _ _ _ _ hr2
  have hle := Nat.ble_eq.mp hle
  have hcs := Nat.ble_eq.mp hcs
  have hroom : (rmD d (nT rr.2 - nT σ) (nU rr.2 - nU σ)).frames + 1 ≤ R.frames ∧ 8 + (ml + 11) + (rmD d (nT rr.2 - nT σ) (nU rr.2 - nU σ)).locals ≤ R.locals := by
    have := hR.1
    have := hR.2
    refine ⟨?_, ?_⟩
    · exact hR.1
    · exact room_le b8 hR.2
  have hpre : PreS s H (va_Pc ((st.take (nAx a 2)).reverse.map (cV E)) (fun U => WD E σ U.heap ∧ KF E X U)) ((st.take (nAx a 2)).reverse.map (cV E)) := ⟨blind_W, fun U hU hW2 => ⟨rfl, by rw [hU]; exact hW, g6.moved hW2 (fun a ha => by
      rw [hU]
      exact hS.2.1 a (Nat.lt_of_lt_of_le ha g6.2.2.2.2.2.2.2.2.2.1) (Nat.not_le.mpr ha)) (by rw [hU]; exact Nat.le_trans g6.2.2.2.2.2.2.2.2.2.1 hS.1)⟩⟩
  have hwr : 2 * (F0 m pc lsC (st.map (cV E))).monitorRoom + ((st.drop (nAx a 2)).map (cV E) |>.map fun v => v.category).sum ≤ 8 := lv_room (by rw [csum_eq]; exact hcs)
  have hstat := g5 _ (b3 hstt)
  rcases hlk with hlk | hlk
  · exact fin_call hs0 hmono hL hS h1 (okl_drop h2) h3 (hk _ _ _ _ hr2)
      (va_runS (As := (st.take (nAx a 2)).reverse.map (cV E)) (rest := (st.drop (nAx a 2)).map (cV E)) ⟨g1, g2, g3, g4, g5⟩ hMet ⟨callB_of n g5 b2 rfl rfl rfl (g5 _ b5) (g5 _ hlk) ⟨b6.1, b6.2, b7⟩ hroom, hstat⟩ hpre rfl (by rw [← hn]; exact len_rev hle) hL.1.1 take_rev hwr hd ⟨by omega, by omega⟩)
  · exact fin_call hs0 hmono hL hS h1 (okl_drop h2) h3 (hk _ _ _ _ hr2)
      (va_runSN (As := (st.take (nAx a 2)).reverse.map (cV E)) (rest := (st.drop (nAx a 2)).map (cV E)) ⟨g1, g2, g3, g4, g5⟩ hMet ⟨va_cnB n g5 b2 rfl rfl rfl (g6.2.1 _ hlk) (g5 _ b5) ⟨b6.1, b6.2, b7⟩ hroom, hstat, trivial⟩ hpre rfl (by rw [← hn]; exact len_rev hle) hL.1.1 take_rev hwr hd ⟨by omega, by omega⟩)
theorem drop_cons_eq {st rr : List AV} {n : Nat} {v : AV} (h : st.drop n = v :: rr) : st.map (cV E) = ((st.take n).reverse.map (cV E)).reverse ++ cV E v :: rr.map (cV E) := by
  rw [take_rev (st := st) (n := n), h]
  rfl
theorem sim_callV {idx : Nat} {a : List Nat} (hC : Ctx E X p R s m args meth c cc nL oC ini) (hs0 : s.heap.size = E.1.1 + nT s0) (hR : d + 9 ≤ R.frames ∧ 64 * d + 576 ≤ R.locals) (hcal : Snd E X l d cal) (hd : decode cc pc = .ok (.invokevirtual idx, 3)) (hok : okCall oC idx a 0)
    (hK : pCall cal K pc ls st σ (nAx a 1) (nAx a 2) (nAx a 3) = some r) (hk : ∀ pc ls st σ', K pc ls st σ' = some r → Wf E nL s0 p l e R s m args below meth c Q pc ls st σ') (hfin : ∀ pc ls st σ', K pc ls st σ' = some r → nT σ' ≤ nT s0 + R.cells ∧ nU σ' ≤ nU s0 + R.slots) : Wf E nL s0 p l e R s m args below meth c Q pc ls st σ := by
  obtain ⟨q, hq0, hn, -, hcn, hstt, hnin, hcls, hlk⟩ := hok
  unfold pCall at hK
  cases hcs : Nat.ble (nCsum (st.drop (nAx a 2))) 8
  · rw [hcs] at hK; cases hK
  rw [hcs] at hK
  dsimp only [cond_true] at hK
  revert hK
  rcases hc3 : nAx a 3 with _ | cn
  · exact absurd hc3 hcn
  intro hK
  try dsimp only at hK
  rcases hdr : st.drop (nAx a 2) with _ | ⟨x | x | ⟨k, i⟩, rest⟩
  · rw [hdr] at hK; cases hK
  · rw [hdr] at hK; cases hK
  · rw [hdr] at hK; cases hK
  rw [hdr] at hK
  dsimp only at hK
  cases hkc : (nKc k == cn + 1)
  · rw [hkc] at hK; cases hK
  rw [hkc] at hK
  obtain ⟨rr, hr1, hr2⟩ := bnd_some hK
  obtain ⟨g1, g2, g3, g4, g5, g6, g7⟩ := hC
  intro h1 h2 h3 H locs lsC hW hL hS
  have hdok := okl_drop (n := nAx a 2) h2
  rw [hdr] at hdok
  have hv : okT (nT σ) (k, i) := okV.kc (okl_hd hdok) (kc_ne hkc (by omega))
  obtain ⟨hmono, q2, hq2, hMet⟩ := hcal _ _ _ _ hr1 (okl_cons (okl_hd hdok) (okl_take h2)) hW.2.2
  cases hq0.symm.trans hq2
  have hM := okM_at hq0
  obtain ⟨y, bc, ml, ret, n, stt, xx⟩ := q
  obtain ⟨b1, b2, b3, b4, b5, b6, b7, b8⟩ := hM
  dsimp only at hn hstt hlk hMet hnin hcls
  have hf := hfin _ _ _ _ hr2
  have hcs := Nat.ble_eq.mp hcs
  rw [hdr] at hcs
  have hcs2 : nCsum rest ≤ 8 := Nat.le_trans (Nat.le_add_left _ _) hcs
  have hlen : nAx a 2 ≤ st.length := by
    rcases Nat.lt_or_ge st.length (nAx a 2) with q | q
    · rw [List.drop_eq_nil_of_le (Nat.le_of_lt q)] at hdr
      cases hdr
    · exact q
  have hroom : (rmD d (nT rr.2 - nT σ) (nU rr.2 - nU σ)).frames + 1 ≤ R.frames ∧ 8 + (ml + 11) + (rmD d (nT rr.2 - nT σ) (nU rr.2 - nU σ)).locals ≤ R.locals := by
    have := hR.1
    have := hR.2
    refine ⟨?_, ?_⟩
    · exact hR.1
    · exact room_le b8 hR.2
  have hcn7 : 1 ≤ cn + 1 ∧ cn + 1 ≤ 7 := by
    refine ⟨by omega, ?_⟩
    rw [← eq_of_beq hkc]
    unfold nKc
    split <;> decide
  have he := wL_at E σ hv
  rw [cE_obj (eq_of_beq hkc) (by omega)] at he
  have hrecv := va_recv (D := E.2.2.1) g6.1 hW.1 (clAt hcn7) he
  have hcb : cV E (.inr (.inr (k, i))) = .ref (cA E k i) := rfl
  have hpre : PreV s H (RC (cn + 1)) (cA E k i) (va_Pc ((vR k i :: (st.take (nAx a 2)).reverse).map (cV E)) (fun U => WD E σ U.heap ∧ KF E X U)) ((st.take (nAx a 2)).reverse.map (cV E)) := ⟨blind_W, hrecv, fun U hU hW2 => ⟨rfl, by rw [hU]; exact hW, g6.moved hW2 (fun a ha => by
      rw [hU]
      exact hS.2.1 a (Nat.lt_of_lt_of_le ha g6.2.2.2.2.2.2.2.2.2.1) (Nat.not_le.mpr ha)) (by rw [hU]; exact Nat.le_trans g6.2.2.2.2.2.2.2.2.2.1 hS.1)⟩⟩
  have hwr : 2 * (F0 m pc lsC (st.map (cV E))).monitorRoom + ((rest.map (cV E)).map fun v => v.category).sum ≤ 8 := lv_room (by rw [csum_eq]; exact hcs2)
  have hin := g5 _ (b4 hstt).1
  have hsel : (Cond.selects (RC (cn + 1)) y y).before args s = true := by
    rcases (b4 hstt).2 with h | h
    · exact absurd h hnin
    · rw [hc3] at hcls
      rw [← hcls]
      exact g5 _ h
  exact fin_call hs0 hmono hL hS h1 (okl_tl hdok) h3 (hk _ _ _ _ hr2)
    (va_runV (C := RC (cn + 1)) (b := cA E k i) (As := (st.take (nAx a 2)).reverse.map (cV E)) (rest := rest.map (cV E)) ⟨g1, g2, g3, g4, g5⟩ hMet ⟨callB_of n g5 b2 rfl rfl rfl (g5 _ b5) (g5 _ hlk) ⟨b6.1, b6.2, b7⟩ hroom, hin, hsel⟩ hpre rfl (by rw [← hn]; exact len_rev hlen) hL.1.1 (drop_cons_eq hdr) hwr hd ⟨by omega, by omega⟩)
theorem sim_callI {idx : Nat} {a : List Nat} (hC : Ctx E X p R s m args meth c cc nL oC ini) (hs0 : s.heap.size = E.1.1 + nT s0) (hR : d + 9 ≤ R.frames ∧ 64 * d + 576 ≤ R.locals) (hcal : Snd E X l d cal) (hd : decode cc pc = .ok (.invokespecial idx, 3)) (hok : okCall oC idx a 1)
    (hK : pCall cal K pc ls st σ (nAx a 1) (nAx a 2) (nAx a 3) = some r) (hk : ∀ pc ls st σ', K pc ls st σ' = some r → Wf E nL s0 p l e R s m args below meth c Q pc ls st σ') (hfin : ∀ pc ls st σ', K pc ls st σ' = some r → nT σ' ≤ nT s0 + R.cells ∧ nU σ' ≤ nU s0 + R.slots) : Wf E nL s0 p l e R s m args below meth c Q pc ls st σ := by
  obtain ⟨q, hq0, hn, hlk, hcn, hstt, hnin, hret⟩ := hok
  unfold pCall at hK
  cases hcs : Nat.ble (nCsum (st.drop (nAx a 2))) 8
  · rw [hcs] at hK; cases hK
  rw [hcs] at hK
  dsimp only [cond_true] at hK
  revert hK
  rcases hc3 : nAx a 3 with _ | cn
  · exact absurd hc3 hcn
  intro hK
  try dsimp only at hK
  rcases hdr : st.drop (nAx a 2) with _ | ⟨x | x | ⟨k, i⟩, rest⟩
  · rw [hdr] at hK; cases hK
  · rw [hdr] at hK; cases hK
  · rw [hdr] at hK; cases hK
  rw [hdr] at hK
  dsimp only at hK
  cases hkc : (nKc k == cn + 1)
  · rw [hkc] at hK; cases hK
  rw [hkc] at hK
  obtain ⟨rr, hr1, hr2⟩ := bnd_some hK
  obtain ⟨g1, g2, g3, g4, g5, g6, g7⟩ := hC
  intro h1 h2 h3 H locs lsC hW hL hS
  have hdok := okl_drop (n := nAx a 2) h2
  rw [hdr] at hdok
  obtain ⟨hmono, q2, hq2, hMet⟩ := hcal _ _ _ _ hr1 (okl_cons (okl_hd hdok) (okl_take h2)) hW.2.2
  cases hq0.symm.trans hq2
  have hM := okM_at hq0
  obtain ⟨y, bc, ml, ret, n, stt, xx⟩ := q
  obtain ⟨b1, b2, b3, b4, b5, b6, b7, b8⟩ := hM
  dsimp only at hn hstt hlk hMet hnin hret
  subst hret
  have hf := hfin _ _ _ _ hr2
  have hcs := Nat.ble_eq.mp hcs
  rw [hdr] at hcs
  have hcs2 : nCsum rest ≤ 8 := Nat.le_trans (Nat.le_add_left _ _) hcs
  have hlen : nAx a 2 ≤ st.length := by
    rcases Nat.lt_or_ge st.length (nAx a 2) with q | q
    · rw [List.drop_eq_nil_of_le (Nat.le_of_lt q)] at hdr
      cases hdr
    · exact q
  have hroom : (rmD d (nT rr.2 - nT σ) (nU rr.2 - nU σ)).frames + 1 ≤ R.frames ∧ 8 + (ml + 11) + (rmD d (nT rr.2 - nT σ) (nU rr.2 - nU σ)).locals ≤ R.locals := by
    have := hR.1
    have := hR.2
    refine ⟨?_, ?_⟩
    · exact hR.1
    · exact room_le b8 hR.2
  have hpre : PreS s H (va_Pc ((vR k i :: (st.take (nAx a 2)).reverse).map (cV E)) (fun U => WD E σ U.heap ∧ KF E X U)) (.ref (cA E k i) :: (st.take (nAx a 2)).reverse.map (cV E)) := ⟨blind_W, fun U hU hW2 => ⟨rfl, by rw [hU]; exact hW, g6.moved hW2 (fun a ha => by
      rw [hU]
      exact hS.2.1 a (Nat.lt_of_lt_of_le ha g6.2.2.2.2.2.2.2.2.2.1) (Nat.not_le.mpr ha)) (by rw [hU]; exact Nat.le_trans g6.2.2.2.2.2.2.2.2.2.1 hS.1)⟩⟩
  have hwr : 2 * (F0 m pc lsC (st.map (cV E))).monitorRoom + ((rest.map (cV E)).map fun v => v.category).sum ≤ 8 := lv_room (by rw [csum_eq]; exact hcs2)
  have hin := g5 _ (b4 hstt).1
  rcases hlk with hlk | hlk
  · exact fin_call hs0 hmono hL hS h1 (okl_tl hdok) h3 (hk _ _ _ _ hr2)
      (va_runI (b := cA E k i) (As := (st.take (nAx a 2)).reverse.map (cV E)) (rest := rest.map (cV E)) ⟨g1, g2, g3, g4, g5⟩ hMet ⟨callB_of n g5 b2 rfl rfl rfl (g5 _ b5) (g5 _ hlk) ⟨b6.1, b6.2, b7⟩ hroom, hnin, hin⟩ hpre rfl (by rw [← hn]; exact len_rev hlen) hL.1.1 (drop_cons_eq hdr) hwr hd ⟨by omega, by omega⟩)
  · exact fin_call hs0 hmono hL hS h1 (okl_tl hdok) h3 (hk _ _ _ _ hr2)
      (va_runIN (b := cA E k i) (As := (st.take (nAx a 2)).reverse.map (cV E)) (rest := rest.map (cV E)) ⟨g1, g2, g3, g4, g5⟩ hMet ⟨va_cnB n g5 b2 rfl rfl rfl (g6.2.1 _ hlk) (g5 _ b5) ⟨b6.1, b6.2, b7⟩ hroom, hnin, hin⟩ hpre rfl (by rw [← hn]; exact len_rev hlen) hL.1.1 (drop_cons_eq hdr) hwr hd ⟨by omega, by omega⟩)
end
end
section
def hNm (h : Nat) : MethodName := match h with
  | 1 => Lib.Math.min.name | 2 => Lib.Math.max.name | 3 => Lib.Math.abs.name | 4 => arraycopyName | 5 => Lib.objectInit | 6 => yJ0_length_8abf5 | _ => yJ0_charAt_5068e
section
variable {E : EnvT} {X : Nat × (Nat → Int32)} {nL : Nat} {s0 : Mem} {p : Program} {l : Launch} {e : Env} {R : Room} {s : State} {m : MethodId} {args : Array Value} {below : List Frame} {meth : Method} {c : Code} {Q : State → Prop} {cc : ByteArray} {oC : String} {ini : Bool} {pc : Nat} {ls st : List AV} {σ : Mem} {K : Kon} {r : Res} {d : Nat}
theorem room_h {d L : Nat} (h : 64 * d + 576 ≤ L) : 576 ≤ L := by omega
theorem sim_hostS {idx h : Nat} (hC : Ctx E X p R s m args meth c cc nL oC ini) (hs0 : s.heap.size = E.1.1 + nT s0) (hR : d + 9 ≤ R.frames ∧ 64 * d + 576 ≤ R.locals) (hd : decode cc pc = .ok (.invokestatic idx, 3)) (hl : Cond.methodLink oC idx (hNm h) ∈ gT) (hh : 1 ≤ h ∧ h ≤ 4)
    (hK : pHost K pc ls st σ h = some r) (hk : ∀ pc ls st σ', K pc ls st σ' = some r → Wf E nL s0 p l e R s m args below meth c Q pc ls st σ') (hfin : ∀ pc ls st σ', K pc ls st σ' = some r → nT σ' ≤ nT s0 + R.cells ∧ nU σ' ≤ nU s0 + R.slots) : Wf E nL s0 p l e R s m args below meth c Q pc ls st σ := by
  obtain ⟨g1, g2, g3, g4, g5, g6, g7⟩ := hC
  unfold pHost at hK
  cases hcs : Nat.ble (nCsum st) 9
  · rw [hcs] at hK; cases hK
  rw [hcs] at hK
  rw [cond_true] at hK
  have hcs := Nat.ble_eq.mp hcs
  have hloc := room_h hR.2
  have hfr : 1 ≤ R.frames := by have := hR.1; omega
  have csle : ∀ {v : AV} {rr : List AV} {n : Nat}, nCsum (v :: rr) ≤ n → nCsum rr ≤ n := fun {v rr n} h => Nat.le_trans (Nat.le_add_left _ _) h
  rcases (show h = 1 ∨ h = 2 ∨ h = 3 ∨ h = 4 by omega) with rfl | rfl | rfl | rfl
  · try dsimp only at hK
    rcases st with _ | ⟨y | y | ⟨k, j⟩, _ | ⟨x | x | ⟨k2, j2⟩, rr⟩⟩
    all_goals try (cases hK; done)
    intro h1 h2 h3 H locs lsC hW hL hS
    have hf := hfin _ _ _ _ hK
    have h16 := csle (csle hcs)
    exact va_mmin g1 g2 (by rw [g3, hL.1.1]) g4 (g5 _ hl) (gg 485 (w := .static Lib.Math.min.name) (by decide +kernel) rfl g5) (gg 84 (w := .initialized "java/lang/Math") (by decide +kernel) rfl g5) (gg 486 (w := .code Lib.Math.min.name Lib.Math.min.code 2 (some .int)) (by decide +kernel) rfl g5) hfr (by rw [csum_eq]; omega) (by omega) (by omega) hd (hk _ _ _ _ hK h1 (okl_cons trivial (okl_tl (okl_tl h2))) h3 H locs lsC hW hL hS)
  · try dsimp only at hK
    rcases st with _ | ⟨y | y | ⟨k, j⟩, _ | ⟨x | x | ⟨k2, j2⟩, rr⟩⟩
    all_goals try (cases hK; done)
    intro h1 h2 h3 H locs lsC hW hL hS
    have hf := hfin _ _ _ _ hK
    have h16 := csle (csle hcs)
    exact va_mmax g1 g2 (by rw [g3, hL.1.1]) g4 (g5 _ hl) (gg 488 (w := .static Lib.Math.max.name) (by decide +kernel) rfl g5) (gg 84 (w := .initialized "java/lang/Math") (by decide +kernel) rfl g5) (gg 489 (w := .code Lib.Math.max.name Lib.Math.max.code 2 (some .int)) (by decide +kernel) rfl g5) hfr (by rw [csum_eq]; omega) (by omega) (by omega) hd (hk _ _ _ _ hK h1 (okl_cons trivial (okl_tl (okl_tl h2))) h3 H locs lsC hW hL hS)
  · try dsimp only at hK
    rcases st with _ | ⟨x | y | ⟨k, j⟩, rr⟩
    all_goals try (cases hK; done)
    intro h1 h2 h3 H locs lsC hW hL hS
    have hf := hfin _ _ _ _ hK
    have h16 := csle hcs
    exact va_mabs g1 g2 (by rw [g3, hL.1.1]) g4 (g5 _ hl) (gg 544 (w := .static Lib.Math.abs.name) (by decide +kernel) rfl g5) (gg 84 (w := .initialized "java/lang/Math") (by decide +kernel) rfl g5) (gg 545 (w := .code Lib.Math.abs.name Lib.Math.abs.code 1 (some .int)) (by decide +kernel) rfl g5) hfr (by rw [csum_eq]; omega) (by omega) (by omega) hd (hk _ _ _ _ hK h1 (okl_cons trivial (okl_tl h2)) h3 H locs lsC hW hL hS)
  · try dsimp only at hK
    rcases st with _ | ⟨n | x | ⟨k, j⟩, _ | ⟨dp | y | ⟨k9, j9⟩, _ | ⟨z | z | ⟨k2, i2⟩, _ | ⟨sp | u | ⟨k4, j4⟩, _ | ⟨w | w | ⟨k, i⟩, rr⟩⟩⟩⟩⟩
    all_goals try (cases hK; done)
    dsimp only at hK
    cases ha : (nAk k == 1 && nAk k2 == 1)
    · rw [ha] at hK; cases hK
    rw [ha] at hK
    rw [cond_true] at hK
    rw [Bool.and_eq_true] at ha
    cases hin : decide (¬ sp < 0 ∧ ¬ dp < 0 ∧ ¬ n < 0 ∧ sp.toNatClampNeg + n.toNatClampNeg ≤ nAl k ∧ dp.toNatClampNeg + n.toNatClampNeg ≤ nAl k2)
    · rw [hin] at hK; cases hK
    rw [hin] at hK
    rw [cond_true] at hK
    obtain ⟨q1, q2, q3, q4, q5⟩ := of_decide_eq_true hin
    intro h1 h2 h3 H locs lsC hW hL hS
    have hf := hfin _ _ _ _ hK
    have h16 := csle (csle (csle (csle (csle hcs))))
    have hv2 : okT (nT σ) (k2, i2) := okV.kc (okl_hd (okl_tl (okl_tl h2))) (ak_ne ha.2 (by decide))
    have hv : okT (nT σ) (k, i) := okV.kc (okl_hd (okl_tl (okl_tl (okl_tl (okl_tl h2))))) (ak_ne ha.1 (by decide))
    have he := wL_at E σ hv
    have he2 := wL_at E σ hv2
    rw [cE_int (eq_of_beq ha.1)] at he
    rw [cE_int (eq_of_beq ha.2)] at he2
    refine va_copyi (D := E.2.2.1) (cl := vwCl) (tys := tysF E) (ws := wL E σ) (A := aF E) (ty := .int) g1 g2 (by rw [g3, hL.1.1]) g4 (g5 _ hl) (gg 375 (w := .native arraycopyName) (by decide +kernel) rfl g5) (gg 374 (w := .static arraycopyName) (by decide +kernel) rfl g5) (gg 82 (w := .initialized "java/lang/System") (by decide +kernel) rfl g5) g6.1 hW.1 (wL_D E σ) hS (nOff k i) (nOff k2 i2) 0 0 he he2 rfl rfl rfl q1 q2 q3 q4 q5 (fun _ _ => rfl) hfr (by
      rw [csum_eq]
      have : nativeFrameWords "java/lang/System" "arraycopy" 5 = 7 := by decide +kernel
      omega) hd (fun H1 locs1 hP1 _ hS1 => ?_)
    refine fin_put (s' := (nCpy σ.1 k i sp.toNatClampNeg k2 i2 dp.toNatClampNeg n.toNatClampNeg, σ.2)) hs0 hW hv2 rfl rfl hW.2.2 (fun k4 i4 _ hn => cE_ext E (fun d9 => if_neg (fun q => hn (by rw [q.1, q.2.1]))) (fun _ => rfl) (fun _ _ => rfl)) ?_ hS1 hL h1 (okl_tl (okl_tl (okl_tl (okl_tl (okl_tl h2))))) h3 (hk _ _ _ _ hK)
    rw [cE_int (eq_of_beq ha.2)]
    have hfun : nCpy σ.1 k i sp.toNatClampNeg k2 i2 dp.toNatClampNeg n.toNatClampNeg k2 i2 = va_cpy (σ.1 k i) (σ.1 k2 i2) sp.toNatClampNeg dp.toNatClampNeg n.toNatClampNeg := by
      funext d9
      unfold nCpy va_cpy
      by_cases hq : dp.toNatClampNeg ≤ d9 ∧ d9 < dp.toNatClampNeg + n.toNatClampNeg
      · rw [if_pos ⟨rfl, rfl, hq.1, hq.2⟩, if_pos hq]
      · rw [if_neg (fun z => hq z.2.2), if_neg hq]
    dsimp only
    rw [hfun]
    exact hP1
theorem sim_hostI {idx h : Nat} (hC : Ctx E X p R s m args meth c cc nL oC ini) (hR : d + 9 ≤ R.frames ∧ 64 * d + 576 ≤ R.locals) (hd : decode cc pc = .ok (.invokespecial idx, 3)) (hl : Cond.methodLink oC idx (hNm h) ∈ gT) (hh : h = 5)
    (hK : pHost K pc ls st σ h = some r) (hk : ∀ pc ls st σ', K pc ls st σ' = some r → Wf E nL s0 p l e R s m args below meth c Q pc ls st σ') : Wf E nL s0 p l e R s m args below meth c Q pc ls st σ := by
  obtain ⟨g1, g2, g3, g4, g5, g6, g7⟩ := hC
  subst hh
  unfold pHost at hK
  cases hcs : Nat.ble (nCsum st) 9
  · rw [hcs] at hK; cases hK
  rw [hcs] at hK
  rw [cond_true] at hK
  have hcs := Nat.ble_eq.mp hcs
  have hloc := room_h hR.2
  have hfr : 1 ≤ R.frames := by have := hR.1; omega
  try dsimp only at hK
  rcases st with _ | ⟨x | y | ⟨k, j⟩, rr⟩
  all_goals try (cases hK; done)
  dsimp only at hK
  by_cases hk0 : k = 0
  · rw [if_pos hk0] at hK; cases hK
  rw [if_neg hk0] at hK
  intro h1 h2 h3 H locs lsC hW hL hS
  have h16 : nCsum rr ≤ 9 := Nat.le_trans (Nat.le_add_left _ _) hcs
  exact W.objInit (a := cA E k j) (rest := rr.map (cV E)) g1 g2 g4 (g5 _ hl) (gg 92 (w := .instanceMethod Lib.objectInit) (by decide +kernel) rfl g5) (gg 93 (w := .code Lib.objectInit ⟨#[0xb1]⟩ 1 none) (by decide +kernel) rfl g5) rfl (by rw [g3]; exact hL.1.1) rfl hd hfr (by
    show 2 * 0 + _ + 12 ≤ R.locals
    rw [csum_eq]
    omega) (hk _ _ _ _ hK h1 (okl_tl h2) h3 H locs lsC hW hL hS)
theorem keep_same {H : Heap} {locs L : List Loc} (hS : va_S (aF E) s.heap H locs) (hL : ∀ q ∈ L, aF E q.base) : va_S (aF E) s.heap H (locs ++ L) := ⟨hS.1, hS.2.1, fun q h => by
  rcases List.mem_append.mp h with h | h
  · exact hS.2.2 q h
  · exact hL q h⟩
theorem sim_hostV {idx h : Nat} (hC : Ctx E X p R s m args meth c cc nL oC ini) (hR : d + 9 ≤ R.frames ∧ 64 * d + 576 ≤ R.locals) (hd : decode cc pc = .ok (.invokevirtual idx, 3)) (hl : Cond.methodLink oC idx (hNm h) ∈ gT) (hh : h = 6 ∨ h = 7)
    (hK : pHost K pc ls st σ h = some r) (hk : ∀ pc ls st σ', K pc ls st σ' = some r → Wf E nL s0 p l e R s m args below meth c Q pc ls st σ') (hfin : ∀ pc ls st σ', K pc ls st σ' = some r → nT σ' ≤ nT s0 + R.cells ∧ nU σ' ≤ nU s0 + R.slots) : Wf E nL s0 p l e R s m args below meth c Q pc ls st σ := by
  obtain ⟨g1, g2, g3, g4, g5, g6, g7⟩ := hC
  have g60 := g6
  obtain ⟨-, -, -, -, ⟨adV, hvS⟩, -, -, -, -, hz10, -⟩ := g6
  unfold pHost at hK
  cases hcs : Nat.ble (nCsum st) 9
  · rw [hcs] at hK; cases hK
  rw [hcs] at hK
  rw [cond_true] at hK
  have hcs := Nat.ble_eq.mp hcs
  have hloc := room_h hR.2
  have hfr : 9 ≤ R.frames := by have := hR.1; omega
  have fin : ∀ (v : AV) (rr : List AV) (H : Heap) (locs L : List Loc) (lsC : Array Slot) (t st1 : State), (∀ w ∈ ls, okV (nT σ) w) → (∀ w ∈ rr, okV (nT σ) w) → okV (nT σ) v → (nT s0 ≤ nT σ ∧ nU s0 ≤ nU σ) → WD E σ H → LH E nL lsC ls → va_S (aF E) s.heap H locs → K (pc + 3) ls (v :: rr) σ = some r → t.heap = st1.heap → st1.heap = H → (∀ q ∈ L, aF E q.base) →
      W p l e R s m args below meth c t.heap (locs ++ L) (nT σ - nT s0 + 0) (nU σ - nU s0 + 0) Q (F0 m (pc + 3) lsC ((some (cV E v)).toList ++ rr.map (cV E))) := by
    intro v rr H locs L lsC t st1 h1 h2 hv h3 hW hL hS hq e1 e2 hLL
    rw [e1, e2]
    exact hk _ _ _ _ hq h1 (okl_cons hv h2) h3 H (locs ++ L) lsC hW hL (keep_same hS hLL)
  rcases hh with rfl | rfl
  · try dsimp only at hK
    rcases st with _ | ⟨x | y | ⟨_ | _ | k, i⟩, rr⟩
    all_goals try (cases hK; done)
    have hK : cond (Nat.blt i 13) (K (pc + 3) ls (vI (Int32.ofNat (nSlen i)) :: rr) σ) none = some r := hK
    cases hi : Nat.blt i 13
    · rw [hi] at hK; cases hK
    rw [hi] at hK
    rw [cond_true] at hK
    have hi := Nat.blt_eq.mp hi
    intro h1 h2 h3 H locs lsC hW hL hS
    have hf := hfin _ _ _ _ hK
    have h16 : nCsum rr ≤ 8 := by
      have : nCsum (.inr (.inr (0 + 1, i)) :: rr) = 1 + nCsum rr := rfl
      omega
    refine W_run (va_runV (C := RJ0) (b := E.2.1 i) (As := []) (rest := rr.map (cV E)) ⟨g1, g2, g3, g4, g5⟩ (m_length (E := E) (X := X) hi) ⟨callB_of 0 g5 (good_self 246 (by decide +kernel)) rfl rfl rfl (gg 78 (w := .initialized RJ0) (by decide +kernel) rfl g5) (g5 _ hl) (by decide +kernel) ⟨by show 1 + 1 ≤ R.frames; omega, by show 8 + (1 + 11) + 32 ≤ R.locals; omega⟩, gg 244 (w := .instanceMethod yJ0_length_8abf5) (by decide +kernel) rfl g5, gg 245 (w := .selects RJ0 yJ0_length_8abf5 yJ0_length_8abf5) (by decide +kernel) rfl g5⟩
      ⟨blind_B (fun U V _ h => h), vk_recv hvS hi hS, fun U hU hW2 => ⟨rfl, trivial, g60.moved hW2 (fun a ha => by
        rw [hU]
        exact hS.2.1 a (Nat.lt_of_lt_of_le ha hz10) (Nat.not_le.mpr ha)) (by rw [hU]; exact Nat.le_trans hz10 hS.1)⟩⟩ rfl rfl hL.1.1 rfl (lv_room (by rw [csum_eq]; exact h16)) hd ⟨by omega, by omega⟩) ?_
    intro v st1 t L h0 hq hLL
    obtain ⟨hq1, hq2⟩ := hq
    cases hq1
    exact fin (vI (Int32.ofNat (nSlen i))) rr H locs L lsC t st1 h1 (okl_tl h2) trivial h3 hW hL hS hK hq2 h0 hLL
  · try dsimp only at hK
    rcases st with _ | ⟨x | y | ⟨k2, i2⟩, _ | ⟨z | z | ⟨_ | _ | k, i⟩, rr⟩⟩
    all_goals try (cases hK; done)
    have hK : cond (Nat.blt i 13 && nIn x (nSlen i)) (K (pc + 3) ls (vI (nSch i x.toNatClampNeg) :: rr) σ) none = some r := hK
    cases hi : (Nat.blt i 13 && nIn x (nSlen i))
    · rw [hi] at hK; cases hK
    rw [hi] at hK
    rw [cond_true] at hK
    rw [Bool.and_eq_true] at hi
    obtain ⟨hi, hx⟩ := hi
    have hi := Nat.blt_eq.mp hi
    intro h1 h2 h3 H locs lsC hW hL hS
    have hf := hfin _ _ _ _ hK
    have h16 : nCsum rr ≤ 8 := by
      have : nCsum (.inl x :: .inr (.inr (0 + 1, i)) :: rr) = 1 + (1 + nCsum rr) := rfl
      omega
    have hlt := in_lt hx
    have hs := str_lt i hi
    have hxx : x = nI x.toNatClampNeg := by
      have h0 : ¬ x < 0 := fun q => in_iff hx (Or.inl q)
      obtain ⟨j, hj, rfl⟩ := nI_of h0
      rw [nI_clamp hj]
    have hcx : cV E (.inl x) = .int (nI x.toNatClampNeg) := congrArg Value.int hxx
    refine W_run (va_runV (C := RJ0) (b := E.2.1 i) (As := [.int (nI x.toNatClampNeg)]) (rest := rr.map (cV E)) ⟨g1, g2, g3, g4, g5⟩ (m_charAt (E := E) (X := X) hi hlt) ⟨callB_of 1 g5 (good_self 256 (by decide +kernel)) rfl rfl rfl (gg 78 (w := .initialized RJ0) (by decide +kernel) rfl g5) (g5 _ hl) (by decide +kernel) ⟨by show 3 + 1 ≤ R.frames; omega, by show 8 + (2 + 11) + 96 ≤ R.locals; omega⟩, gg 254 (w := .instanceMethod yJ0_charAt_5068e) (by decide +kernel) rfl g5, gg 255 (w := .selects RJ0 yJ0_charAt_5068e yJ0_charAt_5068e) (by decide +kernel) rfl g5⟩
      ⟨blind_B (fun U V _ h => h), vk_recv hvS hi hS, fun U hU hW2 => ⟨rfl, trivial, g60.moved hW2 (fun a ha => by
        rw [hU]
        exact hS.2.1 a (Nat.lt_of_lt_of_le ha hz10) (Nat.not_le.mpr ha)) (by rw [hU]; exact Nat.le_trans hz10 hS.1)⟩⟩ rfl rfl hL.1.1 (by rw [List.map_cons, hcx]; rfl) (lv_room (by rw [csum_eq]; exact h16)) hd ⟨by omega, by omega⟩) ?_
    intro v st1 t L h0 hq hLL
    obtain ⟨hq1, hq2⟩ := hq
    cases hq1
    exact fin (vI (nSch i x.toNatClampNeg)) rr H locs L lsC t st1 h1 (okl_tl (okl_tl h2)) trivial h3 hW hL hS hK hq2 h0 hLL
end
end
section
/-! cells and slots never grow fewer -/
def leM (s t : Mem) : Prop := nT s ≤ nT t ∧ nU s ≤ nU t
theorem leM_refl (s : Mem) {t : Mem} (h : t.2.2.2.2.2 = s.2.2.2.2.2 := by rfl) : leM s t := ⟨Nat.le_of_eq (congrArg Prod.fst h).symm, Nat.le_of_eq (congrArg Prod.snd h).symm⟩
theorem leM_rset (s : Mem) (k i j : Nat) : leM s (s.1, s.2.1, nRset s.2.2 k i j) := leM_refl s (rset_t s.2.2 k i j)
theorem leM_mk (s : Mem) (n : Nat) : leM s (nMk s n) := ⟨Nat.le_succ _, Nat.le_add_right _ _⟩
theorem leM.trans {s t u : Mem} (h : leM s t) (h2 : leM t u) : leM s u := ⟨Nat.le_trans h.1 h2.1, Nat.le_trans h.2 h2.2⟩
def MG (s : Mem) (r : Res) (F : Kon → Option Res) : Prop := ∀ K : Kon, (∀ pc ls st s', K pc ls st s' = some r → leM s' r.2) → F K = some r → leM s r.2
section
variable {s : Mem} {r : Res}
theorem MG.c0 : MG s r (fun _ => none) := fun _ _ h => by cases h
theorem MG.k (pc : Nat) (ls st : List AV) (s' : Mem) (h : leM s s') : MG s r (fun K => K pc ls st s') := fun _ hk q => h.trans (hk _ _ _ _ q)
theorem MG.cond {F G : Kon → Option Res} (b : Bool) (hF : MG s r F) (hG : MG s r G) : MG s r (fun K => cond b (F K) (G K)) := by
  cases b
  · exact hG
  · exact hF
theorem MG.ite {F G : Kon → Option Res} (c : Prop) [h : Decidable c] (hF : MG s r F) (hG : MG s r G) : MG s r (fun K => if c then F K else G K) := by
  by_cases q : c
  · simp only [if_pos q]; exact hF
  · simp only [if_neg q]; exact hG
theorem MG.sw (ls st : List AV) (d : Nat) (x : Int32) (l : List (Int32 × Nat)) : MG s r (fun K => nSw (fun t => K t ls st s) d x l) := by
  induction l with
  | nil => exact MG.k d ls st s (leM_refl s)
  | cons a l ih =>
    obtain ⟨v, t⟩ := a
    exact MG.ite (x = v) (MG.k t ls st s (leM_refl s)) ih
theorem MG.bnd {o : Option Res} (ho : ∀ v, o = some v → leM s v.2) (f : Option AV → Mem → Nat × List AV × List AV × Mem) (hf : ∀ v s2, (f v s2).2.2.2 = s2) : MG s r (fun K => nBnd o (fun v s => K (f v s).1 (f v s).2.1 (f v s).2.2.1 (f v s).2.2.2)) := by
  rcases o with _ | ⟨v, s2⟩
  · exact MG.c0
  · exact MG.k _ _ _ _ (by rw [hf]; exact ho _ rfl)
theorem MG_ret (rt want : Nat) (st : List AV) : MG s r (fun _ => pRet rt want st s) := by
  intro K hk hK
  have key : ∀ v : Option AV, some (v, s) = some r → leM s r.2 := fun v h => by
    cases h
    exact leM_refl s
  unfold pRet at hK
  dsimp only at hK
  rcases st with _ | ⟨x | x | ⟨k, i⟩, _ | ⟨y, rr⟩⟩
  all_goals dsimp only at hK
  all_goals try (cases hK; done)
  · cases hb : (rt == 0 && want == 0) <;> rw [hb] at hK
    · cases hK
    · exact key _ hK
  · cases hb : (want == 1) <;> rw [hb] at hK
    · cases hK
    · rw [cond_true] at hK
      split at hK
      · exact key _ hK
      · cases hb2 : nIsb x <;> rw [hb2] at hK
        · cases hK
        · exact key _ hK
      · cases hK
  · cases hb : (rt == 3 && want == 2) <;> rw [hb] at hK
    · cases hK
    · exact key _ hK
  · cases hb : (rt == 4 && (want == 3 && Nat.blt 0 k)) <;> rw [hb] at hK
    · cases hK
    · exact key _ hK
end
section
variable {r : Res}
theorem MG_load (pc len : Nat) (ls st : List AV) (s : Mem) (w i : Nat) : MG s r (fun K => pLoad K pc len ls st s w i) := by
  unfold pLoad
  rcases nGt ls i with x | x | ⟨k, j⟩
  · exact MG.ite _ (MG.k _ _ _ _ (leM_refl _)) (MG.c0)
  · exact MG.ite _ (MG.k _ _ _ _ (leM_refl _)) (MG.c0)
  · exact MG.ite _ (MG.k _ _ _ _ (leM_refl _)) (MG.c0)
theorem MG_store (pc len : Nat) (ls st : List AV) (s : Mem) (w i : Nat) : MG s r (fun K => pStore K pc len ls st s w i) := by
  rcases st with _ | ⟨x | x | ⟨k, j⟩, rs⟩
  · exact MG.c0
  · exact MG.ite _ (MG.cond _ (MG.cond _ (MG.c0) (MG.k _ _ _ _ (leM_refl _))) (MG.c0)) (MG.c0)
  · exact MG.ite _ (MG.cond _ (MG.cond _ (MG.c0) (MG.k _ _ _ _ (leM_refl _))) (MG.c0)) (MG.c0)
  · exact MG.ite _ (MG.cond _ (MG.cond _ (MG.c0) (MG.k _ _ _ _ (leM_refl _))) (MG.c0)) (MG.c0)
theorem MG_i1 (pc : Nat) (ls st : List AV) (s : Mem) (f : Int32 → AV) : MG s r (fun K => pI1 K pc ls st s f) := by
  rcases st with _ | ⟨x | x | ⟨k, j⟩, rs⟩
  · exact MG.c0
  · exact MG.k _ _ _ _ (leM_refl _)
  · exact MG.c0
  · exact MG.c0
theorem MG_i2 (pc : Nat) (ls st : List AV) (s : Mem) (f : Int32 → Int32 → Int32) : MG s r (fun K => pI2 K pc ls st s f) := by
  rcases st with _ | ⟨x | x | ⟨k, j⟩, _ | ⟨y | y | ⟨k2, j2⟩, rs⟩⟩ <;> first | exact MG.c0 | exact MG.k _ _ _ _ (leM_refl _)
theorem MG_d2 (pc : Nat) (ls st : List AV) (s : Mem) (f : Int32 → Int32 → Int32) : MG s r (fun K => pD2 K pc ls st s f) := by
  rcases st with _ | ⟨x | x | ⟨k, j⟩, _ | ⟨y | y | ⟨k2, j2⟩, rs⟩⟩ <;> first | exact MG.c0 | exact MG.ite _ (MG.c0) (MG.k _ _ _ _ (leM_refl _))
theorem MG_l2 (pc : Nat) (ls st : List AV) (s : Mem) (f : Int64 → Int64 → AV) : MG s r (fun K => pL2 K pc ls st s f) := by
  rcases st with _ | ⟨x | x | ⟨k, j⟩, _ | ⟨y | y | ⟨k2, j2⟩, rs⟩⟩ <;> first | exact MG.c0 | exact MG.k _ _ _ _ (leM_refl _)
theorem MG_ld (pc : Nat) (ls st : List AV) (s : Mem) (f : Int64 → Int64 → Int64) : MG s r (fun K => pLD K pc ls st s f) := by
  rcases st with _ | ⟨x | x | ⟨k, j⟩, _ | ⟨y | y | ⟨k2, j2⟩, rs⟩⟩ <;> first | exact MG.c0 | exact MG.ite _ (MG.c0) (MG.k _ _ _ _ (leM_refl _))
theorem MG_if (pc t : Nat) (ls st : List AV) (s : Mem) (c : ClassFile.Cond) : MG s r (fun K => pIf K pc t ls st s c) := by
  rcases st with _ | ⟨x | x | ⟨k, j⟩, rs⟩
  · exact MG.c0
  · cases c <;> exact MG.ite _ (MG.k _ _ _ _ (leM_refl _)) (MG.k _ _ _ _ (leM_refl _))
  · exact MG.c0
  · exact MG.c0
theorem MG_cmp (pc t : Nat) (ls st : List AV) (s : Mem) (c : ClassFile.Cond) : MG s r (fun K => pCmp K pc t ls st s c) := by
  rcases st with _ | ⟨x | x | ⟨k, j⟩, _ | ⟨y | y | ⟨k2, j2⟩, rs⟩⟩
  all_goals first | exact MG.c0 | (cases c <;> exact MG.ite _ (MG.k _ _ _ _ (leM_refl _)) (MG.k _ _ _ _ (leM_refl _)))
theorem MG_get (pc : Nat) (ls st : List AV) (s : Mem) (c j : Nat) : MG s r (fun K => pGet K pc ls st s c j) := by
  rcases st with _ | ⟨x | x | ⟨k, i⟩, rs⟩
  · exact MG.c0
  · exact MG.c0
  · exact MG.c0
  · refine MG.cond _ ?_ (MG.c0)
    rcases nFt c j with _ | _ | _ | _ | _
    · exact MG.k _ _ _ _ (leM_refl _)
    · exact MG.k _ _ _ _ (leM_refl _)
    · exact MG.k _ _ _ _ (leM_refl _)
    · exact MG.cond _ (MG.k _ _ _ _ (leM_refl _)) (MG.c0)
    · exact MG.k _ _ _ _ (leM_refl _)
theorem MG_put (own : Nat) (ini : Bool) (pc : Nat) (ls st : List AV) (s : Mem) (c j : Nat) : MG s r (fun K => pPut own ini K pc ls st s c j) := by
  rcases st with _ | ⟨x | x | ⟨k, i⟩, _ | ⟨y | y | ⟨k2, j2⟩, rs⟩⟩
  all_goals first
    | exact MG.c0
    | (refine MG.cond _ ?_ (MG.c0)
       rcases nFt c j with _ | _ | _ | _ | _ <;> first | exact MG.c0 | exact MG.k _ _ _ _ (leM_refl _) | exact MG.cond _ (MG.k _ _ _ _ (leM_refl _)) (MG.c0) | exact MG.cond _ (MG.k _ _ _ _ (leM_rset _ _ _ _)) (MG.c0))
theorem MG_iald (X : Nat × (Nat → Int32)) (pc : Nat) (ls st : List AV) (s : Mem) : MG s r (fun K => pIald X K pc ls st s) := by
  rcases st with _ | ⟨x | x | ⟨k, j⟩, _ | ⟨y | y | ⟨k2, j2⟩, rs⟩⟩
  all_goals first | exact MG.c0 | exact MG.ite _ (MG.cond _ (MG.k _ _ _ _ (leM_refl _)) (MG.c0)) (MG.cond _ (MG.cond _ (MG.k _ _ _ _ (leM_refl _)) (MG.c0)) (MG.c0))
theorem MG_zald (pc : Nat) (ls st : List AV) (s : Mem) : MG s r (fun K => pZald K pc ls st s) := by
  rcases st with _ | ⟨x | x | ⟨k, j⟩, _ | ⟨y | y | ⟨k2, j2⟩, rs⟩⟩
  all_goals first | exact MG.c0 | exact MG.cond _ (MG.cond _ (MG.k _ _ _ _ (leM_refl _)) (MG.c0)) (MG.c0)
theorem MG_aald (pc : Nat) (ls st : List AV) (s : Mem) : MG s r (fun K => pAald K pc ls st s) := by
  rcases st with _ | ⟨x | x | ⟨k, j⟩, _ | ⟨y | y | ⟨k2, j2⟩, rs⟩⟩
  all_goals first | exact MG.c0 | exact MG.cond _ (MG.cond _ (MG.cond _ (MG.k _ _ _ _ (leM_refl _)) (MG.c0)) (MG.c0)) (MG.c0)
theorem MG_iast (pc : Nat) (ls st : List AV) (s : Mem) : MG s r (fun K => pIast K pc ls st s) := by
  rcases st with _ | ⟨x | x | ⟨k, j⟩, _ | ⟨y | y | ⟨k2, j2⟩, _ | ⟨z | z | ⟨k3, j3⟩, rs⟩⟩⟩
  all_goals first | exact MG.c0 | exact MG.cond _ (MG.cond _ (MG.k _ _ _ _ (leM_refl _)) (MG.c0)) (MG.c0)
theorem MG_zast (pc : Nat) (ls st : List AV) (s : Mem) : MG s r (fun K => pZast K pc ls st s) := by
  rcases st with _ | ⟨x | x | ⟨k, j⟩, _ | ⟨y | y | ⟨k2, j2⟩, _ | ⟨z | z | ⟨k3, j3⟩, rs⟩⟩⟩
  all_goals first | exact MG.c0 | exact MG.cond _ (MG.cond _ (MG.k _ _ _ _ (leM_refl _)) (MG.c0)) (MG.c0)
theorem MG_aast (pc : Nat) (ls st : List AV) (s : Mem) : MG s r (fun K => pAast K pc ls st s) := by
  rcases st with _ | ⟨x | x | ⟨k, j⟩, _ | ⟨y | y | ⟨k2, j2⟩, _ | ⟨z | z | ⟨k3, j3⟩, rs⟩⟩⟩
  all_goals first | exact MG.c0 | exact MG.cond _ (MG.cond _ (MG.cond _ (MG.k _ _ _ _ (leM_rset _ _ _ _)) (MG.c0)) (MG.c0)) (MG.c0)
theorem MG_len (X : Nat × (Nat → Int32)) (pc : Nat) (ls st : List AV) (s : Mem) : MG s r (fun K => pLen X K pc ls st s) := by
  rcases st with _ | ⟨x | x | ⟨k, j⟩, rs⟩
  all_goals first | exact MG.c0 | exact MG.ite _ (MG.k _ _ _ _ (leM_refl _)) (MG.cond _ (MG.c0) (MG.k _ _ _ _ (leM_refl _)))
theorem MG_new (pc : Nat) (ls st : List AV) (s : Mem) (c : Nat) : MG s r (fun K => pNew K pc ls st s c) := MG.cond _ (MG.k _ _ _ _ (leM_mk _ _)) (MG.c0)
theorem MG_newa (pc len : Nat) (ls st : List AV) (s : Mem) (w : Nat) : MG s r (fun K => pNewa K pc len ls st s w) := by
  rcases st with _ | ⟨x | x | ⟨k, j⟩, rs⟩
  all_goals first | exact MG.c0 | exact MG.cond _ (MG.k _ _ _ _ (leM_mk _ _)) (MG.c0)
theorem MG_call (cal : Cal) (hcal : ∀ y a s v, cal y a s = some v → leM s v.2) (pc : Nat) (ls st : List AV) (s : Mem) (y n c : Nat) : MG s r (fun K => pCall cal K pc ls st s y n c) := by
  refine MG.cond _ ?_ (MG.c0)
  rcases c with _ | c
  · exact MG.cond _ (MG.bnd (fun v hv => hcal _ _ _ _ hv) (fun v s2 => (pc + 3, ls, v.toList ++ st.drop n, s2)) (fun _ _ => rfl)) (MG.c0)
  · rcases st.drop n with _ | ⟨x | x | ⟨k, j⟩, rs⟩
    · exact MG.c0
    · exact MG.c0
    · exact MG.c0
    · exact MG.cond _ (MG.bnd (fun v hv => hcal _ _ _ _ hv) (fun v s2 => (pc + 3, ls, v.toList ++ rs, s2)) (fun _ _ => rfl)) (MG.c0)
theorem MG_host (pc : Nat) (ls st : List AV) (s : Mem) (h : Nat) : MG s r (fun K => pHost K pc ls st s h) := by
  refine MG.cond _ ?_ (MG.c0)
  rcases h with _ | _ | _ | _ | _ | _ | _ | _ | h
  · exact MG.c0
  · rcases st with _ | ⟨x | x | ⟨k, j⟩, _ | ⟨y | y | ⟨k2, j2⟩, rs⟩⟩ <;> first | exact MG.c0 | exact MG.k _ _ _ _ (leM_refl _)
  · rcases st with _ | ⟨x | x | ⟨k, j⟩, _ | ⟨y | y | ⟨k2, j2⟩, rs⟩⟩ <;> first | exact MG.c0 | exact MG.k _ _ _ _ (leM_refl _)
  · rcases st with _ | ⟨x | x | ⟨k, j⟩, rs⟩ <;> first | exact MG.c0 | exact MG.k _ _ _ _ (leM_refl _)
  · rcases st with _ | ⟨x | x | ⟨k, j⟩, _ | ⟨y | y | ⟨k2, j2⟩, _ | ⟨z | z | ⟨k3, j3⟩, _ | ⟨u | u | ⟨k4, j4⟩, _ | ⟨w | w | ⟨k5, j5⟩, rs⟩⟩⟩⟩⟩
    all_goals first | exact MG.c0 | exact MG.cond _ (MG.cond _ (MG.k _ _ _ _ (leM_refl _)) (MG.c0)) (MG.c0)
  · rcases st with _ | ⟨x | x | ⟨k, j⟩, rs⟩ <;> first | exact MG.c0 | exact MG.ite _ (MG.c0) (MG.k _ _ _ _ (leM_refl _))
  · rcases st with _ | ⟨x | x | ⟨_ | _ | k, j⟩, rs⟩ <;> first | exact MG.c0 | exact MG.cond _ (MG.k _ _ _ _ (leM_refl _)) (MG.c0)
  · rcases st with _ | ⟨x | x | ⟨k, j⟩, _ | ⟨y | y | ⟨_ | _ | k2, j2⟩, rs⟩⟩ <;> first | exact MG.c0 | exact MG.cond _ (MG.k _ _ _ _ (leM_refl _)) (MG.c0)
  · exact MG.c0
theorem MG_stepI (X : Nat × (Nat → Int32)) (cal : Cal) (hcal : ∀ y a s v, cal y a s = some v → leM s v.2) (own : Nat) (ini : Bool) (rt : Nat) (e : En) (pc : Nat) (ls st : List AV) (s : Mem) : MG s r (fun K => nStepI X cal own ini rt e pc ls st s K) := by
  obtain ⟨ins, a, c, cL, sw⟩ := e
  cases ins
  case ldc => rcases h : nAx a 0 with _ | _ | n <;> simp only [nStepI, h] <;> exact MG.k _ _ _ _ (leM_refl _)
  case iinc => rcases h : nGt ls (nAx a 0) with x | x | ⟨k, j⟩ <;> simp only [nStepI, h] <;> first | exact MG.c0 | exact MG.cond _ (MG.cond _ (MG.c0) (MG.k _ _ _ _ (leM_refl _))) (MG.c0)
  case l2i => rcases st with _ | ⟨x | x | ⟨k, j⟩, rs⟩ <;> first | exact MG.c0 | exact MG.k _ _ _ _ (leM_refl _)
  case dup => rcases st with _ | ⟨x, rs⟩ <;> first | exact MG.c0 | exact MG.cond _ (MG.c0) (MG.k _ _ _ _ (leM_refl _))
  case dup2 => rcases st with _ | ⟨x, _ | ⟨y, rs⟩⟩ <;> first | exact MG.c0 | exact MG.cond _ (MG.c0) (MG.k _ _ _ _ (leM_refl _))
  case anewarray => exact MG.cond _ (MG_newa _ _ _ _ _ _) (MG.c0)
  case pop => rcases st with _ | ⟨x, rs⟩ <;> first | exact MG.c0 | exact MG.cond _ (MG.c0) (MG.k _ _ _ _ (leM_refl _))
  case tableswitch => rcases st with _ | ⟨x | x | ⟨k, j⟩, rs⟩ <;> first | exact MG.c0 | exact MG.sw _ _ _ _ _
  case lookupswitch => rcases st with _ | ⟨x | x | ⟨k, j⟩, rs⟩ <;> first | exact MG.c0 | exact MG.sw _ _ _ _ _
  case invokevirtual => rcases h : nAx a 0 with _ | n <;> simp only [nStepI, h] <;> first | exact MG_call _ hcal _ _ _ _ _ _ _ | exact MG_host _ _ _ _ _
  case invokespecial => rcases h : nAx a 0 with _ | n <;> simp only [nStepI, h] <;> first | exact MG_call _ hcal _ _ _ _ _ _ _ | exact MG_host _ _ _ _ _
  case invokestatic => rcases h : nAx a 0 with _ | n <;> simp only [nStepI, h] <;> first | exact MG_call _ hcal _ _ _ _ _ _ _ | exact MG_host _ _ _ _ _
  all_goals first
    | exact MG.k _ _ _ _ (leM_refl _)
    | exact MG_load _ _ _ _ _ _ _
    | exact MG_store _ _ _ _ _ _ _
    | exact MG_i1 _ _ _ _ _
    | exact MG_i2 _ _ _ _ _
    | exact MG_d2 _ _ _ _ _
    | exact MG_l2 _ _ _ _ _
    | exact MG_ld _ _ _ _ _
    | exact MG_if _ _ _ _ _ _
    | exact MG_cmp _ _ _ _ _ _
    | exact MG_get _ _ _ _ _ _
    | exact MG_put _ _ _ _ _ _ _ _
    | exact MG_iald _ _ _ _ _
    | exact MG_iast _ _ _ _
    | exact MG_zald _ _ _ _
    | exact MG_zast _ _ _ _
    | exact MG_aald _ _ _ _
    | exact MG_aast _ _ _ _
    | exact MG_len _ _ _ _ _
    | exact MG_new _ _ _ _ _
    | exact MG_newa _ _ _ _ _ _
    | exact MG_ret _ _ _
    | exact MG.c0
theorem MG_run {X : Nat × (Nat → Int32)} {cal : Cal} (hcal : ∀ y a s v, cal y a s = some v → leM s v.2) (h : Hd) : ∀ (n pc : Nat) (ls st : List AV) (s : Mem) (r : Res), nRun X cal h n pc ls st s = some r → leM s r.2 := by
  intro n
  induction n with
  | zero => intro pc ls st s r q; cases q
  | succ n ih =>
    intro pc ls st s r q
    rw [nRun_succ] at q
    unfold nStep at q
    rcases hl : nLk h.1 pc with _ | e
    · rw [hl] at q; cases q
    · rw [hl] at q
      exact MG_stepI X cal hcal _ _ _ _ _ _ _ _ _ (fun pc ls st s' => ih pc ls st s' r) q
theorem MG_R {X : Nat × (Nat → Int32)} {cal : Cal} (hcal : ∀ y a s v, cal y a s = some v → leM s v.2) (h : Hd) {pc : Nat} {ls st : List AV} {s : Mem} {r : Res} (q : nR X cal h pc ls st s = some r) : leM s r.2 := by
  obtain ⟨n, hn⟩ := (nR_iff X cal h).mp q
  exact MG_run hcal h n _ _ _ _ _ hn
end
end
section
/-! what is checked of the code's entries, and that one entry runs as the small machine's step -/
theorem clIns {c : Nat} (h : 1 ≤ c ∧ c ≤ 7) (h3 : c ≠ 0) : Cond.instantiable (RC c) (nNf c) ∈ gT := cases7 (P := fun c => Cond.instantiable (RC c) (nNf c) ∈ gT) (gT_in 176 (by decide +kernel) rfl) (gT_in 135 (by decide +kernel) rfl) (gT_in 224 (by decide +kernel) rfl) (gT_in 212 (by decide +kernel) rfl) (gT_in 95 (by decide +kernel) rfl) (gT_in 87 (by decide +kernel) rfl) (gT_in 770 (by decide +kernel) rfl) h
theorem clIni {c : Nat} (h : 1 ≤ c ∧ c ≤ 7) : Cond.initialized (RC c) ∈ gT := cases7 (P := fun c => Cond.initialized (RC c) ∈ gT) (gT_in 75 (by decide +kernel) rfl) (gT_in 74 (by decide +kernel) rfl) (gT_in 77 (by decide +kernel) rfl) (gT_in 76 (by decide +kernel) rfl) (gT_in 73 (by decide +kernel) rfl) (gT_in 72 (by decide +kernel) rfl) (gT_in 83 (by decide +kernel) rfl) h
theorem arI : Cond.arrayClass .int ∈ gT := gT_in 133 (by decide +kernel) rfl
theorem arZ : Cond.arrayClass .boolean ∈ gT := gT_in 926 (by decide +kernel) rfl
def lkB (i : Nat) (w : Cond) : Bool := decide (lw_tbl[i]? = some w) && goodWord w
theorem lkB_in {i : Nat} {w : Cond} (h : lkB i w = true) : w ∈ gT := by
  unfold lkB at h
  rw [Bool.and_eq_true, decide_eq_true_eq] at h
  exact gT_in i h.1 h.2
def isSw : Instr → Bool
  | .tableswitch _ _ _ _ => true
  | .lookupswitch _ _ => true
  | _ => false
def nLen : Instr → Nat
  | .bipush _ => 2 | .ldc _ => 2 | .iload _ => 2 | .lload _ => 2 | .aload _ => 2 | .istore _ => 2 | .lstore _ => 2 | .astore _ => 2 | .newarray _ => 2
  | .sipush _ => 3 | .ldc_w _ => 3 | .ldc2_w _ => 3 | .iinc _ _ => 3 | .goto _ => 3 | .ifCond _ _ => 3 | .if_icmp _ _ => 3 | .getfield _ => 3 | .putfield _ => 3 | .new _ => 3 | .anewarray _ => 3 | .invokevirtual _ => 3 | .invokespecial _ => 3 | .invokestatic _ => 3
  | _ => 1
/-- the code has this entry at this place -/
def okD (cc : ByteArray) (pe : Nat × En) : Bool := match decode cc pe.1 with
  | .ok (i, n) => decide (i = pe.2.1) && (isSw i || n == nLen i)
  | _ => false
theorem okD_at {cc : ByteArray} {pc : Nat} {e : En} (h : okD cc (pc, e) = true) : ∃ n, decode cc pc = .ok (e.1, n) ∧ (isSw e.1 = false → n = nLen e.1) := by
  unfold okD at h
  dsimp only at h
  rcases hd : decode cc pc with x | ⟨i, n⟩
  · rw [hd] at h; cases h
  · rw [hd] at h
    dsimp only at h
    rw [Bool.and_eq_true, decide_eq_true_eq, Bool.or_eq_true] at h
    obtain ⟨rfl, h2⟩ := h
    refine ⟨n, rfl, fun h3 => ?_⟩
    rcases h2 with h2 | h2
    · rw [h3] at h2; cases h2
    · exact eq_of_beq h2
def okCallB (oC : String) (i : Nat) (a : List Nat) (kind : Nat) : Bool := match mdL[nAx a 1]? with
  | none => false
  | some q => decide (nAx a 2 = q.2.2.2.2.1) && (lkB (nAx a 4) (.methodLink oC i q.1) || decide (Cond.methodLinkNest oC i q.1 RX6 ∈ nestL)) && (match kind with
    | 0 => decide (nAx a 3 ≠ 0) && (!q.2.2.2.2.2.1 && (decide (q.1.name ≠ "<init>") && (decide (q.1.cls = RC (nAx a 3)) && lkB (nAx a 4) (.methodLink oC i q.1))))
    | 1 => decide (nAx a 3 ≠ 0) && (!q.2.2.2.2.2.1 && (decide (q.1.name = "<init>") && q.2.2.2.1.isNone))
    | _ => q.2.2.2.2.2.1)
theorem okCall_of {oC : String} {i : Nat} {a : List Nat} {kind : Nat} (h : okCallB oC i a kind = true) : okCall oC i a kind := by
  unfold okCallB at h
  rcases hq : mdL[nAx a 1]? with _ | q
  · rw [hq] at h; cases h
  · rw [hq] at h
    dsimp only at h
    rw [Bool.and_eq_true, Bool.and_eq_true, decide_eq_true_eq, Bool.or_eq_true, decide_eq_true_eq] at h
    obtain ⟨⟨h1, h2⟩, h3⟩ := h
    refine ⟨q, hq, h1, ?_, ?_⟩
    · rcases h2 with h2 | h2
      · exact Or.inl (lkB_in h2)
      · exact Or.inr h2
    · rcases kind with _ | _ | k
      · simp only [Bool.and_eq_true, decide_eq_true_eq, Bool.not_eq_true'] at h3
        exact ⟨h3.1, h3.2.1, h3.2.2.1, h3.2.2.2.1, lkB_in h3.2.2.2.2⟩
      · simp only [Bool.and_eq_true, decide_eq_true_eq, Bool.not_eq_true', Option.isNone_iff_eq_none] at h3
        exact ⟨h3.1, h3.2.1, h3.2.2.1, h3.2.2.2⟩
      · exact h3
def tbOk (pc : Nat) : Int → List Int → List (Int32 × Nat) → Bool
  | _, [], [] => true
  | lo, o :: os, (v, t) :: sw => decide (v.toInt = lo) && (decide ((pc : Int) + o = (t : Int)) && tbOk pc (lo + 1) os sw)
  | _, _, _ => false
def lkOk (pc : Nat) : List (Int × Int) → List (Int32 × Nat) → Bool
  | [], [] => true
  | (a, o) :: os, (v, t) :: sw => decide (v.toInt = a) && (decide ((pc : Int) + o = (t : Int)) && lkOk pc os sw)
  | _, _ => false
theorem sw_tb {K : Nat → Option Res} {r : Res} {dflt pc : Nat} {x : Int32} : ∀ (os : List Int) (lo : Int) (sw : List (Int32 × Nat)), tbOk pc lo os sw = true → nSw K dflt x sw = some r →
    (∃ (off : Int) (tgt : Nat), os[(x.toInt - lo).toNat]? = some off ∧ ¬ x.toInt < lo ∧ x.toInt < lo + os.length ∧ (pc : Int) + off = (tgt : Int) ∧ K tgt = some r) ∨ ((x.toInt < lo ∨ lo + os.length ≤ x.toInt) ∧ K dflt = some r)
  | [], lo, [], _, h2 => by
    rw [nSw] at h2
    refine Or.inr ⟨?_, h2⟩
    rw [List.length_nil]
    omega
  | [], lo, _ :: _, h1, _ => by cases h1
  | _ :: _, lo, [], h1, _ => by cases h1
  | o :: os, lo, (v, t) :: sw, h1, h2 => by
    rw [tbOk, Bool.and_eq_true, Bool.and_eq_true, decide_eq_true_eq, decide_eq_true_eq] at h1
    obtain ⟨h1, h3, h4⟩ := h1
    rw [nSw] at h2
    rw [List.length_cons]
    by_cases hx : x = v
    · rw [if_pos hx] at h2
      refine Or.inl ⟨o, t, ?_, by rw [hx]; omega, by rw [hx]; omega, h3, h2⟩
      rw [hx, h1]
      simp
    · rw [if_neg hx] at h2
      have hne : x.toInt ≠ lo := fun q => hx (Int32.toInt_inj.mp (q.trans h1.symm))
      rcases sw_tb os (lo + 1) sw h4 h2 with ⟨off, tgt, a1, a2, a3, a4, a5⟩ | ⟨a1, a2⟩
      · refine Or.inl ⟨off, tgt, ?_, by omega, by omega, a4, a5⟩
        have : (x.toInt - lo).toNat = (x.toInt - (lo + 1)).toNat + 1 := by omega
        rw [this, List.getElem?_cons_succ]
        exact a1
      · exact Or.inr ⟨by omega, a2⟩
theorem sw_lk {K : Nat → Option Res} {r : Res} {dflt pc : Nat} {d : Int} {x : Int32} (hd : (pc : Int) + d = (dflt : Int)) : ∀ (os : List (Int × Int)) (sw : List (Int32 × Nat)), lkOk pc os sw = true → nSw K dflt x sw = some r →
    ∃ (tgt : Nat), (pc : Int) + Op.lookupswitch.offset os d x.toInt = (tgt : Int) ∧ K tgt = some r
  | [], [], _, h2 => ⟨dflt, hd, h2⟩
  | [], _ :: _, h1, _ => by cases h1
  | _ :: _, [], h1, _ => by cases h1
  | (a, o) :: os, (v, t) :: sw, h1, h2 => by
    rw [lkOk, Bool.and_eq_true, Bool.and_eq_true, decide_eq_true_eq, decide_eq_true_eq] at h1
    obtain ⟨h1, h3, h4⟩ := h1
    rw [nSw] at h2
    rw [Op.lookupswitch.offset_cons]
    by_cases hx : x = v
    · rw [if_pos hx] at h2
      rw [if_pos (by rw [hx]; exact h1.symm)]
      exact ⟨t, h3, h2⟩
    · rw [if_neg hx] at h2
      rw [if_neg (fun q => hx (Int32.toInt_inj.mp (q.symm.trans h1.symm)))]
      exact sw_lk hd os sw h4 h2
def okI (oC : String) (pc : Nat) (e : En) : Bool := match e with
  | (ins, a, c, cL, sw) => match ins with
    | .iconst n => decide (Int32.ofInt n = c)
    | .bipush n => decide ((Int8.ofInt n).toInt32 = c)
    | .sipush n => decide ((Int16.ofInt n).toInt32 = c)
    | .ldc i => (match nAx a 0 with
      | 1 => lkB (nAx a 1) (.constant oC i c)
      | _ => (match strO[nAx a 1]? with
        | some q => decide (q.1 = oC ∧ q.2.1 = i)
        | none => false))
    | .ldc_w i => lkB (nAx a 1) (.constant oC i c)
    | .lconst n => decide (Int64.ofNat (n : Nat) = cL)
    | .ldc2_w i => lkB (nAx a 0) (.constantLong oC i cL)
    | .iload_n k => decide ((k : Nat) = nAx a 0)
    | .iload i => decide (i = nAx a 0)
    | .lload_n k => decide ((k : Nat) = nAx a 0)
    | .lload i => decide (i = nAx a 0)
    | .aload_n k => decide ((k : Nat) = nAx a 0)
    | .aload i => decide (i = nAx a 0)
    | .istore_n k => decide ((k : Nat) = nAx a 0)
    | .istore i => decide (i = nAx a 0)
    | .lstore i => decide (i = nAx a 0)
    | .astore_n k => decide ((k : Nat) = nAx a 0)
    | .astore i => decide (i = nAx a 0)
    | .iinc i n => decide (i = nAx a 0 ∧ Int32.ofInt n = c)
    | .goto o => decide ((pc : Int) + o = (nAx a 0 : Int))
    | .ifCond _ o => decide ((pc : Int) + o = (nAx a 0 : Int))
    | .if_icmp _ o => decide ((pc : Int) + o = (nAx a 0 : Int))
    | .tableswitch d lo hi os => decide ((pc : Int) + d = (nAx a 0 : Int)) && (decide (hi + 1 = lo + os.toList.length) && tbOk pc lo os.toList sw)
    | .lookupswitch d os => decide ((pc : Int) + d = (nAx a 0 : Int)) && ((os.toList.zip (os.toList.drop 1)).all (fun (a, next) => a.1 < next.1) && lkOk pc os.toList sw)
    | .getfield i => lkB (nAx a 2) (.fieldLink oC i (TC (nAx a 0) (nAx a 1)).1 (TC (nAx a 0) (nAx a 1)).2.1 (TC (nAx a 0) (nAx a 1)).2.2.1)
    | .putfield i => lkB (nAx a 2) (.fieldLink oC i (TC (nAx a 0) (nAx a 1)).1 (TC (nAx a 0) (nAx a 1)).2.1 (TC (nAx a 0) (nAx a 1)).2.2.1)
    | .new i => lkB (nAx a 1) (.classLink oC i (RC (nAx a 0))) && (Nat.ble 1 (nAx a 0) && Nat.ble (nAx a 0) 7)
    | .newarray t => decide ((t = .int ∧ nAx a 0 = 1) ∨ (t = .boolean ∧ nAx a 0 = 2))
    | .anewarray i => lkB (nAx a 1) (.classLink oC i (RC (nAx a 0)))
    | .invokevirtual i => (match nAx a 0 with
      | 0 => okCallB oC i a 0
      | _ => lkB (nAx a 2) (.methodLink oC i (hNm (nAx a 1))) && decide (nAx a 1 = 6 ∨ nAx a 1 = 7))
    | .invokespecial i => (match nAx a 0 with
      | 0 => okCallB oC i a 1
      | _ => lkB (nAx a 2) (.methodLink oC i (hNm (nAx a 1))) && decide (nAx a 1 = 5))
    | .invokestatic i => (match nAx a 0 with
      | 0 => okCallB oC i a 2
      | _ => lkB (nAx a 2) (.methodLink oC i (hNm (nAx a 1))) && decide (1 ≤ nAx a 1 ∧ nAx a 1 ≤ 4))
    | _ => true
def rIns (want : Nat) : Instr := match want with
  | 0 => .return_ | 1 => .ireturn | 2 => .lreturn | _ => .areturn
section
variable {E : EnvT} {X : Nat × (Nat → Int32)} {nL : Nat} {s0 : Mem} {p : Program} {l : Launch} {e : Env} {R : Room} {s : State} {m : MethodId} {args : Array Value} {below : List Frame} {meth : Method} {c : Code} {Q : State → Prop} {cc : ByteArray} {oC : String} {ini : Bool} {pc : Nat} {ls st : List AV} {σ : Mem} {K : Kon} {r : Res} {d : Nat} {cal : Cal} {own : Nat}
theorem nc0 {v : AV} {b : Option Res} (hK : cond (nIsL v) none b = some r) : nIsL v = false ∧ b = some r := by
  cases h : nIsL v
  · rw [h] at hK; exact ⟨rfl, hK⟩
  · rw [h] at hK; cases hK
theorem sim_stepI {rt n : Nat} {ent : En} (hC : Ctx E X p R s m args meth c cc nL oC ini) (hs0 : s.heap.size = E.1.1 + nT s0) (hR : d + 9 ≤ R.frames ∧ 64 * d + 576 ≤ R.locals) (hcal : Snd E X l d cal) (hown : ∀ cn, own = cn → 1 ≤ cn → oC = RC cn)
    (hd : decode cc pc = .ok (ent.1, n)) (hlen : isSw ent.1 = false → n = nLen ent.1) (hok : okI oC pc ent = true) (hret : ∀ want, decode cc pc = .ok (rIns want, 1) → pRet rt want st σ = some r → Wf E nL s0 p l e R s m args below meth c Q pc ls st σ)
    (hK : nStepI X cal own ini rt ent pc ls st σ K = some r) (hk : ∀ pc ls st σ', K pc ls st σ' = some r → Wf E nL s0 p l e R s m args below meth c Q pc ls st σ') (hfin : ∀ pc ls st σ', K pc ls st σ' = some r → nT σ' ≤ nT s0 + R.cells ∧ nU σ' ≤ nU s0 + R.slots) : Wf E nL s0 p l e R s m args below meth c Q pc ls st σ := by
  obtain ⟨ins, a, cI, cL, sw⟩ := ent
  dsimp only at hd hlen
  have g1 := hC.1
  have g2 := hC.2.1
  have gown := hC.2.2.2.1
  have gw := hC.2.2.2.2.1
  cases ins
  all_goals try (cases hK; done)
  all_goals try (cases hlen rfl)
  all_goals dsimp only [okI] at hok
  case iconst n => exact sim_push (v := vI cI) trivial (fun _ q => lv_iconst g1 g2 hd (of_decide_eq_true hok) q) (hk _ _ _ _ hK)
  case bipush n => exact sim_push (v := vI cI) trivial (fun _ q => lv_bipush g1 g2 hd (of_decide_eq_true hok) q) (hk _ _ _ _ hK)
  case sipush n => exact sim_push (v := vI cI) trivial (fun _ q => lv_sipush g1 g2 hd (of_decide_eq_true hok) q) (hk _ _ _ _ hK)
  case ldc i =>
    dsimp only [nStepI] at hK
    rcases h0 : nAx a 0 with _ | _ | k
    · rw [h0] at hok hK
      try dsimp only at hok
      try dsimp only at hK
      rcases hq : strO[nAx a 1]? with _ | q
      · rw [hq] at hok; cases hok
      · rw [hq] at hok
        have hok := of_decide_eq_true hok
        have hlt : nAx a 1 < 13 := (List.getElem?_eq_some_iff.mp hq).1
        have hR2 := hC.2.2.2.2.2.1.2.2.2.1 _ _ hq
        rw [hok.1, hok.2] at hR2
        exact sim_push (v := vR 1 (nAx a 1)) (Or.inr (Or.inl ⟨rfl, hlt⟩)) (fun _ q2 => va_ldcS g1 g2 gown hR2 hd q2) (hk _ _ _ _ hK)
    · rw [h0] at hok hK
      exact sim_push (v := vI cI) trivial (fun _ q => lv_ldc g1 g2 gown (gw _ (lkB_in hok)) hd q) (hk _ _ _ _ hK)
    · rw [h0] at hok hK
      try dsimp only at hok
      try dsimp only at hK
      rcases hq : strO[nAx a 1]? with _ | q
      · rw [hq] at hok; cases hok
      · rw [hq] at hok
        have hok := of_decide_eq_true hok
        have hlt : nAx a 1 < 13 := (List.getElem?_eq_some_iff.mp hq).1
        have hR2 := hC.2.2.2.2.2.1.2.2.2.1 _ _ hq
        rw [hok.1, hok.2] at hR2
        exact sim_push (v := vR 1 (nAx a 1)) (Or.inr (Or.inl ⟨rfl, hlt⟩)) (fun _ q2 => va_ldcS g1 g2 gown hR2 hd q2) (hk _ _ _ _ hK)
  case ldc_w i => exact sim_push (v := vI cI) trivial (fun _ q => lv_ldcw g1 g2 gown (gw _ (lkB_in hok)) hd q) (hk _ _ _ _ hK)
  case lconst n => exact sim_push (v := vL cL) trivial (fun _ q => lv_lconst g1 g2 hd (of_decide_eq_true hok) q) (hk _ _ _ _ hK)
  case ldc2_w i => exact sim_push (v := vL cL) trivial (fun _ q => lv_ldc2 g1 g2 gown (gw _ (lkB_in hok)) hd q) (hk _ _ _ _ hK)
  case iload_n k => exact sim_load (want := 0) (len := 1) (i := nAx a 0) hC (fun _ => fun h q => lv_iload_n g1 g2 hd (of_decide_eq_true hok) h q) (fun h => by cases h) (fun h => by cases h) hK hk
  case iload k =>
    have hok := of_decide_eq_true hok
    subst hok
    exact sim_load (want := 0) (len := 2) (i := nAx a 0) hC (fun _ => fun h q => lv_iload g1 g2 hd h q) (fun h => by cases h) (fun h => by cases h) hK hk
  case lload_n k => exact sim_load (want := 1) (len := 1) (i := nAx a 0) hC (fun h => by cases h) (fun _ => fun h q => lv_lload_n g1 g2 hd (of_decide_eq_true hok) h q) (fun h => by cases h) hK hk
  case lload k =>
    have hok := of_decide_eq_true hok
    subst hok
    exact sim_load (want := 1) (len := 2) (i := nAx a 0) hC (fun h => by cases h) (fun _ => fun h q => lv_lload g1 g2 hd h q) (fun h => by cases h) hK hk
  case aload_n k => exact sim_load (want := 2) (len := 1) (i := nAx a 0) hC (fun h => by cases h) (fun h => by cases h) (fun _ => fun h q => lv_aload_n g1 g2 hd (of_decide_eq_true hok) h q) hK hk
  case aload k =>
    have hok := of_decide_eq_true hok
    subst hok
    exact sim_load (want := 2) (len := 2) (i := nAx a 0) hC (fun h => by cases h) (fun h => by cases h) (fun _ => fun h q => lv_aload g1 g2 hd h q) hK hk
  case istore_n k => exact sim_store (want := 0) (len := 1) (i := nAx a 0) (fun _ => fun h hn q => lv_istore_n g1 g2 hd (of_decide_eq_true hok) h hn rfl q) (fun h => by cases h) (fun h => by cases h) hK hk
  case istore k =>
    have hok := of_decide_eq_true hok
    subst hok
    exact sim_store (want := 0) (len := 2) (i := nAx a 0) (fun _ => fun h hn q => lv_istore g1 g2 hd h hn rfl q) (fun h => by cases h) (fun h => by cases h) hK hk
  case lstore k =>
    have hok := of_decide_eq_true hok
    subst hok
    exact sim_store (want := 1) (len := 2) (i := nAx a 0) (fun h => by cases h) (fun _ => fun h hn q => lv_lstore g1 g2 hd h hn rfl q) (fun h => by cases h) hK hk
  case astore_n k => exact sim_store (want := 2) (len := 1) (i := nAx a 0) (fun h => by cases h) (fun h => by cases h) (fun _ => fun h hn q => lv_astore_n g1 g2 hd (of_decide_eq_true hok) h hn rfl q) hK hk
  case astore k =>
    have hok := of_decide_eq_true hok
    subst hok
    exact sim_store (want := 2) (len := 2) (i := nAx a 0) (fun h => by cases h) (fun h => by cases h) (fun _ => fun h hn q => lv_astore g1 g2 hd h hn rfl q) hK hk
  case iinc k nn =>
    have hok := of_decide_eq_true hok
    obtain ⟨rfl, rfl⟩ := hok
    dsimp only [nStepI] at hK
    rcases hg : nGt ls (nAx a 0) with x | x | ⟨k2, j2⟩
    · rw [hg] at hK
      dsimp only at hK
      cases hlt : Nat.blt (nAx a 0) ls.length
      · rw [hlt] at hK; cases hK
      · rw [hlt] at hK
        cases hb : nLbf ls (nAx a 0)
        · rw [hb] at hK
          intro h1 h2 h3 H locs lsC hW hL hS
          obtain ⟨kk, hkk⟩ := hL.mem hg rfl
          exact lv_iinc g1 g2 hd hL.1 hkk rfl (by rw [← hL.2]; exact Nat.blt_eq.mp hlt) rfl (fun ls' h' => hk _ _ _ _ hK (okl_pt h1 trivial) h2 h3 H locs ls' hW (LH.put1 hL.2 hb rfl h') hS)
        · rw [hb] at hK; cases hK
    · rw [hg] at hK; cases hK
    · rw [hg] at hK; cases hK
  case iadd => exact sim_i2 (fun _ _ q => lv_iadd g1 g2 hd q) hK hk
  case isub => exact sim_i2 (fun _ _ q => lv_isub g1 g2 hd q) hK hk
  case imul => exact sim_i2 (fun _ _ q => lv_imul g1 g2 hd q) hK hk
  case iand => exact sim_i2 (fun _ _ q => lv_iand g1 g2 hd q) hK hk
  case ior => exact sim_i2 (fun _ _ q => lv_ior g1 g2 hd q) hK hk
  case ishl => exact sim_i2 (fun _ _ q => lv_ishl g1 g2 hd q) hK hk
  case ishr => exact sim_i2 (fun _ _ q => lv_ishr g1 g2 hd q) hK hk
  case iushr => exact sim_i2 (fun _ _ q => lv_iushr g1 g2 hd rfl q) hK hk
  case idiv => exact sim_d2 (fun _ _ h q => lv_idiv g1 g2 hd h q) hK hk
  case irem => exact sim_d2 (fun _ _ h q => lv_irem g1 g2 hd h q) hK hk
  case ineg => exact sim_i1 (f := fun x => vI (-x)) (fun _ => trivial) (fun _ q => lv_ineg g1 g2 hd q) hK hk
  case i2l => exact sim_i1 (f := fun x => vL x.toInt64) (fun _ => trivial) (fun _ q => lv_i2l g1 g2 hd rfl q) hK hk
  case i2b => exact sim_i1 (f := fun x => vI x.toInt8.toInt32) (fun _ => trivial) (fun _ q => lv_i2b g1 g2 hd rfl q) hK hk
  case i2s => exact sim_i1 (f := fun x => vI x.toInt16.toInt32) (fun _ => trivial) (fun _ q => lv_i2s g1 g2 hd rfl q) hK hk
  case l2i =>
    rcases st with _ | ⟨x | x | ⟨k, j⟩, rr⟩
    all_goals try (cases hK; done)
    intro h1 h2 h3 H locs lsC hW hL hS
    exact lv_l2i g1 g2 hd rfl (hk _ _ _ _ hK h1 (okl_cons trivial (okl_tl h2)) h3 H locs lsC hW hL hS)
  case ladd => exact sim_l2 (f := fun x y => vL (x + y)) (fun _ _ => trivial) (fun _ _ q => lv_ladd g1 g2 hd q) hK hk
  case lsub => exact sim_l2 (f := fun x y => vL (x - y)) (fun _ _ => trivial) (fun _ _ q => lv_lsub g1 g2 hd q) hK hk
  case lmul => exact sim_l2 (f := fun x y => vL (x * y)) (fun _ _ => trivial) (fun _ _ q => lv_lmul g1 g2 hd q) hK hk
  case lcmp => exact sim_l2 (f := fun x y => vI (nLcmp x y)) (fun _ _ => trivial) (fun _ _ q => W.lcmp g1 g2 hd q) hK hk
  case ldiv => exact sim_ld (fun _ _ h q => lv_ldiv g1 g2 hd h q) hK hk
  case lrem => exact sim_ld (fun _ _ h q => lv_lrem g1 g2 hd h q) hK hk
  case dup =>
    rcases st with _ | ⟨v, rr⟩
    · cases hK
    dsimp only [nStepI] at hK
    obtain ⟨hv, hK⟩ := nc0 hK
    intro h1 h2 h3 H locs lsC hW hL hS
    exact lv_dup g1 g2 hd (cat_of E hv) (hk _ _ _ _ hK h1 (okl_cons (okl_hd h2) h2) h3 H locs lsC hW hL hS)
  case dup2 =>
    rcases st with _ | ⟨v, _ | ⟨w, rr⟩⟩
    · cases hK
    · cases hK
    dsimp only [nStepI] at hK
    cases hv : nIsL v
    · cases hw : nIsL w
      · rw [hv, hw] at hK
        intro h1 h2 h3 H locs lsC hW hL hS
        exact lv_dup2_11 g1 g2 hd (cat_of E hv) (cat_of E hw) (hk _ _ _ _ hK h1 (okl_cons (okl_hd h2) (okl_cons (okl_hd (okl_tl h2)) h2)) h3 H locs lsC hW hL hS)
      · rw [hv, hw] at hK; cases hK
    · rw [hv] at hK; cases hK
  case pop =>
    rcases st with _ | ⟨v, rr⟩
    · cases hK
    dsimp only [nStepI] at hK
    obtain ⟨hv, hK⟩ := nc0 hK
    intro h1 h2 h3 H locs lsC hW hL hS
    exact lv_pop g1 g2 hd (cat_of E hv) (hk _ _ _ _ hK h1 (okl_tl h2) h3 H locs lsC hW hL hS)
  case goto o =>
    intro h1 h2 h3 H locs lsC hW hL hS
    exact lv_goto g1 g2 hd (of_decide_eq_true hok) (hk _ _ _ _ hK h1 h2 h3 H locs lsC hW hL hS)
  case ifCond q o => exact sim_if hC hd (of_decide_eq_true hok) hK hk
  case if_icmp q o => exact sim_cmp hC hd (of_decide_eq_true hok) hK hk
  case tableswitch df lo hi os =>
    rw [Bool.and_eq_true, Bool.and_eq_true, decide_eq_true_eq, decide_eq_true_eq] at hok
    obtain ⟨o1, o2, o3⟩ := hok
    rcases st with _ | ⟨x | x | ⟨k, j⟩, rr⟩
    all_goals try (cases hK; done)
    dsimp only [nStepI] at hK
    intro h1 h2 h3 H locs lsC hW hL hS
    rcases sw_tb _ _ _ o3 hK with ⟨off, tgt, a1, a2, a3, a4, a5⟩ | ⟨a1, a2⟩
    · exact lv_tableIn g1 g2 hd a2 (by omega) (by rw [← Array.getElem?_toList]; exact a1) a4 (hk _ _ _ _ a5 h1 (okl_tl h2) h3 H locs lsC hW hL hS)
    · exact lv_tableOut g1 g2 hd (by omega) o1 (hk _ _ _ _ a2 h1 (okl_tl h2) h3 H locs lsC hW hL hS)
  case lookupswitch df os =>
    rw [Bool.and_eq_true, Bool.and_eq_true, decide_eq_true_eq] at hok
    obtain ⟨o1, o2, o3⟩ := hok
    rcases st with _ | ⟨x | x | ⟨k, j⟩, rr⟩
    all_goals try (cases hK; done)
    dsimp only [nStepI] at hK
    intro h1 h2 h3 H locs lsC hW hL hS
    obtain ⟨tgt, a1, a2⟩ := sw_lk o1 _ _ o3 hK
    exact lv_lookup g1 g2 hd o2 rfl a1 (hk _ _ _ _ a2 h1 (okl_tl h2) h3 H locs lsC hW hL hS)
  case getfield i => exact sim_get hC hd (lkB_in hok) hK hk
  case putfield i => exact sim_put hC hs0 (hown _) hd (lkB_in hok) hK hk
  case iaload => exact sim_iald hC hd hK hk
  case iastore => exact sim_iast hC hs0 hd hK hk
  case baload => exact sim_zald hC hd hK hk
  case bastore => exact sim_zast hC hs0 hd hK hk
  case aaload => exact sim_aald hC hd hK hk
  case aastore => exact sim_aast hC hs0 hd hK hk
  case arraylength => exact sim_len hC hd hK hk
  case new i =>
    rw [Bool.and_eq_true, Bool.and_eq_true] at hok
    have hb : 1 ≤ nAx a 0 ∧ nAx a 0 ≤ 7 := ⟨Nat.ble_eq.mp hok.2.1, Nat.ble_eq.mp hok.2.2⟩
    exact sim_new hC hs0 hd (lkB_in hok.1) (clIns hb (by omega)) (clIni hb) hK hk hfin
  case newarray t =>
    rcases of_decide_eq_true hok with ⟨rfl, h0⟩ | ⟨rfl, h0⟩
    · dsimp only [nStepI] at hK
      rw [h0] at hK
      exact sim_newI (x := 0) (rr := []) hC hs0 hd arI hK hk hfin
    · dsimp only [nStepI] at hK
      rw [h0] at hK
      exact sim_newZ hC hs0 hd arZ hK hk hfin
  case anewarray i => exact sim_newA hC hs0 hd (lkB_in hok) hK hk hfin
  case invokevirtual i =>
    dsimp only [nStepI] at hK
    rcases h0 : nAx a 0 with _ | k
    · rw [h0] at hok hK
      exact sim_callV hC hs0 hR hcal hd (okCall_of hok) hK hk hfin
    · rw [h0] at hok hK
      have hok : (lkB (nAx a 2) (.methodLink oC i (hNm (nAx a 1))) && decide (nAx a 1 = 6 ∨ nAx a 1 = 7)) = true := hok
      rw [Bool.and_eq_true, decide_eq_true_eq] at hok
      exact sim_hostV hC hR hd (lkB_in hok.1) hok.2 hK hk hfin
  case invokespecial i =>
    dsimp only [nStepI] at hK
    rcases h0 : nAx a 0 with _ | k
    · rw [h0] at hok hK
      exact sim_callI hC hs0 hR hcal hd (okCall_of hok) hK hk hfin
    · rw [h0] at hok hK
      have hok : (lkB (nAx a 2) (.methodLink oC i (hNm (nAx a 1))) && decide (nAx a 1 = 5)) = true := hok
      rw [Bool.and_eq_true, decide_eq_true_eq] at hok
      exact sim_hostI hC hR hd (lkB_in hok.1) hok.2 hK hk
  case invokestatic i =>
    dsimp only [nStepI] at hK
    rcases h0 : nAx a 0 with _ | k
    · rw [h0] at hok hK
      exact sim_callS hC hs0 hR hcal hd (okCall_of hok) hK hk hfin
    · rw [h0] at hok hK
      have hok : (lkB (nAx a 2) (.methodLink oC i (hNm (nAx a 1))) && decide (1 ≤ nAx a 1 ∧ nAx a 1 ≤ 4)) = true := hok
      rw [Bool.and_eq_true, decide_eq_true_eq] at hok
      exact sim_hostS hC hs0 hR hd (lkB_in hok.1) hok.2 hK hk hfin
  case ireturn => exact hret 1 hd hK
  case lreturn => exact hret 2 hd hK
  case areturn => exact hret 3 hd hK
  case return_ => exact hret 0 hd hK
end
end
section
/-! the checks, method by method -/
def rtB : Nat → Option FieldType → Bool
  | 0, none => true
  | 1, some .int => true
  | 2, some .boolean => true
  | 3, some .long => true
  | 4, some (.object _) => true
  | 4, some (.array _) => true
  | _, _ => false
def okTbl (h : Hd) (cc : ByteArray) (oC : String) : Bool := h.1.all (fun pe => okD cc pe && okI oC pe.1 pe.2)
def okHM (x : (Hd × Nat) × MD) : Bool := okTbl x.1.1 x.2.2.1 x.2.1.cls && (x.1.2 == x.2.2.2.1 && (decide (x.1.1.2.1 = 0 ∨ x.2.1.cls = RC x.1.1.2.1) && ((!x.1.1.2.2.1 || decide (x.2.1.name = "<init>")) && rtB x.1.1.2.2.2 x.2.2.2.2.1)))
theorem ck0 : okHM ((hX0_init, 1), (yX0_init, cX0_init, 1, none, 0, false, 179, 178, 0, 75)) = true := by decide +kernel
theorem ck1 : okHM ((hX0_search, 4), (yX0_search, cX0_search, 4, none, 2, false, 626, 624, 625, 75)) = true := by decide +kernel
theorem ck2 : okHM ((hX0_clear, 2), (yX0_clear, cX0_clear, 2, none, 0, false, 630, 629, 20, 75)) = true := by decide +kernel
theorem ck3 : okHM ((hX0_isInShoe, 3), (yX0_isInShoe, cX0_isInShoe, 3, (some .boolean), 1, false, 634, 633, 21, 75)) = true := by decide +kernel
theorem ck4 : okHM ((hX0_found, 5), (yX0_found, cX0_found, 5, none, 0, false, 638, 637, 22, 75)) = true := by decide +kernel
theorem ck5 : okHM ((hX0_stepOn, 3), (yX0_stepOn, cX0_stepOn, 3, none, 1, false, 642, 641, 23, 75)) = true := by decide +kernel
theorem ck6 : okHM ((hX0_takeUp, 5), (yX0_takeUp, cX0_takeUp, 5, none, 3, false, 646, 645, 24, 75)) = true := by decide +kernel
theorem ck7 : okHM ((hX1_takes, 4), (yX1_takes, cX1_takes, 4, (some .int), 4, true, 511, 510, 0, 85)) = true := by decide +kernel
theorem ck8 : okHM ((hX1_takesUnbounded, 4), (yX1_takesUnbounded, cX1_takesUnbounded, 4, (some .int), 4, true, 514, 513, 0, 85)) = true := by decide +kernel
theorem ck9 : okHM ((hX1_keeps, 3), (yX1_keeps, cX1_keeps, 3, (some .int), 3, true, 492, 491, 0, 85)) = true := by decide +kernel
theorem ck10 : okHM ((hX1_sure, 3), (yX1_sure, cX1_sure, 3, (some .int), 3, true, 500, 499, 0, 85)) = true := by decide +kernel
theorem ck11 : okHM ((hX1_isUnder, 2), (yX1_isUnder, cX1_isUnder, 2, (some .boolean), 2, true, 768, 767, 0, 85)) = true := by decide +kernel
theorem ck12 : okHM ((hX2_init, 1), (yX2_init, cX2_init, 1, none, 0, false, 138, 137, 0, 74)) = true := by decide +kernel
theorem ck13 : okHM ((hX2_add, 2), (yX2_add, cX2_add, 2, (some .int), 1, false, 298, 296, 297, 74)) = true := by decide +kernel
theorem ck14 : okHM ((hX2_read, 2), (yX2_read, cX2_read, 2, (some .int), 0, false, 306, 304, 305, 74)) = true := by decide +kernel
theorem ck15 : okHM ((hX2_readLevel, 6), (yX2_readLevel, cX2_readLevel, 6, (some .boolean), 2, false, 350, 349, 5, 74)) = true := by decide +kernel
theorem ck16 : okHM ((hX2_readNot, 2), (yX2_readNot, cX2_readNot, 2, (some .boolean), 1, false, 362, 361, 8, 74)) = true := by decide +kernel
theorem ck17 : okHM ((hX2_readOne, 3), (yX2_readOne, cX2_readOne, 3, (some .boolean), 1, false, 354, 353, 6, 74)) = true := by decide +kernel
theorem ck18 : okHM ((hX2_levelOf, 1), (yX2_levelOf, cX2_levelOf, 1, (some .int), 1, true, 365, 364, 0, 74)) = true := by decide +kernel
theorem ck19 : okHM ((hX2_stepOf, 1), (yX2_stepOf, cX2_stepOf, 1, (some .int), 1, true, 368, 367, 0, 74)) = true := by decide +kernel
theorem ck20 : okHM ((hX2_put, 2), (yX2_put, cX2_put, 2, none, 1, false, 358, 357, 7, 74)) = true := by decide +kernel
theorem ck21 : okHM ((hX2_next, 1), (yX2_next, cX2_next, 1, none, 0, false, 310, 309, 0, 74)) = true := by decide +kernel
theorem ck22 : okHM ((hX2_nextWord, 3), (yX2_nextWord, cX2_nextWord, 3, none, 0, false, 318, 317, 2, 74)) = true := by decide +kernel
theorem ck23 : okHM ((hX2_nextNumber, 1), (yX2_nextNumber, cX2_nextNumber, 1, none, 0, false, 343, 342, 4, 74)) = true := by decide +kernel
theorem ck24 : okHM ((hX2_isIn, 4), (yX2_isIn, cX2_isIn, 4, (some .boolean), 3, false, 314, 313, 1, 74)) = true := by decide +kernel
theorem ck25 : okHM ((hX2_isSign, 1), (yX2_isSign, cX2_isSign, 1, (some .boolean), 1, true, 346, 345, 0, 74)) = true := by decide +kernel
theorem ck26 : okHM ((hX2_isToken, 3), (yX2_isToken, cX2_isToken, 3, (some .boolean), 1, false, 337, 336, 3, 74)) = true := by decide +kernel
theorem ck27 : okHM ((hX2_wordOf, 1), (yX2_wordOf, cX2_wordOf, 1, (some (.object "java/lang/String")), 1, true, 321, 320, 0, 74)) = true := by decide +kernel
theorem ck28 : okHM ((hX3_init, 1), (yX3_init, cX3_init, 1, none, 0, false, 227, 226, 0, 77)) = true := by decide +kernel
theorem ck29 : okHM ((hX3_isSort, 1), (yX3_isSort, cX3_isSort, 1, (some .boolean), 1, true, 740, 739, 0, 77)) = true := by decide +kernel
theorem ck30 : okHM ((hX3_isMissing, 1), (yX3_isMissing, cX3_isMissing, 1, (some .boolean), 0, false, 618, 616, 617, 77)) = true := by decide +kernel
theorem ck31 : okHM ((hX3_has, 2), (yX3_has, cX3_has, 2, (some .boolean), 1, false, 748, 746, 747, 77)) = true := by decide +kernel
theorem ck32 : okHM ((hX3_hasRun, 3), (yX3_hasRun, cX3_hasRun, 3, (some .boolean), 2, false, 756, 754, 755, 77)) = true := by decide +kernel
theorem ck33 : okHM ((hX3_becomes, 4), (yX3_becomes, cX3_becomes, 4, none, 2, false, 597, 595, 596, 77)) = true := by decide +kernel
theorem ck34 : okHM ((hX3_put, 3), (yX3_put, cX3_put, 3, none, 2, false, 601, 599, 600, 77)) = true := by decide +kernel
theorem ck35 : okHM ((hX3_all, 1), (yX3_all, cX3_all, 1, (some .int), 0, false, 605, 603, 604, 77)) = true := by decide +kernel
theorem ck36 : okHM ((hX4_init, 1), (yX4_init, cX4_init, 1, none, 0, false, 215, 214, 0, 76)) = true := by decide +kernel
theorem ck37 : okHM ((hX4_becomes, 3), (yX4_becomes, cX4_becomes, 3, none, 2, false, 372, 370, 371, 76)) = true := by decide +kernel
theorem ck38 : okHM ((hX4_value, 7), (yX4_value, cX4_value, 7, (some .int), 3, false, 480, 478, 479, 76)) = true := by decide +kernel
theorem ck39 : okHM ((hX4_joined, 3), (yX4_joined, cX4_joined, 3, (some .int), 3, true, 483, 482, 0, 76)) = true := by decide +kernel
theorem ck40 : okHM ((hX5_init, 1), (yX5_init, cX5_init, 1, none, 0, false, 98, 97, 0, 73)) = true := by decide +kernel
theorem ck41 : okHM ((hX5_has, 2), (yX5_has, cX5_has, 2, (some .boolean), 1, false, 431, 429, 430, 73)) = true := by decide +kernel
theorem ck42 : okHM ((hX5_comes, 5), (yX5_comes, cX5_comes, 5, (some .int), 2, false, 456, 454, 455, 73)) = true := by decide +kernel
theorem ck43 : okHM ((hX5_becomes, 2), (yX5_becomes, cX5_becomes, 2, none, 1, false, 720, 718, 719, 73)) = true := by decide +kernel
theorem ck44 : okHM ((hX5_allOnCoast, 2), (yX5_allOnCoast, cX5_allOnCoast, 2, (some .int), 1, false, 445, 443, 444, 73)) = true := by decide +kernel
theorem ck45 : okHM ((hX5_allInShoe, 2), (yX5_allInShoe, cX5_allInShoe, 2, (some .int), 1, false, 435, 433, 434, 73)) = true := by decide +kernel
theorem ck46 : okHM ((hX5_allInShoes, 1), (yX5_allInShoes, cX5_allInShoes, 1, (some .int), 0, false, 733, 731, 732, 73)) = true := by decide +kernel
theorem ck47 : okHM ((hX5_apart, 5), (yX5_apart, cX5_apart, 5, (some .int), 2, false, 542, 540, 541, 73)) = true := by decide +kernel
theorem ck48 : okHM ((hX5_oddest, 5), (yX5_oddest, cX5_oddest, 5, (some .int), 1, false, 562, 560, 561, 73)) = true := by decide +kernel
theorem ck49 : okHM ((hX5_poorest, 3), (yX5_poorest, cX5_poorest, 3, (some .int), 0, false, 557, 555, 556, 73)) = true := by decide +kernel
theorem ck50 : okHM ((hX6_init, 2), (yX6_init, cX6_init, 2, none, 0, false, 90, 89, 0, 72)) = true := by decide +kernel
theorem ck51 : okHM ((hX6_set, 5), (yX6_set, cX6_set, 5, (some .int), 3, false, 417, 415, 416, 72)) = true := by decide +kernel
theorem ck52 : okHM ((hX6_person, 3), (yX6_person, cX6_person, 3, (some .int), 2, false, 452, 450, 451, 72)) = true := by decide +kernel
theorem ck53 : okHM ((hX6_told, 3), (yX6_told, cX6_told, 3, (some .int), 2, false, 421, 419, 420, 72)) = true := by decide +kernel
theorem ck54 : okHM ((hX6_asks, 4), (yX6_asks, cX6_asks, 4, (some .int), 3, false, 461, 459, 460, 72)) = true := by decide +kernel
theorem ck55 : okHM ((hX6_feed, 2), (yX6_feed, cX6_feed, 2, (some .int), 1, false, 294, 292, 293, 72)) = true := by decide +kernel
theorem ck56 : okHM ((hX6_text, 2), (yX6_text, cX6_text, 2, (some .int), 0, false, 302, 300, 301, 72)) = true := by decide +kernel
theorem ck57 : okHM ((hX6_force, 3), (yX6_force, cX6_force, 3, (some .int), 1, false, 521, 519, 520, 72)) = true := by decide +kernel
theorem ck58 : okHM ((hX6_stay, 5), (yX6_stay, cX6_stay, 5, (some .int), 2, false, 525, 523, 524, 72)) = true := by decide +kernel
theorem ck59 : okHM ((hX6_shake, 4), (yX6_shake, cX6_shake, 4, (some .int), 1, false, 529, 527, 528, 72)) = true := by decide +kernel
theorem ck60 : okHM ((hX6_like, 4), (yX6_like, cX6_like, 4, (some .int), 3, false, 534, 532, 533, 72)) = true := by decide +kernel
theorem ck61 : okHM ((hX6_odd, 4), (yX6_odd, cX6_odd, 4, (some .int), 2, false, 553, 551, 552, 72)) = true := by decide +kernel
theorem ck62 : okHM ((hX6_mean, 4), (yX6_mean, cX6_mean, 4, (some .long), 3, false, 567, 565, 566, 72)) = true := by decide +kernel
theorem ck63 : okHM ((hX6_stays, 4), (yX6_stays, cX6_stays, 4, (some .int), 3, false, 578, 576, 577, 72)) = true := by decide +kernel
theorem ck64 : okHM ((hX6_pack, 6), (yX6_pack, cX6_pack, 6, (some .int), 3, false, 590, 588, 589, 72)) = true := by decide +kernel
theorem ck65 : okHM ((hX6_fit, 5), (yX6_fit, cX6_fit, 5, (some .int), 3, false, 610, 608, 609, 72)) = true := by decide +kernel
theorem ck66 : okHM ((hX6_share, 5), (yX6_share, cX6_share, 5, (some .long), 4, false, 650, 648, 649, 72)) = true := by decide +kernel
theorem ck67 : okHM ((hX6_go, 10), (yX6_go, cX6_go, 10, (some .int), 4, false, 654, 652, 653, 72)) = true := by decide +kernel
theorem ck68 : okHM ((hX6_tells, 6), (yX6_tells, cX6_tells, 6, (some .int), 4, false, 673, 671, 672, 72)) = true := by decide +kernel
theorem ck69 : okHM ((hX6_film, 6), (yX6_film, cX6_film, 6, (some .int), 3, false, 693, 691, 692, 72)) = true := by decide +kernel
theorem ck70 : okHM ((hX6_drawn, 4), (yX6_drawn, cX6_drawn, 4, (some .int), 3, false, 697, 695, 696, 72)) = true := by decide +kernel
theorem ck71 : okHM ((hX6_chance, 8), (yX6_chance, cX6_chance, 8, (some .long), 5, false, 711, 709, 710, 72)) = true := by decide +kernel
theorem ck72 : okHM ((hX6_image, 1), (yX6_image, cX6_image, 1, (some .int), 0, false, 716, 714, 715, 72)) = true := by decide +kernel
theorem ck73 : okHM ((hX6_back, 1), (yX6_back, cX6_back, 1, (some .int), 0, false, 725, 723, 724, 72)) = true := by decide +kernel
theorem ck74 : okHM ((hX6_count, 2), (yX6_count, cX6_count, 2, (some .int), 1, false, 729, 727, 728, 72)) = true := by decide +kernel
theorem ck75 : okHM ((hX6_sheet, 4), (yX6_sheet, cX6_sheet, 4, (some .int), 3, false, 737, 735, 736, 72)) = true := by decide +kernel
theorem ck76 : okHM ((hX6_cell, 5), (yX6_cell, cX6_cell, 5, (some .int), 3, false, 744, 742, 743, 72)) = true := by decide +kernel
theorem ck77 : okHM ((hX6_copy, 8), (yX6_copy, cX6_copy, 8, (some .int), 5, false, 752, 750, 751, 72)) = true := by decide +kernel
theorem ck78 : okHM ((hX6_people, 9), (yX6_people, cX6_people, 9, (some .int), 4, false, 760, 758, 759, 72)) = true := by decide +kernel
theorem ck79 : okHM ((hX6_taken, 3), (yX6_taken, cX6_taken, 3, (some .int), 2, false, 765, 763, 764, 72)) = true := by decide +kernel
theorem ck80 : okHM ((hX6_isCoast, 1), (yX6_isCoast, cX6_isCoast, 1, (some .boolean), 1, true, 441, 440, 0, 72)) = true := by decide +kernel
theorem ck81 : okHM ((hX6_isMark, 1), (yX6_isMark, cX6_isMark, 1, (some .boolean), 1, true, 464, 463, 0, 72)) = true := by decide +kernel
theorem ck82 : okHM ((hX6_isPart, 1), (yX6_isPart, cX6_isPart, 1, (some .boolean), 1, true, 570, 569, 0, 72)) = true := by decide +kernel
theorem ck83 : okHM ((hX6_isSheet, 1), (yX6_isSheet, cX6_isSheet, 1, (some .boolean), 1, true, 593, 592, 0, 72)) = true := by decide +kernel
theorem ck84 : okHM ((hX6_areTwo, 3), (yX6_areTwo, cX6_areTwo, 3, (some .boolean), 2, false, 538, 537, 15, 72)) = true := by decide +kernel
theorem ck85 : okHM ((hX6_isPlace, 2), (yX6_isPlace, cX6_isPlace, 2, (some .boolean), 2, true, 424, 423, 0, 72)) = true := by decide +kernel
theorem ck86 : okHM ((hX6_placeOf, 1), (yX6_placeOf, cX6_placeOf, 1, (some .int), 1, true, 427, 426, 0, 72)) = true := by decide +kernel
theorem ck87 : okHM ((hX6_mostOf, 1), (yX6_mostOf, cX6_mostOf, 1, (some .int), 1, true, 448, 447, 0, 72)) = true := by decide +kernel
theorem ck88 : okHM ((hX6_areStays, 3), (yX6_areStays, cX6_areStays, 3, (some .boolean), 1, true, 581, 580, 0, 72)) = true := by decide +kernel
theorem ck89 : okHM ((hX6_valueOf, 5), (yX6_valueOf, cX6_valueOf, 5, (some .int), 3, false, 476, 475, 11, 72)) = true := by decide +kernel
theorem ck90 : okHM ((hX6_nameAll, 7), (yX6_nameAll, cX6_nameAll, 7, none, 6, false, 472, 471, 10, 72)) = true := by decide +kernel
theorem ck91 : okHM ((hX6_takesOf, 7), (yX6_takesOf, cX6_takesOf, 7, (some .int), 6, false, 508, 507, 14, 72)) = true := by decide +kernel
theorem ck92 : okHM ((hX6_takesNow, 4), (yX6_takesNow, cX6_takesNow, 4, (some .int), 3, false, 504, 503, 13, 72)) = true := by decide +kernel
theorem ck93 : okHM ((hX6_keepsOf, 4), (yX6_keepsOf, cX6_keepsOf, 4, (some .int), 2, false, 468, 467, 9, 72)) = true := by decide +kernel
theorem ck94 : okHM ((hX6_sureOf, 5), (yX6_sureOf, cX6_sureOf, 5, (some .int), 3, false, 497, 496, 12, 72)) = true := by decide +kernel
theorem ck95 : okHM ((hX6_tellsExaminer, 5), (yX6_tellsExaminer, cX6_tellsExaminer, 5, (some .int), 2, false, 549, 548, 16, 72)) = true := by decide +kernel
theorem ck96 : okHM ((hX6_tellDailyTakes, 6), (yX6_tellDailyTakes, cX6_tellDailyTakes, 6, none, 1, false, 622, 621, 19, 72)) = true := by decide +kernel
theorem ck97 : okHM ((hX6_takesByStays, 7), (yX6_takesByStays, cX6_takesByStays, 7, (some .int), 3, false, 586, 585, 17, 72)) = true := by decide +kernel
theorem ck98 : okHM ((hX6_findFits, 3), (yX6_findFits, cX6_findFits, 3, (some .int), 2, false, 614, 613, 18, 72)) = true := by decide +kernel
theorem ck99 : okHM ((hX6_neverGoesBack, 6), (yX6_neverGoesBack, cX6_neverGoesBack, 6, (some .boolean), 2, true, 657, 656, 0, 72)) = true := by decide +kernel
end
section
theorem ck100 : okHM ((hX6_digitsOfWay, 6), (yX6_digitsOfWay, cX6_digitsOfWay, 6, (some .int), 2, true, 669, 668, 0, 72)) = true := by decide +kernel
theorem ck101 : okHM ((hX6_apartAfter, 8), (yX6_apartAfter, cX6_apartAfter, 8, (some .int), 4, false, 661, 660, 25, 72)) = true := by decide +kernel
theorem ck102 : okHM ((hX6_goInThought, 3), (yX6_goInThought, cX6_goInThought, 3, none, 1, false, 665, 664, 26, 72)) = true := by decide +kernel
theorem ck103 : okHM ((hX6_allAfterDrawn, 6), (yX6_allAfterDrawn, cX6_allAfterDrawn, 6, (some .int), 3, false, 701, 700, 31, 72)) = true := by decide +kernel
theorem ck104 : okHM ((hX6_stayInThought, 6), (yX6_stayInThought, cX6_stayInThought, 6, none, 3, false, 706, 705, 32, 72)) = true := by decide +kernel
theorem ck105 : okHM ((hX6_firstOtherwise, 12), (yX6_firstOtherwise, cX6_firstOtherwise, 12, (some .int), 5, false, 681, 680, 28, 72)) = true := by decide +kernel
theorem ck106 : okHM ((hX6_bitsThatTell, 8), (yX6_bitsThatTell, cX6_bitsThatTell, 8, (some .int), 5, false, 677, 676, 27, 72)) = true := by decide +kernel
theorem ck107 : okHM ((hX6_daysThatTell, 6), (yX6_daysThatTell, cX6_daysThatTell, 6, (some .int), 3, false, 685, 684, 29, 72)) = true := by decide +kernel
theorem ck108 : okHM ((hX6_leastDayThatTells, 5), (yX6_leastDayThatTells, cX6_leastDayThatTells, 5, (some .int), 3, false, 689, 688, 30, 72)) = true := by decide +kernel
theorem ck109 : okHM ((hX6_sum, 5), (yX6_sum, cX6_sum, 5, (some .int), 3, true, 438, 437, 0, 72)) = true := by decide +kernel
theorem ck110 : okHM ((hX6_lowestTerms, 7), (yX6_lowestTerms, cX6_lowestTerms, 7, (some .long), 3, true, 574, 573, 0, 72)) = true := by decide +kernel
theorem ck111 : okHM ((hX7_in, 6), (yX7_in, cX7_in, 6, (some .boolean), 3, true, 934, 933, 0, 83)) = true := by decide +kernel
theorem ck112 : okHM ((hX7_within, 3), (yX7_within, cX7_within, 3, (some .int), 3, true, 1078, 1077, 0, 83)) = true := by decide +kernel
theorem ck113 : okHM ((hX7_init, 1), (yX7_init, cX7_init, 1, none, 0, false, 773, 772, 0, 83)) = true := by decide +kernel
theorem ck114 : okHM ((hX7_spell, 10), (yX7_spell, cX7_spell, 10, none, 9, false, 778, 777, 33, 83)) = true := by decide +kernel
theorem ck115 : okHM ((hX7_isOne, 2), (yX7_isOne, cX7_isOne, 2, (some .boolean), 1, false, 947, 946, 35, 83)) = true := by decide +kernel
theorem ck116 : okHM ((hX7_isCoast, 1), (yX7_isCoast, cX7_isCoast, 1, (some .boolean), 1, true, 950, 949, 0, 83)) = true := by decide +kernel
theorem ck117 : okHM ((hX7_isMark, 1), (yX7_isMark, cX7_isMark, 1, (some .boolean), 1, true, 942, 941, 0, 83)) = true := by decide +kernel
theorem ck118 : okHM ((hX7_isOf, 3), (yX7_isOf, cX7_isOf, 3, (some .boolean), 2, false, 938, 937, 34, 83)) = true := by decide +kernel
theorem ck119 : okHM ((hX7_mostOf, 1), (yX7_mostOf, cX7_mostOf, 1, (some .int), 1, true, 953, 952, 0, 83)) = true := by decide +kernel
theorem ck120 : okHM ((hX7_placeOf, 1), (yX7_placeOf, cX7_placeOf, 1, (some .int), 1, true, 961, 960, 0, 83)) = true := by decide +kernel
theorem ck121 : okHM ((hX7_set, 5), (yX7_set, cX7_set, 5, (some .int), 3, false, 930, 928, 929, 83)) = true := by decide +kernel
theorem ck122 : okHM ((hX7_lays, 4), (yX7_lays, cX7_lays, 4, none, 3, false, 973, 972, 38, 83)) = true := by decide +kernel
theorem ck123 : okHM ((hX7_person, 4), (yX7_person, cX7_person, 4, (some .int), 2, false, 977, 975, 976, 83)) = true := by decide +kernel
theorem ck124 : okHM ((hX7_told, 3), (yX7_told, cX7_told, 3, (some .int), 2, false, 957, 955, 956, 83)) = true := by decide +kernel
theorem ck125 : okHM ((hX7_shoeOf, 4), (yX7_shoeOf, cX7_shoeOf, 4, (some .int), 1, false, 965, 964, 36, 83)) = true := by decide +kernel
theorem ck126 : okHM ((hX7_coastOf, 4), (yX7_coastOf, cX7_coastOf, 4, (some .int), 1, false, 969, 968, 37, 83)) = true := by decide +kernel
theorem ck127 : okHM ((hX7_feed, 2), (yX7_feed, cX7_feed, 2, (some .int), 1, false, 983, 981, 982, 83)) = true := by decide +kernel
theorem ck128 : okHM ((hX7_byteAt, 2), (yX7_byteAt, cX7_byteAt, 2, (some .int), 1, false, 1000, 999, 41, 83)) = true := by decide +kernel
theorem ck129 : okHM ((hX7_next, 3), (yX7_next, cX7_next, 3, none, 0, false, 996, 995, 40, 83)) = true := by decide +kernel
theorem ck130 : okHM ((hX7_fail, 1), (yX7_fail, cX7_fail, 1, none, 0, false, 1021, 1020, 45, 83)) = true := by decide +kernel
theorem ck131 : okHM ((hX7_isLetter, 3), (yX7_isLetter, cX7_isLetter, 3, (some .boolean), 2, false, 1013, 1012, 43, 83)) = true := by decide +kernel
theorem ck132 : okHM ((hX7_isWord, 9), (yX7_isWord, cX7_isWord, 9, (some .boolean), 8, false, 1009, 1008, 42, 83)) = true := by decide +kernel
theorem ck133 : okHM ((hX7_isSign, 2), (yX7_isSign, cX7_isSign, 2, (some .boolean), 1, false, 1053, 1052, 53, 83)) = true := by decide +kernel
theorem ck134 : okHM ((hX7_opens, 1), (yX7_opens, cX7_opens, 1, (some .boolean), 0, false, 1037, 1036, 49, 83)) = true := by decide +kernel
theorem ck135 : okHM ((hX7_name, 1), (yX7_name, cX7_name, 1, (some .int), 0, false, 1057, 1056, 54, 83)) = true := by decide +kernel
theorem ck136 : okHM ((hX7_atom, 2), (yX7_atom, cX7_atom, 2, (some .int), 0, false, 1049, 1048, 52, 83)) = true := by decide +kernel
theorem ck137 : okHM ((hX7_term, 2), (yX7_term, cX7_term, 2, (some .int), 0, false, 1045, 1044, 51, 83)) = true := by decide +kernel
theorem ck138 : okHM ((hX7_added, 4), (yX7_added, cX7_added, 4, (some .int), 0, false, 1041, 1040, 50, 83)) = true := by decide +kernel
theorem ck139 : okHM ((hX7_not, 4), (yX7_not, cX7_not, 4, (some .int), 0, false, 1033, 1032, 48, 83)) = true := by decide +kernel
theorem ck140 : okHM ((hX7_both, 3), (yX7_both, cX7_both, 3, (some .int), 0, false, 1029, 1028, 47, 83)) = true := by decide +kernel
theorem ck141 : okHM ((hX7_either, 3), (yX7_either, cX7_either, 3, (some .int), 0, false, 1025, 1024, 46, 83)) = true := by decide +kernel
theorem ck142 : okHM ((hX7_part, 3), (yX7_part, cX7_part, 3, (some .int), 1, false, 1017, 1016, 44, 83)) = true := by decide +kernel
theorem ck143 : okHM ((hX7_read, 6), (yX7_read, cX7_read, 6, (some .int), 2, false, 992, 991, 39, 83)) = true := by decide +kernel
theorem ck144 : okHM ((hX7_text, 2), (yX7_text, cX7_text, 2, (some .int), 0, false, 988, 986, 987, 83)) = true := by decide +kernel
theorem ck145 : okHM ((hX7_force, 3), (yX7_force, cX7_force, 3, (some .int), 1, false, 1063, 1061, 1062, 83)) = true := by decide +kernel
theorem ck146 : okHM ((hX7_says, 7), (yX7_says, cX7_says, 7, (some .int), 6, false, 1075, 1074, 56, 83)) = true := by decide +kernel
theorem ck147 : okHM ((hX7_takesOf, 8), (yX7_takesOf, cX7_takesOf, 8, (some .int), 3, false, 1071, 1070, 55, 83)) = true := by decide +kernel
theorem ck148 : okHM ((hX7_keepsOf, 6), (yX7_keepsOf, cX7_keepsOf, 6, (some .int), 2, false, 1082, 1081, 57, 83)) = true := by decide +kernel
theorem ck149 : okHM ((hX7_sureOf, 7), (yX7_sureOf, cX7_sureOf, 7, (some .int), 3, false, 1086, 1085, 58, 83)) = true := by decide +kernel
theorem ck150 : okHM ((hX7_asks, 4), (yX7_asks, cX7_asks, 4, (some .int), 3, false, 1067, 1065, 1066, 83)) = true := by decide +kernel
theorem ck151 : okHM ((hX7_stays1, 4), (yX7_stays1, cX7_stays1, 4, none, 2, false, 1094, 1093, 59, 83)) = true := by decide +kernel
theorem ck152 : okHM ((hX7_stay, 3), (yX7_stay, cX7_stay, 3, (some .int), 2, false, 1090, 1088, 1089, 83)) = true := by decide +kernel
theorem ck153 : okHM ((hX7_shake, 4), (yX7_shake, cX7_shake, 4, (some .int), 1, false, 1098, 1096, 1097, 83)) = true := by decide +kernel
theorem ck154 : okHM ((hX7_apart, 6), (yX7_apart, cX7_apart, 6, (some .int), 2, false, 1110, 1109, 61, 83)) = true := by decide +kernel
theorem ck155 : okHM ((hX7_tellsOf, 5), (yX7_tellsOf, cX7_tellsOf, 5, (some .int), 2, false, 1114, 1113, 62, 83)) = true := by decide +kernel
theorem ck156 : okHM ((hX7_areTwo, 3), (yX7_areTwo, cX7_areTwo, 3, (some .boolean), 2, false, 1106, 1105, 60, 83)) = true := by decide +kernel
theorem ck157 : okHM ((hX7_like, 4), (yX7_like, cX7_like, 4, (some .int), 3, false, 1102, 1100, 1101, 83)) = true := by decide +kernel
theorem ck158 : okHM ((hX7_odd, 7), (yX7_odd, cX7_odd, 7, (some .int), 2, false, 1118, 1116, 1117, 83)) = true := by decide +kernel
theorem ck159 : okHM ((hX7_lowest, 11), (yX7_lowest, cX7_lowest, 11, (some .long), 3, true, 1127, 1126, 0, 83)) = true := by decide +kernel
theorem ck160 : okHM ((hX7_mean, 4), (yX7_mean, cX7_mean, 4, (some .long), 3, false, 1123, 1121, 1122, 83)) = true := by decide +kernel
theorem ck161 : okHM ((hX7_tables, 4), (yX7_tables, cX7_tables, 4, none, 1, false, 1139, 1138, 63, 83)) = true := by decide +kernel
theorem ck162 : okHM ((hX7_daysOn, 2), (yX7_daysOn, cX7_daysOn, 2, (some .int), 2, true, 1146, 1145, 0, 83)) = true := by decide +kernel
theorem ck163 : okHM ((hX7_packed, 5), (yX7_packed, cX7_packed, 5, (some .int), 2, false, 1143, 1142, 64, 83)) = true := by decide +kernel
theorem ck164 : okHM ((hX7_wayOf, 4), (yX7_wayOf, cX7_wayOf, 4, (some .int), 1, true, 1134, 1133, 0, 83)) = true := by decide +kernel
theorem ck165 : okHM ((hX7_digitsOf, 3), (yX7_digitsOf, cX7_digitsOf, 3, (some .int), 1, true, 1180, 1179, 0, 83)) = true := by decide +kernel
theorem ck166 : okHM ((hX7_stays, 5), (yX7_stays, cX7_stays, 5, (some .int), 3, false, 1131, 1129, 1130, 83)) = true := by decide +kernel
theorem ck167 : okHM ((hX7_pack, 7), (yX7_pack, cX7_pack, 7, (some .int), 3, false, 1150, 1148, 1149, 83)) = true := by decide +kernel
theorem ck168 : okHM ((hX7_fits, 4), (yX7_fits, cX7_fits, 4, (some .boolean), 2, false, 1171, 1170, 66, 83)) = true := by decide +kernel
theorem ck169 : okHM ((hX7_lengthOf, 3), (yX7_lengthOf, cX7_lengthOf, 3, (some .int), 1, true, 1177, 1176, 0, 83)) = true := by decide +kernel
theorem ck170 : okHM ((hX7_coastsOf, 3), (yX7_coastsOf, cX7_coastsOf, 3, (some .int), 1, true, 1174, 1173, 0, 83)) = true := by decide +kernel
theorem ck171 : okHM ((hX7_looks, 6), (yX7_looks, cX7_looks, 6, none, 2, false, 1167, 1166, 65, 83)) = true := by decide +kernel
theorem ck172 : okHM ((hX7_fit, 4), (yX7_fit, cX7_fit, 4, (some .int), 3, false, 1162, 1160, 1161, 83)) = true := by decide +kernel
theorem ck173 : okHM ((hX7_share, 5), (yX7_share, cX7_share, 5, (some .long), 4, false, 1184, 1182, 1183, 83)) = true := by decide +kernel
theorem ck174 : okHM ((hX7_goes, 9), (yX7_goes, cX7_goes, 9, none, 5, false, 1192, 1191, 67, 83)) = true := by decide +kernel
theorem ck175 : okHM ((hX7_go, 5), (yX7_go, cX7_go, 5, (some .int), 4, false, 1188, 1186, 1187, 83)) = true := by decide +kernel
theorem ck176 : okHM ((hX7_firstOther, 5), (yX7_firstOther, cX7_firstOther, 5, (some .int), 3, false, 1201, 1200, 68, 83)) = true := by decide +kernel
theorem ck177 : okHM ((hX7_coastSet, 5), (yX7_coastSet, cX7_coastSet, 5, (some .int), 2, false, 1205, 1204, 69, 83)) = true := by decide +kernel
theorem ck178 : okHM ((hX7_tells, 12), (yX7_tells, cX7_tells, 12, (some .int), 4, false, 1196, 1194, 1195, 83)) = true := by decide +kernel
theorem ck179 : okHM ((hX7_film, 6), (yX7_film, cX7_film, 6, (some .int), 3, false, 1209, 1207, 1208, 83)) = true := by decide +kernel
theorem ck180 : okHM ((hX7_shoeDrawn, 9), (yX7_shoeDrawn, cX7_shoeDrawn, 9, (some .int), 3, false, 1218, 1217, 70, 83)) = true := by decide +kernel
theorem ck181 : okHM ((hX7_drawn, 4), (yX7_drawn, cX7_drawn, 4, (some .int), 3, false, 1213, 1211, 1212, 83)) = true := by decide +kernel
theorem ck182 : okHM ((hX7_chance, 9), (yX7_chance, cX7_chance, 9, (some .long), 5, false, 1223, 1221, 1222, 83)) = true := by decide +kernel
theorem ck183 : okHM ((hX7_image, 2), (yX7_image, cX7_image, 2, (some .int), 0, false, 1229, 1227, 1228, 83)) = true := by decide +kernel
theorem ck184 : okHM ((hX7_back, 2), (yX7_back, cX7_back, 2, (some .int), 0, false, 1233, 1231, 1232, 83)) = true := by decide +kernel
theorem ck185 : okHM ((hX7_count, 4), (yX7_count, cX7_count, 4, (some .int), 1, false, 1237, 1235, 1236, 83)) = true := by decide +kernel
theorem ck186 : okHM ((hX7_isSheet, 1), (yX7_isSheet, cX7_isSheet, 1, (some .boolean), 1, true, 1153, 1152, 0, 83)) = true := by decide +kernel
theorem ck187 : okHM ((hX7_sheet, 5), (yX7_sheet, cX7_sheet, 5, (some .int), 3, false, 1157, 1155, 1156, 83)) = true := by decide +kernel
theorem ck188 : okHM ((hX7_cell, 4), (yX7_cell, cX7_cell, 4, (some .int), 3, false, 1242, 1240, 1241, 83)) = true := by decide +kernel
theorem ck189 : okHM ((hX7_copy, 9), (yX7_copy, cX7_copy, 9, (some .int), 5, false, 1246, 1244, 1245, 83)) = true := by decide +kernel
theorem ck190 : okHM ((hX7_people, 8), (yX7_people, cX7_people, 8, (some .int), 4, false, 1250, 1248, 1249, 83)) = true := by decide +kernel
theorem ck191 : okHM ((hX7_over, 1), (yX7_over, cX7_over, 1, (some .int), 1, true, 1258, 1257, 0, 83)) = true := by decide +kernel
theorem ck192 : okHM ((hX7_taken, 4), (yX7_taken, cX7_taken, 4, (some .int), 2, false, 1255, 1253, 1254, 83)) = true := by decide +kernel
def ckL : List ((Hd × Nat) × MD) := [((hX0_init, 1), (yX0_init, cX0_init, 1, none, 0, false, 179, 178, 0, 75)),
  ((hX0_search, 4), (yX0_search, cX0_search, 4, none, 2, false, 626, 624, 625, 75)),
  ((hX0_clear, 2), (yX0_clear, cX0_clear, 2, none, 0, false, 630, 629, 20, 75)),
  ((hX0_isInShoe, 3), (yX0_isInShoe, cX0_isInShoe, 3, (some .boolean), 1, false, 634, 633, 21, 75)),
  ((hX0_found, 5), (yX0_found, cX0_found, 5, none, 0, false, 638, 637, 22, 75)),
  ((hX0_stepOn, 3), (yX0_stepOn, cX0_stepOn, 3, none, 1, false, 642, 641, 23, 75)),
  ((hX0_takeUp, 5), (yX0_takeUp, cX0_takeUp, 5, none, 3, false, 646, 645, 24, 75)),
  ((hX1_takes, 4), (yX1_takes, cX1_takes, 4, (some .int), 4, true, 511, 510, 0, 85)),
  ((hX1_takesUnbounded, 4), (yX1_takesUnbounded, cX1_takesUnbounded, 4, (some .int), 4, true, 514, 513, 0, 85)),
  ((hX1_keeps, 3), (yX1_keeps, cX1_keeps, 3, (some .int), 3, true, 492, 491, 0, 85)),
  ((hX1_sure, 3), (yX1_sure, cX1_sure, 3, (some .int), 3, true, 500, 499, 0, 85)),
  ((hX1_isUnder, 2), (yX1_isUnder, cX1_isUnder, 2, (some .boolean), 2, true, 768, 767, 0, 85)),
  ((hX2_init, 1), (yX2_init, cX2_init, 1, none, 0, false, 138, 137, 0, 74)),
  ((hX2_add, 2), (yX2_add, cX2_add, 2, (some .int), 1, false, 298, 296, 297, 74)),
  ((hX2_read, 2), (yX2_read, cX2_read, 2, (some .int), 0, false, 306, 304, 305, 74)),
  ((hX2_readLevel, 6), (yX2_readLevel, cX2_readLevel, 6, (some .boolean), 2, false, 350, 349, 5, 74)),
  ((hX2_readNot, 2), (yX2_readNot, cX2_readNot, 2, (some .boolean), 1, false, 362, 361, 8, 74)),
  ((hX2_readOne, 3), (yX2_readOne, cX2_readOne, 3, (some .boolean), 1, false, 354, 353, 6, 74)),
  ((hX2_levelOf, 1), (yX2_levelOf, cX2_levelOf, 1, (some .int), 1, true, 365, 364, 0, 74)),
  ((hX2_stepOf, 1), (yX2_stepOf, cX2_stepOf, 1, (some .int), 1, true, 368, 367, 0, 74)),
  ((hX2_put, 2), (yX2_put, cX2_put, 2, none, 1, false, 358, 357, 7, 74)),
  ((hX2_next, 1), (yX2_next, cX2_next, 1, none, 0, false, 310, 309, 0, 74)),
  ((hX2_nextWord, 3), (yX2_nextWord, cX2_nextWord, 3, none, 0, false, 318, 317, 2, 74)),
  ((hX2_nextNumber, 1), (yX2_nextNumber, cX2_nextNumber, 1, none, 0, false, 343, 342, 4, 74)),
  ((hX2_isIn, 4), (yX2_isIn, cX2_isIn, 4, (some .boolean), 3, false, 314, 313, 1, 74)),
  ((hX2_isSign, 1), (yX2_isSign, cX2_isSign, 1, (some .boolean), 1, true, 346, 345, 0, 74)),
  ((hX2_isToken, 3), (yX2_isToken, cX2_isToken, 3, (some .boolean), 1, false, 337, 336, 3, 74)),
  ((hX2_wordOf, 1), (yX2_wordOf, cX2_wordOf, 1, (some (.object "java/lang/String")), 1, true, 321, 320, 0, 74)),
  ((hX3_init, 1), (yX3_init, cX3_init, 1, none, 0, false, 227, 226, 0, 77)),
  ((hX3_isSort, 1), (yX3_isSort, cX3_isSort, 1, (some .boolean), 1, true, 740, 739, 0, 77)),
  ((hX3_isMissing, 1), (yX3_isMissing, cX3_isMissing, 1, (some .boolean), 0, false, 618, 616, 617, 77)),
  ((hX3_has, 2), (yX3_has, cX3_has, 2, (some .boolean), 1, false, 748, 746, 747, 77)),
  ((hX3_hasRun, 3), (yX3_hasRun, cX3_hasRun, 3, (some .boolean), 2, false, 756, 754, 755, 77)),
  ((hX3_becomes, 4), (yX3_becomes, cX3_becomes, 4, none, 2, false, 597, 595, 596, 77)),
  ((hX3_put, 3), (yX3_put, cX3_put, 3, none, 2, false, 601, 599, 600, 77)),
  ((hX3_all, 1), (yX3_all, cX3_all, 1, (some .int), 0, false, 605, 603, 604, 77)),
  ((hX4_init, 1), (yX4_init, cX4_init, 1, none, 0, false, 215, 214, 0, 76)),
  ((hX4_becomes, 3), (yX4_becomes, cX4_becomes, 3, none, 2, false, 372, 370, 371, 76)),
  ((hX4_value, 7), (yX4_value, cX4_value, 7, (some .int), 3, false, 480, 478, 479, 76)),
  ((hX4_joined, 3), (yX4_joined, cX4_joined, 3, (some .int), 3, true, 483, 482, 0, 76)),
  ((hX5_init, 1), (yX5_init, cX5_init, 1, none, 0, false, 98, 97, 0, 73)),
  ((hX5_has, 2), (yX5_has, cX5_has, 2, (some .boolean), 1, false, 431, 429, 430, 73)),
  ((hX5_comes, 5), (yX5_comes, cX5_comes, 5, (some .int), 2, false, 456, 454, 455, 73)),
  ((hX5_becomes, 2), (yX5_becomes, cX5_becomes, 2, none, 1, false, 720, 718, 719, 73)),
  ((hX5_allOnCoast, 2), (yX5_allOnCoast, cX5_allOnCoast, 2, (some .int), 1, false, 445, 443, 444, 73)),
  ((hX5_allInShoe, 2), (yX5_allInShoe, cX5_allInShoe, 2, (some .int), 1, false, 435, 433, 434, 73)),
  ((hX5_allInShoes, 1), (yX5_allInShoes, cX5_allInShoes, 1, (some .int), 0, false, 733, 731, 732, 73)),
  ((hX5_apart, 5), (yX5_apart, cX5_apart, 5, (some .int), 2, false, 542, 540, 541, 73)),
  ((hX5_oddest, 5), (yX5_oddest, cX5_oddest, 5, (some .int), 1, false, 562, 560, 561, 73)),
  ((hX5_poorest, 3), (yX5_poorest, cX5_poorest, 3, (some .int), 0, false, 557, 555, 556, 73)),
  ((hX6_init, 2), (yX6_init, cX6_init, 2, none, 0, false, 90, 89, 0, 72)),
  ((hX6_set, 5), (yX6_set, cX6_set, 5, (some .int), 3, false, 417, 415, 416, 72)),
  ((hX6_person, 3), (yX6_person, cX6_person, 3, (some .int), 2, false, 452, 450, 451, 72)),
  ((hX6_told, 3), (yX6_told, cX6_told, 3, (some .int), 2, false, 421, 419, 420, 72)),
  ((hX6_asks, 4), (yX6_asks, cX6_asks, 4, (some .int), 3, false, 461, 459, 460, 72)),
  ((hX6_feed, 2), (yX6_feed, cX6_feed, 2, (some .int), 1, false, 294, 292, 293, 72)),
  ((hX6_text, 2), (yX6_text, cX6_text, 2, (some .int), 0, false, 302, 300, 301, 72)),
  ((hX6_force, 3), (yX6_force, cX6_force, 3, (some .int), 1, false, 521, 519, 520, 72)),
  ((hX6_stay, 5), (yX6_stay, cX6_stay, 5, (some .int), 2, false, 525, 523, 524, 72)),
  ((hX6_shake, 4), (yX6_shake, cX6_shake, 4, (some .int), 1, false, 529, 527, 528, 72)),
  ((hX6_like, 4), (yX6_like, cX6_like, 4, (some .int), 3, false, 534, 532, 533, 72)),
  ((hX6_odd, 4), (yX6_odd, cX6_odd, 4, (some .int), 2, false, 553, 551, 552, 72)),
  ((hX6_mean, 4), (yX6_mean, cX6_mean, 4, (some .long), 3, false, 567, 565, 566, 72)),
  ((hX6_stays, 4), (yX6_stays, cX6_stays, 4, (some .int), 3, false, 578, 576, 577, 72)),
  ((hX6_pack, 6), (yX6_pack, cX6_pack, 6, (some .int), 3, false, 590, 588, 589, 72)),
  ((hX6_fit, 5), (yX6_fit, cX6_fit, 5, (some .int), 3, false, 610, 608, 609, 72)),
  ((hX6_share, 5), (yX6_share, cX6_share, 5, (some .long), 4, false, 650, 648, 649, 72)),
  ((hX6_go, 10), (yX6_go, cX6_go, 10, (some .int), 4, false, 654, 652, 653, 72)),
  ((hX6_tells, 6), (yX6_tells, cX6_tells, 6, (some .int), 4, false, 673, 671, 672, 72)),
  ((hX6_film, 6), (yX6_film, cX6_film, 6, (some .int), 3, false, 693, 691, 692, 72)),
  ((hX6_drawn, 4), (yX6_drawn, cX6_drawn, 4, (some .int), 3, false, 697, 695, 696, 72)),
  ((hX6_chance, 8), (yX6_chance, cX6_chance, 8, (some .long), 5, false, 711, 709, 710, 72)),
  ((hX6_image, 1), (yX6_image, cX6_image, 1, (some .int), 0, false, 716, 714, 715, 72)),
  ((hX6_back, 1), (yX6_back, cX6_back, 1, (some .int), 0, false, 725, 723, 724, 72)),
  ((hX6_count, 2), (yX6_count, cX6_count, 2, (some .int), 1, false, 729, 727, 728, 72)),
  ((hX6_sheet, 4), (yX6_sheet, cX6_sheet, 4, (some .int), 3, false, 737, 735, 736, 72)),
  ((hX6_cell, 5), (yX6_cell, cX6_cell, 5, (some .int), 3, false, 744, 742, 743, 72)),
  ((hX6_copy, 8), (yX6_copy, cX6_copy, 8, (some .int), 5, false, 752, 750, 751, 72)),
  ((hX6_people, 9), (yX6_people, cX6_people, 9, (some .int), 4, false, 760, 758, 759, 72)),
  ((hX6_taken, 3), (yX6_taken, cX6_taken, 3, (some .int), 2, false, 765, 763, 764, 72)),
  ((hX6_isCoast, 1), (yX6_isCoast, cX6_isCoast, 1, (some .boolean), 1, true, 441, 440, 0, 72)),
  ((hX6_isMark, 1), (yX6_isMark, cX6_isMark, 1, (some .boolean), 1, true, 464, 463, 0, 72)),
  ((hX6_isPart, 1), (yX6_isPart, cX6_isPart, 1, (some .boolean), 1, true, 570, 569, 0, 72)),
  ((hX6_isSheet, 1), (yX6_isSheet, cX6_isSheet, 1, (some .boolean), 1, true, 593, 592, 0, 72)),
  ((hX6_areTwo, 3), (yX6_areTwo, cX6_areTwo, 3, (some .boolean), 2, false, 538, 537, 15, 72)),
  ((hX6_isPlace, 2), (yX6_isPlace, cX6_isPlace, 2, (some .boolean), 2, true, 424, 423, 0, 72)),
  ((hX6_placeOf, 1), (yX6_placeOf, cX6_placeOf, 1, (some .int), 1, true, 427, 426, 0, 72)),
  ((hX6_mostOf, 1), (yX6_mostOf, cX6_mostOf, 1, (some .int), 1, true, 448, 447, 0, 72)),
  ((hX6_areStays, 3), (yX6_areStays, cX6_areStays, 3, (some .boolean), 1, true, 581, 580, 0, 72)),
  ((hX6_valueOf, 5), (yX6_valueOf, cX6_valueOf, 5, (some .int), 3, false, 476, 475, 11, 72)),
  ((hX6_nameAll, 7), (yX6_nameAll, cX6_nameAll, 7, none, 6, false, 472, 471, 10, 72)),
  ((hX6_takesOf, 7), (yX6_takesOf, cX6_takesOf, 7, (some .int), 6, false, 508, 507, 14, 72)),
  ((hX6_takesNow, 4), (yX6_takesNow, cX6_takesNow, 4, (some .int), 3, false, 504, 503, 13, 72)),
  ((hX6_keepsOf, 4), (yX6_keepsOf, cX6_keepsOf, 4, (some .int), 2, false, 468, 467, 9, 72)),
  ((hX6_sureOf, 5), (yX6_sureOf, cX6_sureOf, 5, (some .int), 3, false, 497, 496, 12, 72)),
  ((hX6_tellsExaminer, 5), (yX6_tellsExaminer, cX6_tellsExaminer, 5, (some .int), 2, false, 549, 548, 16, 72)),
  ((hX6_tellDailyTakes, 6), (yX6_tellDailyTakes, cX6_tellDailyTakes, 6, none, 1, false, 622, 621, 19, 72)),
  ((hX6_takesByStays, 7), (yX6_takesByStays, cX6_takesByStays, 7, (some .int), 3, false, 586, 585, 17, 72)),
  ((hX6_findFits, 3), (yX6_findFits, cX6_findFits, 3, (some .int), 2, false, 614, 613, 18, 72)),
  ((hX6_neverGoesBack, 6), (yX6_neverGoesBack, cX6_neverGoesBack, 6, (some .boolean), 2, true, 657, 656, 0, 72)),
  ((hX6_digitsOfWay, 6), (yX6_digitsOfWay, cX6_digitsOfWay, 6, (some .int), 2, true, 669, 668, 0, 72)),
  ((hX6_apartAfter, 8), (yX6_apartAfter, cX6_apartAfter, 8, (some .int), 4, false, 661, 660, 25, 72)),
  ((hX6_goInThought, 3), (yX6_goInThought, cX6_goInThought, 3, none, 1, false, 665, 664, 26, 72)),
  ((hX6_allAfterDrawn, 6), (yX6_allAfterDrawn, cX6_allAfterDrawn, 6, (some .int), 3, false, 701, 700, 31, 72)),
  ((hX6_stayInThought, 6), (yX6_stayInThought, cX6_stayInThought, 6, none, 3, false, 706, 705, 32, 72)),
  ((hX6_firstOtherwise, 12), (yX6_firstOtherwise, cX6_firstOtherwise, 12, (some .int), 5, false, 681, 680, 28, 72)),
  ((hX6_bitsThatTell, 8), (yX6_bitsThatTell, cX6_bitsThatTell, 8, (some .int), 5, false, 677, 676, 27, 72)),
  ((hX6_daysThatTell, 6), (yX6_daysThatTell, cX6_daysThatTell, 6, (some .int), 3, false, 685, 684, 29, 72)),
  ((hX6_leastDayThatTells, 5), (yX6_leastDayThatTells, cX6_leastDayThatTells, 5, (some .int), 3, false, 689, 688, 30, 72)),
  ((hX6_sum, 5), (yX6_sum, cX6_sum, 5, (some .int), 3, true, 438, 437, 0, 72)),
  ((hX6_lowestTerms, 7), (yX6_lowestTerms, cX6_lowestTerms, 7, (some .long), 3, true, 574, 573, 0, 72)),
  ((hX7_in, 6), (yX7_in, cX7_in, 6, (some .boolean), 3, true, 934, 933, 0, 83)),
  ((hX7_within, 3), (yX7_within, cX7_within, 3, (some .int), 3, true, 1078, 1077, 0, 83)),
  ((hX7_init, 1), (yX7_init, cX7_init, 1, none, 0, false, 773, 772, 0, 83)),
  ((hX7_spell, 10), (yX7_spell, cX7_spell, 10, none, 9, false, 778, 777, 33, 83)),
  ((hX7_isOne, 2), (yX7_isOne, cX7_isOne, 2, (some .boolean), 1, false, 947, 946, 35, 83)),
  ((hX7_isCoast, 1), (yX7_isCoast, cX7_isCoast, 1, (some .boolean), 1, true, 950, 949, 0, 83)),
  ((hX7_isMark, 1), (yX7_isMark, cX7_isMark, 1, (some .boolean), 1, true, 942, 941, 0, 83)),
  ((hX7_isOf, 3), (yX7_isOf, cX7_isOf, 3, (some .boolean), 2, false, 938, 937, 34, 83)),
  ((hX7_mostOf, 1), (yX7_mostOf, cX7_mostOf, 1, (some .int), 1, true, 953, 952, 0, 83)),
  ((hX7_placeOf, 1), (yX7_placeOf, cX7_placeOf, 1, (some .int), 1, true, 961, 960, 0, 83)),
  ((hX7_set, 5), (yX7_set, cX7_set, 5, (some .int), 3, false, 930, 928, 929, 83)),
  ((hX7_lays, 4), (yX7_lays, cX7_lays, 4, none, 3, false, 973, 972, 38, 83)),
  ((hX7_person, 4), (yX7_person, cX7_person, 4, (some .int), 2, false, 977, 975, 976, 83)),
  ((hX7_told, 3), (yX7_told, cX7_told, 3, (some .int), 2, false, 957, 955, 956, 83)),
  ((hX7_shoeOf, 4), (yX7_shoeOf, cX7_shoeOf, 4, (some .int), 1, false, 965, 964, 36, 83)),
  ((hX7_coastOf, 4), (yX7_coastOf, cX7_coastOf, 4, (some .int), 1, false, 969, 968, 37, 83)),
  ((hX7_feed, 2), (yX7_feed, cX7_feed, 2, (some .int), 1, false, 983, 981, 982, 83)),
  ((hX7_byteAt, 2), (yX7_byteAt, cX7_byteAt, 2, (some .int), 1, false, 1000, 999, 41, 83)),
  ((hX7_next, 3), (yX7_next, cX7_next, 3, none, 0, false, 996, 995, 40, 83)),
  ((hX7_fail, 1), (yX7_fail, cX7_fail, 1, none, 0, false, 1021, 1020, 45, 83)),
  ((hX7_isLetter, 3), (yX7_isLetter, cX7_isLetter, 3, (some .boolean), 2, false, 1013, 1012, 43, 83)),
  ((hX7_isWord, 9), (yX7_isWord, cX7_isWord, 9, (some .boolean), 8, false, 1009, 1008, 42, 83)),
  ((hX7_isSign, 2), (yX7_isSign, cX7_isSign, 2, (some .boolean), 1, false, 1053, 1052, 53, 83)),
  ((hX7_opens, 1), (yX7_opens, cX7_opens, 1, (some .boolean), 0, false, 1037, 1036, 49, 83)),
  ((hX7_name, 1), (yX7_name, cX7_name, 1, (some .int), 0, false, 1057, 1056, 54, 83)),
  ((hX7_atom, 2), (yX7_atom, cX7_atom, 2, (some .int), 0, false, 1049, 1048, 52, 83)),
  ((hX7_term, 2), (yX7_term, cX7_term, 2, (some .int), 0, false, 1045, 1044, 51, 83)),
  ((hX7_added, 4), (yX7_added, cX7_added, 4, (some .int), 0, false, 1041, 1040, 50, 83)),
  ((hX7_not, 4), (yX7_not, cX7_not, 4, (some .int), 0, false, 1033, 1032, 48, 83)),
  ((hX7_both, 3), (yX7_both, cX7_both, 3, (some .int), 0, false, 1029, 1028, 47, 83)),
  ((hX7_either, 3), (yX7_either, cX7_either, 3, (some .int), 0, false, 1025, 1024, 46, 83)),
  ((hX7_part, 3), (yX7_part, cX7_part, 3, (some .int), 1, false, 1017, 1016, 44, 83)),
  ((hX7_read, 6), (yX7_read, cX7_read, 6, (some .int), 2, false, 992, 991, 39, 83)),
  ((hX7_text, 2), (yX7_text, cX7_text, 2, (some .int), 0, false, 988, 986, 987, 83)),
  ((hX7_force, 3), (yX7_force, cX7_force, 3, (some .int), 1, false, 1063, 1061, 1062, 83)),
  ((hX7_says, 7), (yX7_says, cX7_says, 7, (some .int), 6, false, 1075, 1074, 56, 83)),
  ((hX7_takesOf, 8), (yX7_takesOf, cX7_takesOf, 8, (some .int), 3, false, 1071, 1070, 55, 83)),
  ((hX7_keepsOf, 6), (yX7_keepsOf, cX7_keepsOf, 6, (some .int), 2, false, 1082, 1081, 57, 83)),
  ((hX7_sureOf, 7), (yX7_sureOf, cX7_sureOf, 7, (some .int), 3, false, 1086, 1085, 58, 83)),
  ((hX7_asks, 4), (yX7_asks, cX7_asks, 4, (some .int), 3, false, 1067, 1065, 1066, 83)),
  ((hX7_stays1, 4), (yX7_stays1, cX7_stays1, 4, none, 2, false, 1094, 1093, 59, 83)),
  ((hX7_stay, 3), (yX7_stay, cX7_stay, 3, (some .int), 2, false, 1090, 1088, 1089, 83)),
  ((hX7_shake, 4), (yX7_shake, cX7_shake, 4, (some .int), 1, false, 1098, 1096, 1097, 83)),
  ((hX7_apart, 6), (yX7_apart, cX7_apart, 6, (some .int), 2, false, 1110, 1109, 61, 83)),
  ((hX7_tellsOf, 5), (yX7_tellsOf, cX7_tellsOf, 5, (some .int), 2, false, 1114, 1113, 62, 83)),
  ((hX7_areTwo, 3), (yX7_areTwo, cX7_areTwo, 3, (some .boolean), 2, false, 1106, 1105, 60, 83)),
  ((hX7_like, 4), (yX7_like, cX7_like, 4, (some .int), 3, false, 1102, 1100, 1101, 83)),
  ((hX7_odd, 7), (yX7_odd, cX7_odd, 7, (some .int), 2, false, 1118, 1116, 1117, 83)),
  ((hX7_lowest, 11), (yX7_lowest, cX7_lowest, 11, (some .long), 3, true, 1127, 1126, 0, 83)),
  ((hX7_mean, 4), (yX7_mean, cX7_mean, 4, (some .long), 3, false, 1123, 1121, 1122, 83)),
  ((hX7_tables, 4), (yX7_tables, cX7_tables, 4, none, 1, false, 1139, 1138, 63, 83)),
  ((hX7_daysOn, 2), (yX7_daysOn, cX7_daysOn, 2, (some .int), 2, true, 1146, 1145, 0, 83)),
  ((hX7_packed, 5), (yX7_packed, cX7_packed, 5, (some .int), 2, false, 1143, 1142, 64, 83)),
  ((hX7_wayOf, 4), (yX7_wayOf, cX7_wayOf, 4, (some .int), 1, true, 1134, 1133, 0, 83)),
  ((hX7_digitsOf, 3), (yX7_digitsOf, cX7_digitsOf, 3, (some .int), 1, true, 1180, 1179, 0, 83)),
  ((hX7_stays, 5), (yX7_stays, cX7_stays, 5, (some .int), 3, false, 1131, 1129, 1130, 83)),
  ((hX7_pack, 7), (yX7_pack, cX7_pack, 7, (some .int), 3, false, 1150, 1148, 1149, 83)),
  ((hX7_fits, 4), (yX7_fits, cX7_fits, 4, (some .boolean), 2, false, 1171, 1170, 66, 83)),
  ((hX7_lengthOf, 3), (yX7_lengthOf, cX7_lengthOf, 3, (some .int), 1, true, 1177, 1176, 0, 83)),
  ((hX7_coastsOf, 3), (yX7_coastsOf, cX7_coastsOf, 3, (some .int), 1, true, 1174, 1173, 0, 83)),
  ((hX7_looks, 6), (yX7_looks, cX7_looks, 6, none, 2, false, 1167, 1166, 65, 83)),
  ((hX7_fit, 4), (yX7_fit, cX7_fit, 4, (some .int), 3, false, 1162, 1160, 1161, 83)),
  ((hX7_share, 5), (yX7_share, cX7_share, 5, (some .long), 4, false, 1184, 1182, 1183, 83)),
  ((hX7_goes, 9), (yX7_goes, cX7_goes, 9, none, 5, false, 1192, 1191, 67, 83)),
  ((hX7_go, 5), (yX7_go, cX7_go, 5, (some .int), 4, false, 1188, 1186, 1187, 83)),
  ((hX7_firstOther, 5), (yX7_firstOther, cX7_firstOther, 5, (some .int), 3, false, 1201, 1200, 68, 83)),
  ((hX7_coastSet, 5), (yX7_coastSet, cX7_coastSet, 5, (some .int), 2, false, 1205, 1204, 69, 83)),
  ((hX7_tells, 12), (yX7_tells, cX7_tells, 12, (some .int), 4, false, 1196, 1194, 1195, 83)),
  ((hX7_film, 6), (yX7_film, cX7_film, 6, (some .int), 3, false, 1209, 1207, 1208, 83)),
  ((hX7_shoeDrawn, 9), (yX7_shoeDrawn, cX7_shoeDrawn, 9, (some .int), 3, false, 1218, 1217, 70, 83)),
  ((hX7_drawn, 4), (yX7_drawn, cX7_drawn, 4, (some .int), 3, false, 1213, 1211, 1212, 83)),
  ((hX7_chance, 9), (yX7_chance, cX7_chance, 9, (some .long), 5, false, 1223, 1221, 1222, 83)),
  ((hX7_image, 2), (yX7_image, cX7_image, 2, (some .int), 0, false, 1229, 1227, 1228, 83)),
  ((hX7_back, 2), (yX7_back, cX7_back, 2, (some .int), 0, false, 1233, 1231, 1232, 83)),
  ((hX7_count, 4), (yX7_count, cX7_count, 4, (some .int), 1, false, 1237, 1235, 1236, 83)),
  ((hX7_isSheet, 1), (yX7_isSheet, cX7_isSheet, 1, (some .boolean), 1, true, 1153, 1152, 0, 83)),
  ((hX7_sheet, 5), (yX7_sheet, cX7_sheet, 5, (some .int), 3, false, 1157, 1155, 1156, 83)),
  ((hX7_cell, 4), (yX7_cell, cX7_cell, 4, (some .int), 3, false, 1242, 1240, 1241, 83)),
  ((hX7_copy, 9), (yX7_copy, cX7_copy, 9, (some .int), 5, false, 1246, 1244, 1245, 83)),
  ((hX7_people, 8), (yX7_people, cX7_people, 8, (some .int), 4, false, 1250, 1248, 1249, 83)),
  ((hX7_over, 1), (yX7_over, cX7_over, 1, (some .int), 1, true, 1258, 1257, 0, 83)),
  ((hX7_taken, 4), (yX7_taken, cX7_taken, 4, (some .int), 2, false, 1255, 1253, 1254, 83))]
set_option maxRecDepth 20000 in
theorem ckL_zip : mtL.zip mdL = ckL := rfl
theorem ck_all : ∀ x ∈ ckL, okHM x = true := by
  unfold ckL
  refine List.forall_mem_cons.mpr ⟨ck0, ?_⟩
  refine List.forall_mem_cons.mpr ⟨ck1, ?_⟩
  refine List.forall_mem_cons.mpr ⟨ck2, ?_⟩
  refine List.forall_mem_cons.mpr ⟨ck3, ?_⟩
  refine List.forall_mem_cons.mpr ⟨ck4, ?_⟩
  refine List.forall_mem_cons.mpr ⟨ck5, ?_⟩
  refine List.forall_mem_cons.mpr ⟨ck6, ?_⟩
  refine List.forall_mem_cons.mpr ⟨ck7, ?_⟩
  refine List.forall_mem_cons.mpr ⟨ck8, ?_⟩
  refine List.forall_mem_cons.mpr ⟨ck9, ?_⟩
  refine List.forall_mem_cons.mpr ⟨ck10, ?_⟩
  refine List.forall_mem_cons.mpr ⟨ck11, ?_⟩
  refine List.forall_mem_cons.mpr ⟨ck12, ?_⟩
  refine List.forall_mem_cons.mpr ⟨ck13, ?_⟩
  refine List.forall_mem_cons.mpr ⟨ck14, ?_⟩
  refine List.forall_mem_cons.mpr ⟨ck15, ?_⟩
  refine List.forall_mem_cons.mpr ⟨ck16, ?_⟩
  refine List.forall_mem_cons.mpr ⟨ck17, ?_⟩
  refine List.forall_mem_cons.mpr ⟨ck18, ?_⟩
  refine List.forall_mem_cons.mpr ⟨ck19, ?_⟩
  refine List.forall_mem_cons.mpr ⟨ck20, ?_⟩
  refine List.forall_mem_cons.mpr ⟨ck21, ?_⟩
  refine List.forall_mem_cons.mpr ⟨ck22, ?_⟩
  refine List.forall_mem_cons.mpr ⟨ck23, ?_⟩
  refine List.forall_mem_cons.mpr ⟨ck24, ?_⟩
  refine List.forall_mem_cons.mpr ⟨ck25, ?_⟩
  refine List.forall_mem_cons.mpr ⟨ck26, ?_⟩
  refine List.forall_mem_cons.mpr ⟨ck27, ?_⟩
  refine List.forall_mem_cons.mpr ⟨ck28, ?_⟩
  refine List.forall_mem_cons.mpr ⟨ck29, ?_⟩
  refine List.forall_mem_cons.mpr ⟨ck30, ?_⟩
  refine List.forall_mem_cons.mpr ⟨ck31, ?_⟩
  refine List.forall_mem_cons.mpr ⟨ck32, ?_⟩
  refine List.forall_mem_cons.mpr ⟨ck33, ?_⟩
  refine List.forall_mem_cons.mpr ⟨ck34, ?_⟩
  refine List.forall_mem_cons.mpr ⟨ck35, ?_⟩
  refine List.forall_mem_cons.mpr ⟨ck36, ?_⟩
  refine List.forall_mem_cons.mpr ⟨ck37, ?_⟩
  refine List.forall_mem_cons.mpr ⟨ck38, ?_⟩
  refine List.forall_mem_cons.mpr ⟨ck39, ?_⟩
  refine List.forall_mem_cons.mpr ⟨ck40, ?_⟩
  refine List.forall_mem_cons.mpr ⟨ck41, ?_⟩
  refine List.forall_mem_cons.mpr ⟨ck42, ?_⟩
  refine List.forall_mem_cons.mpr ⟨ck43, ?_⟩
  refine List.forall_mem_cons.mpr ⟨ck44, ?_⟩
  refine List.forall_mem_cons.mpr ⟨ck45, ?_⟩
  refine List.forall_mem_cons.mpr ⟨ck46, ?_⟩
  refine List.forall_mem_cons.mpr ⟨ck47, ?_⟩
  refine List.forall_mem_cons.mpr ⟨ck48, ?_⟩
  refine List.forall_mem_cons.mpr ⟨ck49, ?_⟩
  refine List.forall_mem_cons.mpr ⟨ck50, ?_⟩
  refine List.forall_mem_cons.mpr ⟨ck51, ?_⟩
  refine List.forall_mem_cons.mpr ⟨ck52, ?_⟩
  refine List.forall_mem_cons.mpr ⟨ck53, ?_⟩
  refine List.forall_mem_cons.mpr ⟨ck54, ?_⟩
  refine List.forall_mem_cons.mpr ⟨ck55, ?_⟩
  refine List.forall_mem_cons.mpr ⟨ck56, ?_⟩
  refine List.forall_mem_cons.mpr ⟨ck57, ?_⟩
  refine List.forall_mem_cons.mpr ⟨ck58, ?_⟩
  refine List.forall_mem_cons.mpr ⟨ck59, ?_⟩
  refine List.forall_mem_cons.mpr ⟨ck60, ?_⟩
  refine List.forall_mem_cons.mpr ⟨ck61, ?_⟩
  refine List.forall_mem_cons.mpr ⟨ck62, ?_⟩
  refine List.forall_mem_cons.mpr ⟨ck63, ?_⟩
  refine List.forall_mem_cons.mpr ⟨ck64, ?_⟩
  refine List.forall_mem_cons.mpr ⟨ck65, ?_⟩
  refine List.forall_mem_cons.mpr ⟨ck66, ?_⟩
  refine List.forall_mem_cons.mpr ⟨ck67, ?_⟩
  refine List.forall_mem_cons.mpr ⟨ck68, ?_⟩
  refine List.forall_mem_cons.mpr ⟨ck69, ?_⟩
  refine List.forall_mem_cons.mpr ⟨ck70, ?_⟩
  refine List.forall_mem_cons.mpr ⟨ck71, ?_⟩
  refine List.forall_mem_cons.mpr ⟨ck72, ?_⟩
  refine List.forall_mem_cons.mpr ⟨ck73, ?_⟩
  refine List.forall_mem_cons.mpr ⟨ck74, ?_⟩
  refine List.forall_mem_cons.mpr ⟨ck75, ?_⟩
  refine List.forall_mem_cons.mpr ⟨ck76, ?_⟩
  refine List.forall_mem_cons.mpr ⟨ck77, ?_⟩
  refine List.forall_mem_cons.mpr ⟨ck78, ?_⟩
  refine List.forall_mem_cons.mpr ⟨ck79, ?_⟩
  refine List.forall_mem_cons.mpr ⟨ck80, ?_⟩
  refine List.forall_mem_cons.mpr ⟨ck81, ?_⟩
  refine List.forall_mem_cons.mpr ⟨ck82, ?_⟩
  refine List.forall_mem_cons.mpr ⟨ck83, ?_⟩
  refine List.forall_mem_cons.mpr ⟨ck84, ?_⟩
  refine List.forall_mem_cons.mpr ⟨ck85, ?_⟩
  refine List.forall_mem_cons.mpr ⟨ck86, ?_⟩
  refine List.forall_mem_cons.mpr ⟨ck87, ?_⟩
  refine List.forall_mem_cons.mpr ⟨ck88, ?_⟩
  refine List.forall_mem_cons.mpr ⟨ck89, ?_⟩
  refine List.forall_mem_cons.mpr ⟨ck90, ?_⟩
  refine List.forall_mem_cons.mpr ⟨ck91, ?_⟩
  refine List.forall_mem_cons.mpr ⟨ck92, ?_⟩
  refine List.forall_mem_cons.mpr ⟨ck93, ?_⟩
  refine List.forall_mem_cons.mpr ⟨ck94, ?_⟩
  refine List.forall_mem_cons.mpr ⟨ck95, ?_⟩
  refine List.forall_mem_cons.mpr ⟨ck96, ?_⟩
  refine List.forall_mem_cons.mpr ⟨ck97, ?_⟩
  refine List.forall_mem_cons.mpr ⟨ck98, ?_⟩
  refine List.forall_mem_cons.mpr ⟨ck99, ?_⟩
  refine List.forall_mem_cons.mpr ⟨ck100, ?_⟩
  refine List.forall_mem_cons.mpr ⟨ck101, ?_⟩
  refine List.forall_mem_cons.mpr ⟨ck102, ?_⟩
  refine List.forall_mem_cons.mpr ⟨ck103, ?_⟩
  refine List.forall_mem_cons.mpr ⟨ck104, ?_⟩
  refine List.forall_mem_cons.mpr ⟨ck105, ?_⟩
  refine List.forall_mem_cons.mpr ⟨ck106, ?_⟩
  refine List.forall_mem_cons.mpr ⟨ck107, ?_⟩
  refine List.forall_mem_cons.mpr ⟨ck108, ?_⟩
  refine List.forall_mem_cons.mpr ⟨ck109, ?_⟩
  refine List.forall_mem_cons.mpr ⟨ck110, ?_⟩
  refine List.forall_mem_cons.mpr ⟨ck111, ?_⟩
  refine List.forall_mem_cons.mpr ⟨ck112, ?_⟩
  refine List.forall_mem_cons.mpr ⟨ck113, ?_⟩
  refine List.forall_mem_cons.mpr ⟨ck114, ?_⟩
  refine List.forall_mem_cons.mpr ⟨ck115, ?_⟩
  refine List.forall_mem_cons.mpr ⟨ck116, ?_⟩
  refine List.forall_mem_cons.mpr ⟨ck117, ?_⟩
  refine List.forall_mem_cons.mpr ⟨ck118, ?_⟩
  refine List.forall_mem_cons.mpr ⟨ck119, ?_⟩
  refine List.forall_mem_cons.mpr ⟨ck120, ?_⟩
  refine List.forall_mem_cons.mpr ⟨ck121, ?_⟩
  refine List.forall_mem_cons.mpr ⟨ck122, ?_⟩
  refine List.forall_mem_cons.mpr ⟨ck123, ?_⟩
  refine List.forall_mem_cons.mpr ⟨ck124, ?_⟩
  refine List.forall_mem_cons.mpr ⟨ck125, ?_⟩
  refine List.forall_mem_cons.mpr ⟨ck126, ?_⟩
  refine List.forall_mem_cons.mpr ⟨ck127, ?_⟩
  refine List.forall_mem_cons.mpr ⟨ck128, ?_⟩
  refine List.forall_mem_cons.mpr ⟨ck129, ?_⟩
  refine List.forall_mem_cons.mpr ⟨ck130, ?_⟩
  refine List.forall_mem_cons.mpr ⟨ck131, ?_⟩
  refine List.forall_mem_cons.mpr ⟨ck132, ?_⟩
  refine List.forall_mem_cons.mpr ⟨ck133, ?_⟩
  refine List.forall_mem_cons.mpr ⟨ck134, ?_⟩
  refine List.forall_mem_cons.mpr ⟨ck135, ?_⟩
  refine List.forall_mem_cons.mpr ⟨ck136, ?_⟩
  refine List.forall_mem_cons.mpr ⟨ck137, ?_⟩
  refine List.forall_mem_cons.mpr ⟨ck138, ?_⟩
  refine List.forall_mem_cons.mpr ⟨ck139, ?_⟩
  refine List.forall_mem_cons.mpr ⟨ck140, ?_⟩
  refine List.forall_mem_cons.mpr ⟨ck141, ?_⟩
  refine List.forall_mem_cons.mpr ⟨ck142, ?_⟩
  refine List.forall_mem_cons.mpr ⟨ck143, ?_⟩
  refine List.forall_mem_cons.mpr ⟨ck144, ?_⟩
  refine List.forall_mem_cons.mpr ⟨ck145, ?_⟩
  refine List.forall_mem_cons.mpr ⟨ck146, ?_⟩
  refine List.forall_mem_cons.mpr ⟨ck147, ?_⟩
  refine List.forall_mem_cons.mpr ⟨ck148, ?_⟩
  refine List.forall_mem_cons.mpr ⟨ck149, ?_⟩
  refine List.forall_mem_cons.mpr ⟨ck150, ?_⟩
  refine List.forall_mem_cons.mpr ⟨ck151, ?_⟩
  refine List.forall_mem_cons.mpr ⟨ck152, ?_⟩
  refine List.forall_mem_cons.mpr ⟨ck153, ?_⟩
  refine List.forall_mem_cons.mpr ⟨ck154, ?_⟩
  refine List.forall_mem_cons.mpr ⟨ck155, ?_⟩
  refine List.forall_mem_cons.mpr ⟨ck156, ?_⟩
  refine List.forall_mem_cons.mpr ⟨ck157, ?_⟩
  refine List.forall_mem_cons.mpr ⟨ck158, ?_⟩
  refine List.forall_mem_cons.mpr ⟨ck159, ?_⟩
  refine List.forall_mem_cons.mpr ⟨ck160, ?_⟩
  refine List.forall_mem_cons.mpr ⟨ck161, ?_⟩
  refine List.forall_mem_cons.mpr ⟨ck162, ?_⟩
  refine List.forall_mem_cons.mpr ⟨ck163, ?_⟩
  refine List.forall_mem_cons.mpr ⟨ck164, ?_⟩
  refine List.forall_mem_cons.mpr ⟨ck165, ?_⟩
  refine List.forall_mem_cons.mpr ⟨ck166, ?_⟩
  refine List.forall_mem_cons.mpr ⟨ck167, ?_⟩
  refine List.forall_mem_cons.mpr ⟨ck168, ?_⟩
  refine List.forall_mem_cons.mpr ⟨ck169, ?_⟩
  refine List.forall_mem_cons.mpr ⟨ck170, ?_⟩
  refine List.forall_mem_cons.mpr ⟨ck171, ?_⟩
  refine List.forall_mem_cons.mpr ⟨ck172, ?_⟩
  refine List.forall_mem_cons.mpr ⟨ck173, ?_⟩
  refine List.forall_mem_cons.mpr ⟨ck174, ?_⟩
  refine List.forall_mem_cons.mpr ⟨ck175, ?_⟩
  refine List.forall_mem_cons.mpr ⟨ck176, ?_⟩
  refine List.forall_mem_cons.mpr ⟨ck177, ?_⟩
  refine List.forall_mem_cons.mpr ⟨ck178, ?_⟩
  refine List.forall_mem_cons.mpr ⟨ck179, ?_⟩
  refine List.forall_mem_cons.mpr ⟨ck180, ?_⟩
  refine List.forall_mem_cons.mpr ⟨ck181, ?_⟩
  refine List.forall_mem_cons.mpr ⟨ck182, ?_⟩
  refine List.forall_mem_cons.mpr ⟨ck183, ?_⟩
  refine List.forall_mem_cons.mpr ⟨ck184, ?_⟩
  refine List.forall_mem_cons.mpr ⟨ck185, ?_⟩
  refine List.forall_mem_cons.mpr ⟨ck186, ?_⟩
  refine List.forall_mem_cons.mpr ⟨ck187, ?_⟩
  refine List.forall_mem_cons.mpr ⟨ck188, ?_⟩
  refine List.forall_mem_cons.mpr ⟨ck189, ?_⟩
  refine List.forall_mem_cons.mpr ⟨ck190, ?_⟩
  refine List.forall_mem_cons.mpr ⟨ck191, ?_⟩
  refine List.forall_mem_cons.mpr ⟨ck192, ?_⟩
  exact fun _ h => absurd h List.not_mem_nil
set_option maxRecDepth 20000 in
theorem mt_md {y : Nat} {hm : Hd × Nat} (h : mtL[y]? = some hm) : ∃ q, mdL[y]? = some q ∧ okHM (hm, q) = true := by
  have hl : mtL.length = mdL.length := rfl
  have hy : y < mtL.length := (List.getElem?_eq_some_iff.mp h).1
  have hq : mdL[y]? = some (mdL[y]'(hl ▸ hy)) := List.getElem?_eq_getElem _
  refine ⟨_, hq, ck_all _ ?_⟩
  rw [← ckL_zip]
  refine List.mem_of_getElem? (i := y) ?_
  rw [List.getElem?_zip_eq_some]
  exact ⟨h, hq⟩
end
section
/-! the law's own code, piece by piece -/
theorem all_pieces {p : Nat × En → Bool} (l : List (Nat × En)) (n m : Nat) (hn : 0 < n) (hl : l.length ≤ n * m) (h : ∀ k, k < m → ((l.drop (n * k)).take n).all p = true) : l.all p = true := by
  rw [List.all_eq_true]
  intro x hx
  obtain ⟨i, hi, rfl⟩ := List.getElem_of_mem hx
  have hk : i / n < m := Nat.div_lt_of_lt_mul (Nat.lt_of_lt_of_le hi hl)
  refine List.all_eq_true.mp (h (i / n) hk) _ (List.mem_of_getElem? (i := i % n) ?_)
  rw [List.getElem?_take, if_pos (Nat.mod_lt _ hn), List.getElem?_drop, Nat.div_add_mod, List.getElem?_eq_getElem hi]
theorem ckW0 : ((tL_law.drop (50 * 0)).take 50).all (fun pe => okD cL_law pe && okI RL pe.1 pe.2) = true := by decide +kernel
theorem ckW1 : ((tL_law.drop (50 * 1)).take 50).all (fun pe => okD cL_law pe && okI RL pe.1 pe.2) = true := by decide +kernel
theorem ckW2 : ((tL_law.drop (50 * 2)).take 50).all (fun pe => okD cL_law pe && okI RL pe.1 pe.2) = true := by decide +kernel
theorem ckW3 : ((tL_law.drop (50 * 3)).take 50).all (fun pe => okD cL_law pe && okI RL pe.1 pe.2) = true := by decide +kernel
theorem ckW4 : ((tL_law.drop (50 * 4)).take 50).all (fun pe => okD cL_law pe && okI RL pe.1 pe.2) = true := by decide +kernel
theorem ckW5 : ((tL_law.drop (50 * 5)).take 50).all (fun pe => okD cL_law pe && okI RL pe.1 pe.2) = true := by decide +kernel
theorem ckW6 : ((tL_law.drop (50 * 6)).take 50).all (fun pe => okD cL_law pe && okI RL pe.1 pe.2) = true := by decide +kernel
theorem ckW7 : ((tL_law.drop (50 * 7)).take 50).all (fun pe => okD cL_law pe && okI RL pe.1 pe.2) = true := by decide +kernel
theorem ckW8 : ((tL_law.drop (50 * 8)).take 50).all (fun pe => okD cL_law pe && okI RL pe.1 pe.2) = true := by decide +kernel
theorem ckW9 : ((tL_law.drop (50 * 9)).take 50).all (fun pe => okD cL_law pe && okI RL pe.1 pe.2) = true := by decide +kernel
theorem ckW10 : ((tL_law.drop (50 * 10)).take 50).all (fun pe => okD cL_law pe && okI RL pe.1 pe.2) = true := by decide +kernel
theorem ckW11 : ((tL_law.drop (50 * 11)).take 50).all (fun pe => okD cL_law pe && okI RL pe.1 pe.2) = true := by decide +kernel
theorem ckW12 : ((tL_law.drop (50 * 12)).take 50).all (fun pe => okD cL_law pe && okI RL pe.1 pe.2) = true := by decide +kernel
theorem ckW13 : ((tL_law.drop (50 * 13)).take 50).all (fun pe => okD cL_law pe && okI RL pe.1 pe.2) = true := by decide +kernel
theorem ckW14 : ((tL_law.drop (50 * 14)).take 50).all (fun pe => okD cL_law pe && okI RL pe.1 pe.2) = true := by decide +kernel
theorem ckW15 : ((tL_law.drop (50 * 15)).take 50).all (fun pe => okD cL_law pe && okI RL pe.1 pe.2) = true := by decide +kernel
theorem ckW16 : ((tL_law.drop (50 * 16)).take 50).all (fun pe => okD cL_law pe && okI RL pe.1 pe.2) = true := by decide +kernel
theorem ckW17 : ((tL_law.drop (50 * 17)).take 50).all (fun pe => okD cL_law pe && okI RL pe.1 pe.2) = true := by decide +kernel
theorem ckW18 : ((tL_law.drop (50 * 18)).take 50).all (fun pe => okD cL_law pe && okI RL pe.1 pe.2) = true := by decide +kernel
theorem ckW19 : ((tL_law.drop (50 * 19)).take 50).all (fun pe => okD cL_law pe && okI RL pe.1 pe.2) = true := by decide +kernel
theorem ckLaw : okTbl hL_law cL_law RL = true := by
  refine all_pieces tL_law 50 20 (by decide) (by decide +kernel) ?_
  intro k hk
  match k, hk with
  | 0, _ => exact ckW0
  | 1, _ => exact ckW1
  | 2, _ => exact ckW2
  | 3, _ => exact ckW3
  | 4, _ => exact ckW4
  | 5, _ => exact ckW5
  | 6, _ => exact ckW6
  | 7, _ => exact ckW7
  | 8, _ => exact ckW8
  | 9, _ => exact ckW9
  | 10, _ => exact ckW10
  | 11, _ => exact ckW11
  | 12, _ => exact ckW12
  | 13, _ => exact ckW13
  | 14, _ => exact ckW14
  | 15, _ => exact ckW15
  | 16, _ => exact ckW16
  | 17, _ => exact ckW17
  | 18, _ => exact ckW18
  | 19, _ => exact ckW19
  | n + 20, h => exact absurd h (by omega)
end
section
/-! soundness: what the small machine's run of a method says, the machine does -/
theorem lk_mem : ∀ (t : List (Nat × En)) (pc : Nat) {e : En}, nLk t pc = some e → (pc, e) ∈ t
  | [], _, _, h => by cases h
  | (p, e0) :: t, pc, e, h => by
    rw [nLk] at h
    cases hb : Nat.beq p pc
    · rw [hb] at h
      exact List.mem_cons_of_mem _ (lk_mem t pc h)
    · rw [hb] at h
      have h := Option.some.inj h
      rw [← h, Nat.eq_of_beq_eq_true hb]
      exact List.mem_cons_self
theorem lay_len (E : EnvT) : ∀ av : List AV, (lg_sl (av.map (cV E))).length = (nLay av).length
  | [] => rfl
  | v :: l => by
    have ih := lay_len E l
    unfold lg_sl at ih ⊢
    rw [List.map_cons, List.flatMap_cons, List.length_append, ih]
    rcases v with x | x | ⟨k, i⟩
    · show 1 + _ = _ + 1
      omega
    · show 2 + _ = _ + 1 + 1
      omega
    · show 1 + _ = _ + 1
      omega
theorem lay_asc (E : EnvT) : ∀ (av : List AV) (i : Nat), ∀ q ∈ asc E i (nLay av), q ∈ lv_args i (av.map (cV E))
  | [], _ => fun _ h => h
  | v :: l, i => by
    intro q hq
    rcases v with x | x | ⟨k, j⟩
    · have hq : q ∈ (i, cV E (.inl x)) :: asc E (i + 1) (nLay l) := hq
      show q ∈ (i, cV E (.inl x)) :: lv_args (i + 1) (l.map (cV E))
      rcases List.mem_cons.mp hq with h | h
      · exact List.mem_cons.mpr (Or.inl h)
      · exact List.mem_cons_of_mem _ (lay_asc E l (i + 1) q h)
    · have hq : q ∈ (i, cV E (.inr (.inl x))) :: asc E (i + 1 + 1) (nLay l) := hq
      show q ∈ (i, cV E (.inr (.inl x))) :: lv_args (i + 2) (l.map (cV E))
      rcases List.mem_cons.mp hq with h | h
      · exact List.mem_cons.mpr (Or.inl h)
      · exact List.mem_cons_of_mem _ (lay_asc E l (i + 1 + 1) q h)
    · show q ∈ (i, cV E (.inr (.inr (k, j)))) :: lv_args (i + 1) (l.map (cV E))
      rcases k with _ | k
      · exact List.mem_cons_of_mem _ (lay_asc E l (i + 1) q hq)
      · have hq : q ∈ (i, cV E (.inr (.inr (k + 1, j)))) :: asc E (i + 1) (nLay l) := hq
        rcases List.mem_cons.mp hq with h | h
        · exact List.mem_cons.mpr (Or.inl h)
        · exact List.mem_cons_of_mem _ (lay_asc E l (i + 1) q h)
theorem pad_asc (E : EnvT) : ∀ (n : Nat) (l : List AV) (i : Nat), ∀ q ∈ asc E i (nPad n l), q ∈ asc E i l
  | 0, _, _ => fun _ h => by cases h
  | n + 1, [], i => by
    intro q hq
    have hq : q ∈ asc E (i + 1) (nPad n []) := hq
    exact absurd (pad_asc E n [] (i + 1) q hq) List.not_mem_nil
  | n + 1, a :: l, i => by
    intro q hq
    have ih := pad_asc E n l (i + 1)
    rw [nPad] at hq
    unfold asc at hq ⊢
    cases ha : isX a
    · rw [ha] at hq
      rcases List.mem_cons.mp hq with h | h
      · exact List.mem_cons.mpr (Or.inl h)
      · exact List.mem_cons_of_mem _ (ih q h)
    · rw [ha] at hq
      exact ih q hq
theorem pad_len : ∀ (n : Nat) (l : List AV), (nPad n l).length = n
  | 0, _ => rfl
  | n + 1, [] => congrArg (· + 1) (pad_len n [])
  | n + 1, _ :: l => congrArg (· + 1) (pad_len n l)
theorem lay_ok {t : Nat} : ∀ {av : List AV}, (∀ v ∈ av, okV t v) → ∀ v ∈ nLay av, okV t v
  | [], h => h
  | a :: l, h => by
    have ih := lay_ok (okl_tl h)
    have ha := okl_hd h
    unfold nLay
    cases nIsL a
    · exact okl_cons ha ih
    · exact okl_cons ha (okl_cons (Or.inl rfl) ih)
theorem pad_ok {t : Nat} : ∀ (n : Nat) {l : List AV}, (∀ v ∈ l, okV t v) → ∀ v ∈ nPad n l, okV t v
  | 0, _, _ => fun _ h => by cases h
  | n + 1, [], h => okl_cons (Or.inl rfl) (pad_ok n h)
  | n + 1, _ :: _, h => okl_cons (okl_hd h) (pad_ok n (okl_tl h))
theorem LH_start (E : EnvT) {av : List AV} {n : Nat} {lsC : Array Slot} (h : lv_has lsC n (lv_args 0 (av.map (cV E)))) : LH E n lsC (nPad n (nLay av)) :=
  ⟨has_mono h (fun q hq => lay_asc E av 0 q (pad_asc E n _ 0 q hq)), pad_len n _⟩
section
variable {E : EnvT} {X : Nat × (Nat → Int32)} {nL : Nat} {s0 : Mem} {p : Program} {l : Launch} {e : Env} {R : Room} {s : State} {m : MethodId} {args : Array Value} {below : List Frame} {meth : Method} {c : Code} {cc : ByteArray} {oC : String} {ini : Bool} {pc : Nat} {ls st : List AV} {σ : Mem} {r : Res} {d : Nat} {cal : Cal} {Qc : Array Value → State → Outcome → State → Prop}
theorem sim_ret {rt want : Nat} {ret : Option FieldType} (hC : Ctx E X p R s m args meth c cc nL oC ini) (hr : meth.sig.returnType = ret) (hrt : rtB rt ret = true) (hlocks : meth.locks = false)
    (hQ : ∀ t : State, WD E r.2 t.heap → va_F (aF E) s t → (∀ v, r.1 = some v → okV (nT r.2) v) → Qc args s (.returned (r.1.map (cV E))) t)
    (hd : decode cc pc = .ok (rIns want, 1)) (hK : pRet rt want st σ = some r) : Wf E nL s0 p l e R s m args below meth c (MQ below Qc args s (nT r.2 - nT s0) (nU r.2 - nU s0) (aF E)) pc ls st σ := by
  intro h1 h2 h3 H locs lsC hW hL hS
  have hF : ∀ t : State, t.heap = H → va_F (aF E) s t := fun t ht => ⟨by rw [ht]; exact hS.1, fun q q1 q2 => by rw [ht]; exact hS.2.1 q q1 q2⟩
  unfold pRet at hK
  rcases st with _ | ⟨x | x | ⟨k, i⟩, _ | ⟨y, rr⟩⟩
  all_goals dsimp only at hK
  all_goals try (cases hK; done)
  · cases hb : (rt == 0 && want == 0)
    · rw [hb] at hK; cases hK
    rw [hb] at hK
    rw [Bool.and_eq_true] at hb
    cases hK
    have e1 : rt = 0 := eq_of_beq hb.1
    have e2 : want = 0 := eq_of_beq hb.2
    subst e1 e2
    rcases ret with _ | ret
    · exact W.vret hC.1 hC.2.1 hr (fun t ht _ => hQ t (by rw [ht]; exact hW) (hF t ht) (fun v hv => by cases hv)) hS.2.2 hd hlocks
    · cases hrt
  · cases hb : (want == 1)
    · rw [hb] at hK; cases hK
    rw [hb] at hK
    rw [cond_true] at hK
    have e2 : want = 1 := eq_of_beq hb
    subst e2
    split at hK
    · cases hK
      rcases ret with _ | ret
      · cases hrt
      · cases ret
        case int => exact W.iret hC.1 hC.2.1 hr (fun t ht _ => hQ t (by rw [ht]; exact hW) (hF t ht) (fun v hv => by cases hv; trivial)) hS.2.2 hd hlocks
        all_goals cases hrt
    · cases hb2 : nIsb x
      · rw [hb2] at hK; cases hK
      rw [hb2] at hK
      cases hK
      rcases ret with _ | ret
      · cases hrt
      · cases ret
        case boolean =>
          refine W.zret hC.1 hC.2.1 hr ?_ (fun t ht _ => hQ t (by rw [ht]; exact hW) (hF t ht) (fun v hv => by cases hv; trivial)) hS.2.2 hd hlocks
          unfold nIsb at hb2
          rw [Bool.or_eq_true, beq_iff_eq, beq_iff_eq] at hb2
          rcases hb2 with rfl | rfl <;> rfl
        all_goals cases hrt
    · cases hK
  · cases hb : (rt == 3 && want == 2)
    · rw [hb] at hK; cases hK
    rw [hb] at hK
    rw [Bool.and_eq_true] at hb
    cases hK
    have e1 : rt = 3 := eq_of_beq hb.1
    have e2 : want = 2 := eq_of_beq hb.2
    subst e1 e2
    rcases ret with _ | ret
    · cases hrt
    · cases ret
      case long => exact W.lret hC.1 hC.2.1 hr (fun t ht _ => hQ t (by rw [ht]; exact hW) (hF t ht) (fun v hv => by cases hv; trivial)) hS.2.2 hd hlocks
      all_goals cases hrt
  · cases hb : (rt == 4 && (want == 3 && Nat.blt 0 k))
    · rw [hb] at hK; cases hK
    rw [hb] at hK
    rw [Bool.and_eq_true, Bool.and_eq_true] at hb
    cases hK
    have e1 : rt = 4 := eq_of_beq hb.1
    have e2 : want = 3 := eq_of_beq hb.2.1
    subst e1 e2
    rcases ret with _ | ret
    · cases hrt
    · cases ret
      case object nm => exact W.aret hC.1 hC.2.1 hr (Or.inl ⟨nm, rfl⟩) (Or.inr ⟨_, rfl⟩) (fun t ht _ => hQ t (by rw [ht]; exact hW) (hF t ht) (fun v hv => by cases hv; exact okl_hd h2)) hS.2.2 hd hlocks
      case array nm => exact W.aret hC.1 hC.2.1 hr (Or.inr ⟨nm, rfl⟩) (Or.inr ⟨_, rfl⟩) (fun t ht _ => hQ t (by rw [ht]; exact hW) (hF t ht) (fun v hv => by cases hv; exact okl_hd h2)) hS.2.2 hd hlocks
      all_goals cases hrt
theorem Wf_run {h : Hd} {ret : Option FieldType} (hC : Ctx E X p R s m args meth c cc nL oC h.2.2.1) (hs0 : s.heap.size = E.1.1 + nT s0) (hR : d + 9 ≤ R.frames ∧ 64 * d + 576 ≤ R.locals) (hcal : Snd E X l d cal) (hmono : ∀ y a s v, cal y a s = some v → leM s v.2)
    (hown : h.2.1 = 0 ∨ oC = RC h.2.1) (htb : okTbl h cc oC = true) (hr : meth.sig.returnType = ret) (hrt : rtB h.2.2.2 ret = true) (hlocks : meth.locks = false) (hmc : nT r.2 ≤ nT s0 + R.cells ∧ nU r.2 ≤ nU s0 + R.slots)
    (hQ : ∀ t : State, WD E r.2 t.heap → va_F (aF E) s t → (∀ v, r.1 = some v → okV (nT r.2) v) → Qc args s (.returned (r.1.map (cV E))) t) : ∀ (n pc : Nat) (ls st : List AV) (σ : Mem), nRun X cal h n pc ls st σ = some r → Wf E nL s0 p l e R s m args below meth c (MQ below Qc args s (nT r.2 - nT s0) (nU r.2 - nU s0) (aF E)) pc ls st σ := by
  intro n
  induction n with
  | zero => intro pc ls st σ q; cases q
  | succ n ih =>
    intro pc ls st σ q
    rw [nRun_succ] at q
    unfold nStep at q
    rcases hl : nLk h.1 pc with _ | ent
    · rw [hl] at q; cases q
    rw [hl] at q
    dsimp only at q
    have hm := List.all_eq_true.mp htb _ (lk_mem _ _ hl)
    rw [Bool.and_eq_true] at hm
    obtain ⟨len, hd, hlen⟩ := okD_at hm.1
    refine sim_stepI hC hs0 hR hcal ?_ hd hlen hm.2 (fun want hd2 hp => sim_ret hC hr hrt hlocks hQ hd2 hp) q ih ?_
    · intro cn e1 e2
      rcases hown with h0 | h0
      · omega
      · rw [← e1]; exact h0
    · intro pc2 ls2 st2 σ2 q2
      have := MG_run hmono h n _ _ _ _ _ q2
      exact ⟨Nat.le_trans this.1 hmc.1, Nat.le_trans this.2 hmc.2⟩
end
theorem callN_mono (X : Nat × (Nat → Int32)) : ∀ (d y : Nat) (a : List AV) (s : Mem) (v : Res), callN X d y a s = some v → leM s v.2 := by
  intro d
  induction d with
  | zero => intro y a s v h; cases h
  | succ d ih =>
    intro y a s v h
    unfold callN at h
    rcases hm : mtL[y]? with _ | ⟨hh, ml⟩
    · rw [hm] at h; cases h
    rw [hm] at h
    dsimp only at h
    cases hb : Nat.ble (nLay a).length ml
    · rw [hb] at h; cases h
    rw [hb] at h
    exact MG_R ih hh h
theorem snd_callN (E : EnvT) (X : Nat × (Nat → Int32)) (l : Launch) : ∀ d : Nat, Snd E X l d (callN X d) := by
  intro d
  induction d with
  | zero => intro y av σ r h; cases h
  | succ d ih =>
    intro y av σ r h hok hA
    have hle := callN_mono X (d + 1) y av σ r h
    unfold callN at h
    rcases hm : mtL[y]? with _ | ⟨hh, ml⟩
    · rw [hm] at h; cases h
    rw [hm] at h
    dsimp only at h
    cases hb : Nat.ble (nLay av).length ml
    · rw [hb] at h; cases h
    rw [hb] at h
    rw [cond_true] at h
    obtain ⟨q, hq, hck⟩ := mt_md hm
    have hM := okM_at hq
    obtain ⟨y2, bc, ml2, ret, n, stt, xx⟩ := q
    obtain ⟨b1, b2, b3, b4, b5, b6, b7, b8⟩ := hM
    have hck : (okTbl hh bc y2.cls && (ml == ml2 && (decide (hh.2.1 = 0 ∨ y2.cls = RC hh.2.1) && ((!hh.2.2.1 || decide (y2.name = "<init>")) && rtB hh.2.2.2 ret)))) = true := hck
    rw [Bool.and_eq_true, Bool.and_eq_true, Bool.and_eq_true, Bool.and_eq_true, decide_eq_true_eq, Bool.or_eq_true, decide_eq_true_eq] at hck
    obtain ⟨k1, k2, k3, k4, k5⟩ := hck
    have k2 := eq_of_beq k2
    subst k2
    refine ⟨hle, _, hq, ?_⟩
    have hlen := Nat.ble_eq.mp hb
    obtain ⟨nn, hn⟩ := (nR_iff X (callN X d) hh).mp h
    refine met_in (ini := hh.2.2.1) (fun h9 => ?_) b1 (by rw [lay_len]; exact hlen) ?_
    · rcases k4 with k4 | k4
      · rw [h9] at k4; cases k4
      · exact k4
    · intro p e s m below meth c hC hr hlocks hW lsC hl
      have hz : s.heap.size = E.1.1 + nT σ := hW.2.1
      have h1 := Wf_run (s0 := σ) (below := below) (e := e) (Qc := QY E r) hC hz (d := d) ⟨Nat.le_of_eq (show d + 9 = d + 1 + 8 by omega), Nat.le_of_eq (show 64 * d + 576 = 64 * (d + 1) + 512 by omega)⟩ ih (callN_mono X d) k3 k1 hr k5 hlocks
        ⟨by show nT r.2 ≤ nT σ + (nT r.2 - nT σ); have := hle.1; omega, by show nU r.2 ≤ nU σ + (nU r.2 - nU σ); have := hle.2; omega⟩
        (fun t ht hF ho => ⟨⟨rfl, ht⟩, hF, ho⟩) nn 0 _ _ _ hn (pad_ok ml (lay_ok hok)) (fun v hv => by cases hv) ⟨Nat.le_refl _, Nat.le_refl _⟩ s.heap [] lsC hW (LH_start E hl) ⟨Nat.le_refl _, fun _ _ _ => rfl, fun _ h => by cases h⟩
      rw [Nat.sub_self, Nat.sub_self] at h1
      exact h1
end
section
/-! the law's premises on text constants, by their places -/
def sFl : List Cond := flatC (Cond.and given_1 narrow_1)
def tmJ (i : Nat) : Term := match strO[i]? with
  | some q => .string q.1 q.2.1
  | none => .arg 0
def jEx (i : Nat) : Cond := Cond.exactly (tmJ i) "java/lang/String"
def jCo (i : Nat) : Cond := Cond.eq (.field (tmJ i) "java/lang/String" "coder" "B") (.int 0)
def jAr (i : Nat) : Cond := Cond.arrayOf (.field (tmJ i) "java/lang/String" "value" "[B") .byte
def jLe (i : Nat) : Cond := Cond.eq (.length (.field (tmJ i) "java/lang/String" "value" "[B")) (.int (Int32.ofNat (strN.getD i 0)))
def jEl (i j : Nat) : Cond := Cond.eq (.elem (.field (tmJ i) "java/lang/String" "value" "[B") (.int (Int32.ofNat j))) (.int ((strB.getD i []).getD j 0))
def jNe (i j : Nat) : Cond := Cond.not (Cond.eq (tmJ i) (tmJ j))
theorem at_in {w : Cond} (k : Nat) (h : sFl[k]? = some w) : w ∈ sFl := List.mem_of_getElem? h
def jxL : List (Nat) := [0, 1, 2, 3, 4, 5, 6, 7, 8, 9, 10, 11, 12]
theorem jxL_in : ∀ q ∈ jxL, jEx q ∈ sFl := by
  unfold jxL
  refine List.forall_mem_cons.mpr ⟨at_in 23 rfl, ?_⟩
  refine List.forall_mem_cons.mpr ⟨at_in 66 rfl, ?_⟩
  refine List.forall_mem_cons.mpr ⟨at_in 77 rfl, ?_⟩
  refine List.forall_mem_cons.mpr ⟨at_in 87 rfl, ?_⟩
  refine List.forall_mem_cons.mpr ⟨at_in 100 rfl, ?_⟩
  refine List.forall_mem_cons.mpr ⟨at_in 111 rfl, ?_⟩
  refine List.forall_mem_cons.mpr ⟨at_in 125 rfl, ?_⟩
  refine List.forall_mem_cons.mpr ⟨at_in 139 rfl, ?_⟩
  refine List.forall_mem_cons.mpr ⟨at_in 155 rfl, ?_⟩
  refine List.forall_mem_cons.mpr ⟨at_in 172 rfl, ?_⟩
  refine List.forall_mem_cons.mpr ⟨at_in 189 rfl, ?_⟩
  refine List.forall_mem_cons.mpr ⟨at_in 205 rfl, ?_⟩
  refine List.forall_mem_cons.mpr ⟨at_in 223 rfl, ?_⟩
  exact fun _ h => absurd h List.not_mem_nil
def jcL : List (Nat) := [0, 1, 2, 3, 4, 5, 6, 7, 8, 9, 10, 11, 12]
theorem jcL_in : ∀ q ∈ jcL, jCo q ∈ sFl := by
  unfold jcL
  refine List.forall_mem_cons.mpr ⟨at_in 24 rfl, ?_⟩
  refine List.forall_mem_cons.mpr ⟨at_in 67 rfl, ?_⟩
  refine List.forall_mem_cons.mpr ⟨at_in 78 rfl, ?_⟩
  refine List.forall_mem_cons.mpr ⟨at_in 88 rfl, ?_⟩
  refine List.forall_mem_cons.mpr ⟨at_in 101 rfl, ?_⟩
  refine List.forall_mem_cons.mpr ⟨at_in 112 rfl, ?_⟩
  refine List.forall_mem_cons.mpr ⟨at_in 126 rfl, ?_⟩
  refine List.forall_mem_cons.mpr ⟨at_in 140 rfl, ?_⟩
  refine List.forall_mem_cons.mpr ⟨at_in 156 rfl, ?_⟩
  refine List.forall_mem_cons.mpr ⟨at_in 173 rfl, ?_⟩
  refine List.forall_mem_cons.mpr ⟨at_in 190 rfl, ?_⟩
  refine List.forall_mem_cons.mpr ⟨at_in 206 rfl, ?_⟩
  refine List.forall_mem_cons.mpr ⟨at_in 224 rfl, ?_⟩
  exact fun _ h => absurd h List.not_mem_nil
def jaL : List (Nat) := [0, 1, 2, 3, 4, 5, 6, 7, 8, 9, 10, 11, 12]
theorem jaL_in : ∀ q ∈ jaL, jAr q ∈ sFl := by
  unfold jaL
  refine List.forall_mem_cons.mpr ⟨at_in 25 rfl, ?_⟩
  refine List.forall_mem_cons.mpr ⟨at_in 68 rfl, ?_⟩
  refine List.forall_mem_cons.mpr ⟨at_in 79 rfl, ?_⟩
  refine List.forall_mem_cons.mpr ⟨at_in 89 rfl, ?_⟩
  refine List.forall_mem_cons.mpr ⟨at_in 102 rfl, ?_⟩
  refine List.forall_mem_cons.mpr ⟨at_in 113 rfl, ?_⟩
  refine List.forall_mem_cons.mpr ⟨at_in 127 rfl, ?_⟩
  refine List.forall_mem_cons.mpr ⟨at_in 141 rfl, ?_⟩
  refine List.forall_mem_cons.mpr ⟨at_in 157 rfl, ?_⟩
  refine List.forall_mem_cons.mpr ⟨at_in 174 rfl, ?_⟩
  refine List.forall_mem_cons.mpr ⟨at_in 191 rfl, ?_⟩
  refine List.forall_mem_cons.mpr ⟨at_in 207 rfl, ?_⟩
  refine List.forall_mem_cons.mpr ⟨at_in 225 rfl, ?_⟩
  exact fun _ h => absurd h List.not_mem_nil
def jlL : List (Nat) := [0, 1, 2, 3, 4, 5, 6, 7, 8, 9, 10, 11, 12]
theorem jlL_in : ∀ q ∈ jlL, jLe q ∈ sFl := by
  unfold jlL
  refine List.forall_mem_cons.mpr ⟨at_in 26 rfl, ?_⟩
  refine List.forall_mem_cons.mpr ⟨at_in 69 rfl, ?_⟩
  refine List.forall_mem_cons.mpr ⟨at_in 80 rfl, ?_⟩
  refine List.forall_mem_cons.mpr ⟨at_in 90 rfl, ?_⟩
  refine List.forall_mem_cons.mpr ⟨at_in 103 rfl, ?_⟩
  refine List.forall_mem_cons.mpr ⟨at_in 114 rfl, ?_⟩
  refine List.forall_mem_cons.mpr ⟨at_in 128 rfl, ?_⟩
  refine List.forall_mem_cons.mpr ⟨at_in 142 rfl, ?_⟩
  refine List.forall_mem_cons.mpr ⟨at_in 158 rfl, ?_⟩
  refine List.forall_mem_cons.mpr ⟨at_in 175 rfl, ?_⟩
  refine List.forall_mem_cons.mpr ⟨at_in 192 rfl, ?_⟩
  refine List.forall_mem_cons.mpr ⟨at_in 208 rfl, ?_⟩
  refine List.forall_mem_cons.mpr ⟨at_in 226 rfl, ?_⟩
  exact fun _ h => absurd h List.not_mem_nil
def jeL : List (Nat × Nat) := [(0, 0), (0, 1), (0, 2), (0, 3), (0, 4), (0, 5), (0, 6), (0, 7), (0, 8), (0, 9), (0, 10), (0, 11), (0, 12), (0, 13), (0, 14), (0, 15), (0, 16), (0, 17), (0, 18), (0, 19), (0, 20), (0, 21), (0, 22), (0, 23), (0, 24), (0, 25), (0, 26), (0, 27), (0, 28), (0, 29), (0, 30), (0, 31), (0, 32), (0, 33), (0, 34), (0, 35), (0, 36), (0, 37), (0, 38), (1, 0), (1, 1), (1, 2), (1, 3), (1, 4), (1, 5), (2, 0), (2, 1), (2, 2), (2, 3), (3, 0), (3, 1), (3, 2), (3, 3), (3, 4), (3, 5), (4, 0), (4, 1), (4, 2), (5, 0), (5, 1), (5, 2), (5, 3), (5, 4), (6, 0), (6, 1), (6, 2), (6, 3), (7, 0), (7, 1), (7, 2), (7, 3), (7, 4), (8, 0), (8, 1), (8, 2), (8, 3), (8, 4), (9, 0), (9, 1), (9, 2), (9, 3), (10, 0), (10, 1), (11, 0), (11, 1), (11, 2), (12, 0), (12, 1), (12, 2)]
theorem jeL_in : ∀ q ∈ jeL, jEl q.1 q.2 ∈ sFl := by
  unfold jeL
  refine List.forall_mem_cons.mpr ⟨at_in 27 rfl, ?_⟩
  refine List.forall_mem_cons.mpr ⟨at_in 28 rfl, ?_⟩
  refine List.forall_mem_cons.mpr ⟨at_in 29 rfl, ?_⟩
  refine List.forall_mem_cons.mpr ⟨at_in 30 rfl, ?_⟩
  refine List.forall_mem_cons.mpr ⟨at_in 31 rfl, ?_⟩
  refine List.forall_mem_cons.mpr ⟨at_in 32 rfl, ?_⟩
  refine List.forall_mem_cons.mpr ⟨at_in 33 rfl, ?_⟩
  refine List.forall_mem_cons.mpr ⟨at_in 34 rfl, ?_⟩
  refine List.forall_mem_cons.mpr ⟨at_in 35 rfl, ?_⟩
  refine List.forall_mem_cons.mpr ⟨at_in 36 rfl, ?_⟩
  refine List.forall_mem_cons.mpr ⟨at_in 37 rfl, ?_⟩
  refine List.forall_mem_cons.mpr ⟨at_in 38 rfl, ?_⟩
  refine List.forall_mem_cons.mpr ⟨at_in 39 rfl, ?_⟩
  refine List.forall_mem_cons.mpr ⟨at_in 40 rfl, ?_⟩
  refine List.forall_mem_cons.mpr ⟨at_in 41 rfl, ?_⟩
  refine List.forall_mem_cons.mpr ⟨at_in 42 rfl, ?_⟩
  refine List.forall_mem_cons.mpr ⟨at_in 43 rfl, ?_⟩
  refine List.forall_mem_cons.mpr ⟨at_in 44 rfl, ?_⟩
  refine List.forall_mem_cons.mpr ⟨at_in 45 rfl, ?_⟩
  refine List.forall_mem_cons.mpr ⟨at_in 46 rfl, ?_⟩
  refine List.forall_mem_cons.mpr ⟨at_in 47 rfl, ?_⟩
  refine List.forall_mem_cons.mpr ⟨at_in 48 rfl, ?_⟩
  refine List.forall_mem_cons.mpr ⟨at_in 49 rfl, ?_⟩
  refine List.forall_mem_cons.mpr ⟨at_in 50 rfl, ?_⟩
  refine List.forall_mem_cons.mpr ⟨at_in 51 rfl, ?_⟩
  refine List.forall_mem_cons.mpr ⟨at_in 52 rfl, ?_⟩
  refine List.forall_mem_cons.mpr ⟨at_in 53 rfl, ?_⟩
  refine List.forall_mem_cons.mpr ⟨at_in 54 rfl, ?_⟩
  refine List.forall_mem_cons.mpr ⟨at_in 55 rfl, ?_⟩
  refine List.forall_mem_cons.mpr ⟨at_in 56 rfl, ?_⟩
  refine List.forall_mem_cons.mpr ⟨at_in 57 rfl, ?_⟩
  refine List.forall_mem_cons.mpr ⟨at_in 58 rfl, ?_⟩
  refine List.forall_mem_cons.mpr ⟨at_in 59 rfl, ?_⟩
  refine List.forall_mem_cons.mpr ⟨at_in 60 rfl, ?_⟩
  refine List.forall_mem_cons.mpr ⟨at_in 61 rfl, ?_⟩
  refine List.forall_mem_cons.mpr ⟨at_in 62 rfl, ?_⟩
  refine List.forall_mem_cons.mpr ⟨at_in 63 rfl, ?_⟩
  refine List.forall_mem_cons.mpr ⟨at_in 64 rfl, ?_⟩
  refine List.forall_mem_cons.mpr ⟨at_in 65 rfl, ?_⟩
  refine List.forall_mem_cons.mpr ⟨at_in 70 rfl, ?_⟩
  refine List.forall_mem_cons.mpr ⟨at_in 71 rfl, ?_⟩
  refine List.forall_mem_cons.mpr ⟨at_in 72 rfl, ?_⟩
  refine List.forall_mem_cons.mpr ⟨at_in 73 rfl, ?_⟩
  refine List.forall_mem_cons.mpr ⟨at_in 74 rfl, ?_⟩
  refine List.forall_mem_cons.mpr ⟨at_in 75 rfl, ?_⟩
  refine List.forall_mem_cons.mpr ⟨at_in 81 rfl, ?_⟩
  refine List.forall_mem_cons.mpr ⟨at_in 82 rfl, ?_⟩
  refine List.forall_mem_cons.mpr ⟨at_in 83 rfl, ?_⟩
  refine List.forall_mem_cons.mpr ⟨at_in 84 rfl, ?_⟩
  refine List.forall_mem_cons.mpr ⟨at_in 91 rfl, ?_⟩
  refine List.forall_mem_cons.mpr ⟨at_in 92 rfl, ?_⟩
  refine List.forall_mem_cons.mpr ⟨at_in 93 rfl, ?_⟩
  refine List.forall_mem_cons.mpr ⟨at_in 94 rfl, ?_⟩
  refine List.forall_mem_cons.mpr ⟨at_in 95 rfl, ?_⟩
  refine List.forall_mem_cons.mpr ⟨at_in 96 rfl, ?_⟩
  refine List.forall_mem_cons.mpr ⟨at_in 104 rfl, ?_⟩
  refine List.forall_mem_cons.mpr ⟨at_in 105 rfl, ?_⟩
  refine List.forall_mem_cons.mpr ⟨at_in 106 rfl, ?_⟩
  refine List.forall_mem_cons.mpr ⟨at_in 115 rfl, ?_⟩
  refine List.forall_mem_cons.mpr ⟨at_in 116 rfl, ?_⟩
  refine List.forall_mem_cons.mpr ⟨at_in 117 rfl, ?_⟩
  refine List.forall_mem_cons.mpr ⟨at_in 118 rfl, ?_⟩
  refine List.forall_mem_cons.mpr ⟨at_in 119 rfl, ?_⟩
  refine List.forall_mem_cons.mpr ⟨at_in 129 rfl, ?_⟩
  refine List.forall_mem_cons.mpr ⟨at_in 130 rfl, ?_⟩
  refine List.forall_mem_cons.mpr ⟨at_in 131 rfl, ?_⟩
  refine List.forall_mem_cons.mpr ⟨at_in 132 rfl, ?_⟩
  refine List.forall_mem_cons.mpr ⟨at_in 143 rfl, ?_⟩
  refine List.forall_mem_cons.mpr ⟨at_in 144 rfl, ?_⟩
  refine List.forall_mem_cons.mpr ⟨at_in 145 rfl, ?_⟩
  refine List.forall_mem_cons.mpr ⟨at_in 146 rfl, ?_⟩
  refine List.forall_mem_cons.mpr ⟨at_in 147 rfl, ?_⟩
  refine List.forall_mem_cons.mpr ⟨at_in 159 rfl, ?_⟩
  refine List.forall_mem_cons.mpr ⟨at_in 160 rfl, ?_⟩
  refine List.forall_mem_cons.mpr ⟨at_in 161 rfl, ?_⟩
  refine List.forall_mem_cons.mpr ⟨at_in 162 rfl, ?_⟩
  refine List.forall_mem_cons.mpr ⟨at_in 163 rfl, ?_⟩
  refine List.forall_mem_cons.mpr ⟨at_in 176 rfl, ?_⟩
  refine List.forall_mem_cons.mpr ⟨at_in 177 rfl, ?_⟩
  refine List.forall_mem_cons.mpr ⟨at_in 178 rfl, ?_⟩
  refine List.forall_mem_cons.mpr ⟨at_in 179 rfl, ?_⟩
  refine List.forall_mem_cons.mpr ⟨at_in 193 rfl, ?_⟩
  refine List.forall_mem_cons.mpr ⟨at_in 194 rfl, ?_⟩
  refine List.forall_mem_cons.mpr ⟨at_in 209 rfl, ?_⟩
  refine List.forall_mem_cons.mpr ⟨at_in 210 rfl, ?_⟩
  refine List.forall_mem_cons.mpr ⟨at_in 211 rfl, ?_⟩
  refine List.forall_mem_cons.mpr ⟨at_in 227 rfl, ?_⟩
  refine List.forall_mem_cons.mpr ⟨at_in 228 rfl, ?_⟩
  refine List.forall_mem_cons.mpr ⟨at_in 229 rfl, ?_⟩
  exact fun _ h => absurd h List.not_mem_nil
def jnL : List (Nat × Nat) := [(0, 1), (0, 2), (1, 2), (0, 3), (1, 3), (2, 3), (0, 4), (1, 4), (2, 4), (3, 4), (0, 5), (1, 5), (2, 5), (3, 5), (4, 5), (0, 6), (1, 6), (2, 6), (3, 6), (4, 6), (5, 6), (0, 7), (1, 7), (2, 7), (3, 7), (4, 7), (5, 7), (6, 7), (0, 8), (1, 8), (2, 8), (3, 8), (4, 8), (5, 8), (6, 8), (7, 8), (0, 9), (1, 9), (2, 9), (3, 9), (4, 9), (5, 9), (6, 9), (7, 9), (8, 9), (0, 10), (1, 10), (2, 10), (3, 10), (4, 10), (5, 10), (6, 10), (7, 10), (8, 10), (9, 10), (0, 11), (1, 11), (2, 11), (3, 11), (4, 11), (5, 11), (6, 11), (7, 11), (8, 11), (9, 11), (10, 11), (0, 12), (1, 12), (2, 12), (3, 12), (4, 12), (5, 12), (6, 12), (7, 12), (8, 12), (9, 12), (10, 12), (11, 12)]
theorem jnL_in : ∀ q ∈ jnL, jNe q.1 q.2 ∈ sFl := by
  unfold jnL
  refine List.forall_mem_cons.mpr ⟨at_in 76 rfl, ?_⟩
  refine List.forall_mem_cons.mpr ⟨at_in 85 rfl, ?_⟩
  refine List.forall_mem_cons.mpr ⟨at_in 86 rfl, ?_⟩
  refine List.forall_mem_cons.mpr ⟨at_in 97 rfl, ?_⟩
  refine List.forall_mem_cons.mpr ⟨at_in 98 rfl, ?_⟩
  refine List.forall_mem_cons.mpr ⟨at_in 99 rfl, ?_⟩
  refine List.forall_mem_cons.mpr ⟨at_in 107 rfl, ?_⟩
  refine List.forall_mem_cons.mpr ⟨at_in 108 rfl, ?_⟩
  refine List.forall_mem_cons.mpr ⟨at_in 109 rfl, ?_⟩
  refine List.forall_mem_cons.mpr ⟨at_in 110 rfl, ?_⟩
  refine List.forall_mem_cons.mpr ⟨at_in 120 rfl, ?_⟩
  refine List.forall_mem_cons.mpr ⟨at_in 121 rfl, ?_⟩
  refine List.forall_mem_cons.mpr ⟨at_in 122 rfl, ?_⟩
  refine List.forall_mem_cons.mpr ⟨at_in 123 rfl, ?_⟩
  refine List.forall_mem_cons.mpr ⟨at_in 124 rfl, ?_⟩
  refine List.forall_mem_cons.mpr ⟨at_in 133 rfl, ?_⟩
  refine List.forall_mem_cons.mpr ⟨at_in 134 rfl, ?_⟩
  refine List.forall_mem_cons.mpr ⟨at_in 135 rfl, ?_⟩
  refine List.forall_mem_cons.mpr ⟨at_in 136 rfl, ?_⟩
  refine List.forall_mem_cons.mpr ⟨at_in 137 rfl, ?_⟩
  refine List.forall_mem_cons.mpr ⟨at_in 138 rfl, ?_⟩
  refine List.forall_mem_cons.mpr ⟨at_in 148 rfl, ?_⟩
  refine List.forall_mem_cons.mpr ⟨at_in 149 rfl, ?_⟩
  refine List.forall_mem_cons.mpr ⟨at_in 150 rfl, ?_⟩
  refine List.forall_mem_cons.mpr ⟨at_in 151 rfl, ?_⟩
  refine List.forall_mem_cons.mpr ⟨at_in 152 rfl, ?_⟩
  refine List.forall_mem_cons.mpr ⟨at_in 153 rfl, ?_⟩
  refine List.forall_mem_cons.mpr ⟨at_in 154 rfl, ?_⟩
  refine List.forall_mem_cons.mpr ⟨at_in 164 rfl, ?_⟩
  refine List.forall_mem_cons.mpr ⟨at_in 165 rfl, ?_⟩
  refine List.forall_mem_cons.mpr ⟨at_in 166 rfl, ?_⟩
  refine List.forall_mem_cons.mpr ⟨at_in 167 rfl, ?_⟩
  refine List.forall_mem_cons.mpr ⟨at_in 168 rfl, ?_⟩
  refine List.forall_mem_cons.mpr ⟨at_in 169 rfl, ?_⟩
  refine List.forall_mem_cons.mpr ⟨at_in 170 rfl, ?_⟩
  refine List.forall_mem_cons.mpr ⟨at_in 171 rfl, ?_⟩
  refine List.forall_mem_cons.mpr ⟨at_in 180 rfl, ?_⟩
  refine List.forall_mem_cons.mpr ⟨at_in 181 rfl, ?_⟩
  refine List.forall_mem_cons.mpr ⟨at_in 182 rfl, ?_⟩
  refine List.forall_mem_cons.mpr ⟨at_in 183 rfl, ?_⟩
  refine List.forall_mem_cons.mpr ⟨at_in 184 rfl, ?_⟩
  refine List.forall_mem_cons.mpr ⟨at_in 185 rfl, ?_⟩
  refine List.forall_mem_cons.mpr ⟨at_in 186 rfl, ?_⟩
  refine List.forall_mem_cons.mpr ⟨at_in 187 rfl, ?_⟩
  refine List.forall_mem_cons.mpr ⟨at_in 188 rfl, ?_⟩
  refine List.forall_mem_cons.mpr ⟨at_in 195 rfl, ?_⟩
  refine List.forall_mem_cons.mpr ⟨at_in 196 rfl, ?_⟩
  refine List.forall_mem_cons.mpr ⟨at_in 197 rfl, ?_⟩
  refine List.forall_mem_cons.mpr ⟨at_in 198 rfl, ?_⟩
  refine List.forall_mem_cons.mpr ⟨at_in 199 rfl, ?_⟩
  refine List.forall_mem_cons.mpr ⟨at_in 200 rfl, ?_⟩
  refine List.forall_mem_cons.mpr ⟨at_in 201 rfl, ?_⟩
  refine List.forall_mem_cons.mpr ⟨at_in 202 rfl, ?_⟩
  refine List.forall_mem_cons.mpr ⟨at_in 203 rfl, ?_⟩
  refine List.forall_mem_cons.mpr ⟨at_in 204 rfl, ?_⟩
  refine List.forall_mem_cons.mpr ⟨at_in 212 rfl, ?_⟩
  refine List.forall_mem_cons.mpr ⟨at_in 213 rfl, ?_⟩
  refine List.forall_mem_cons.mpr ⟨at_in 214 rfl, ?_⟩
  refine List.forall_mem_cons.mpr ⟨at_in 215 rfl, ?_⟩
  refine List.forall_mem_cons.mpr ⟨at_in 216 rfl, ?_⟩
  refine List.forall_mem_cons.mpr ⟨at_in 217 rfl, ?_⟩
  refine List.forall_mem_cons.mpr ⟨at_in 218 rfl, ?_⟩
  refine List.forall_mem_cons.mpr ⟨at_in 219 rfl, ?_⟩
  refine List.forall_mem_cons.mpr ⟨at_in 220 rfl, ?_⟩
  refine List.forall_mem_cons.mpr ⟨at_in 221 rfl, ?_⟩
  refine List.forall_mem_cons.mpr ⟨at_in 222 rfl, ?_⟩
  refine List.forall_mem_cons.mpr ⟨at_in 230 rfl, ?_⟩
  refine List.forall_mem_cons.mpr ⟨at_in 231 rfl, ?_⟩
  refine List.forall_mem_cons.mpr ⟨at_in 232 rfl, ?_⟩
  refine List.forall_mem_cons.mpr ⟨at_in 233 rfl, ?_⟩
  refine List.forall_mem_cons.mpr ⟨at_in 234 rfl, ?_⟩
  refine List.forall_mem_cons.mpr ⟨at_in 235 rfl, ?_⟩
  refine List.forall_mem_cons.mpr ⟨at_in 236 rfl, ?_⟩
  refine List.forall_mem_cons.mpr ⟨at_in 237 rfl, ?_⟩
  refine List.forall_mem_cons.mpr ⟨at_in 238 rfl, ?_⟩
  refine List.forall_mem_cons.mpr ⟨at_in 239 rfl, ?_⟩
  refine List.forall_mem_cons.mpr ⟨at_in 240 rfl, ?_⟩
  refine List.forall_mem_cons.mpr ⟨at_in 241 rfl, ?_⟩
  exact fun _ h => absurd h List.not_mem_nil
theorem jEx_in : ∀ i, i < 13 → jEx i ∈ sFl := fun i hi => jxL_in i ((show ∀ i, i < 13 → i ∈ jxL by decide +kernel) i hi)
theorem jCo_in : ∀ i, i < 13 → jCo i ∈ sFl := fun i hi => jcL_in i ((show ∀ i, i < 13 → i ∈ jcL by decide +kernel) i hi)
theorem jAr_in : ∀ i, i < 13 → jAr i ∈ sFl := fun i hi => jaL_in i ((show ∀ i, i < 13 → i ∈ jaL by decide +kernel) i hi)
theorem jLe_in : ∀ i, i < 13 → jLe i ∈ sFl := fun i hi => jlL_in i ((show ∀ i, i < 13 → i ∈ jlL by decide +kernel) i hi)
theorem jEl_in : ∀ i, i < 13 → ∀ j, j < strN.getD i 0 → jEl i j ∈ sFl := fun i hi j hj => jeL_in (i, j) ((show ∀ i, i < 13 → ∀ j, j < strN.getD i 0 → (i, j) ∈ jeL by decide +kernel) i hi j hj)
theorem jn_has : (List.range 13).all (fun i => (List.range 13).all (fun j => i == j || (jnL.contains (i, j) || jnL.contains (j, i)))) = true := by decide +kernel
theorem jNe_in : ∀ i, i < 13 → ∀ j, j < 13 → i ≠ j → (jNe i j ∈ sFl ∨ jNe j i ∈ sFl) := by
  intro i hi j hj hn
  have h := List.all_eq_true.mp (List.all_eq_true.mp jn_has i (List.mem_range.mpr hi)) j (List.mem_range.mpr hj)
  rw [Bool.or_eq_true, Bool.or_eq_true, beq_iff_eq, List.contains_iff_mem, List.contains_iff_mem] at h
  rcases h with h | h | h
  · exact absurd h hn
  · exact Or.inl (jnL_in (i, j) h)
  · exact Or.inr (jnL_in (j, i) h)
theorem jCs_in : Cond.eq (.static "java/lang/String" "COMPACT_STRINGS" "Z") (.int 1) ∈ sFl := at_in 4 rfl
theorem jQ_in : Cond.isRef (.static "jdk/internal/util/Preconditions" "SIOOBE_FORMATTER" "Ljava/util/function/BiFunction;") ∈ sFl := at_in 5 rfl
end
section
/-! THE CLAIM OUT OF ONE WALK OF THE LAW'S BODY. Your part is whole_start (and what it stands on); all else here is the same for every law, but numbers. -/
def R_law : String := "SandInTheShoeLaw"
def lw_P (b : Addr) (xs : List Int32) (args : Array Value) (s : State) : Prop := args = #[.ref b] ∧ s.IntsAt b xs ∧ xs.length ≤ 3072 ∧ (Jvm.Cond.and given_1 narrow_1).before args s = true
def lw_Q (_ : Array Value) (s : State) (o : Outcome) (t : State) : Prop := o = .returned (some (.int 1)) ∧ Framed s o t [] 600000 7302250
def lw_Z (below : List Frame) (a : Array Value) (s : State) : State → Prop := fun t => ∃ o, t.status = .running ∧ Ended t below o ∧ lw_Q a s o t
/-- the law's own end, with 1 on the stack, nothing written that was there before, its room as the claim has it -/
theorem lw_ret {p : Program} {l : Launch} {e : Env} {s : State} {m : MethodId} {below : List Frame} {meth : Method} {c : Code} {b : Nat} (hx : p.tables.exec = Jvm.exec) (hb : c.code = code) (hr : meth.sig.returnType = ret) (hlocks : meth.locks = false) {pc : Nat} {H : Heap} {ls : Array Slot} (hdg : decode code pc = .ok (.ireturn, 1)) : W p l e room_1 s m #[Value.ref b] below meth c H [] 600000 7302250 (lw_Z below #[Value.ref b] s) (F0 m pc ls [.int 1]) := by
  intro T hT X
  obtain ⟨fs, hret, hrun, hended, hW, hframe⟩ := X.leave (v := some (.int 1)) (hlocks := hlocks) (fun h => by rw [hr] at h; cases h)
  have hmeth' : T.vm.method? m = some meth := X.method'
  refine ⟨T.setFrames fs, ?_, .returned (some (.int 1)), hrun, hended, rfl, ⟨_, rfl⟩, hW, hframe⟩
  jvm_step X.here [X.here.top, hx, hb, hdg, hmeth', hr, ret, narrow_b1]
  (try refine ⟨rfl, ?_⟩); (try refine ⟨rfl, ?_⟩)
  first | (intro acts; rw [hret _ acts rfl rfl rfl]) | rw [hret _ _ rfl rfl rfl]
  exact Steps.refl _
/-- what holds at the law's entry: the machine, the code, the tables' words (any of lw_tbl by 'hts w (by decide +kernel)'), the script of L ints xs at the cell b, what the Statement gives of the start (any of its parts by flat_of_before) -/
def lw_At (p : Program) (s : State) (m : MethodId) (meth : Method) (c : Code) (b L : Nat) (xs : Nat → Int32) : Prop :=
  p.tables.exec = Jvm.exec ∧ c.code = code ∧ meth.sig.returnType = ret ∧ c.maxLocals = 4 ∧ s.vm.findClass R_law = some m.cls ∧ (∀ w ∈ lw_tbl, w.before #[Value.ref b] s = true) ∧ va_X b L xs s s.heap ∧ b < s.heap.size ∧ meth.locks = false ∧ (Jvm.Cond.and given_1 narrow_1).before #[Value.ref b] s = true

/-! the law's start: its surroundings, its run -/
theorem nest_in : ∀ w ∈ nestL, w ∈ lw_tbl := by decide +kernel
theorem nest_tab : ∀ w ∈ nestL, w.onTables = true := by decide +kernel
theorem strW_in : ∀ q ∈ strO, Cond.stringRef q.1 q.2.1 q.2.2 ∈ lw_tbl := by decide +kernel
theorem law_KF {s : State} {b L : Nat} {xs : Nat → Int32} (hL : L ≤ 3072) (hts : ∀ w ∈ lw_tbl, w.before #[Value.ref b] s = true) (hX : va_X b L xs s s.heap) (hb : b < s.heap.size) (hg : (Cond.and given_1 narrow_1).before #[Value.ref b] s = true) :
    ∃ E : EnvT, E.1 = (s.heap.size, b) ∧ KF E (L, xs) s := by
  have hs := flat_of_before _ hg
  have hA : ∀ a : Nat, a < s.heap.size → ¬ (fun q : Nat => s.heap.size ≤ q) a := fun a h9 => Nat.not_le.mpr h9
  have hcl : ∀ q ∈ vwCl, ∃ x : ClassId × (Nat → Nat), u_Kn s q.1 q.2.1 q.2.2 x.1 x.2 := by
    refine List.forall_mem_cons.mpr ⟨?_, List.forall_mem_cons.mpr ⟨?_, List.forall_mem_cons.mpr ⟨?_, List.forall_mem_cons.mpr ⟨?_, List.forall_mem_cons.mpr ⟨?_, List.forall_mem_cons.mpr ⟨?_, List.forall_mem_cons.mpr ⟨?_, fun _ h => absurd h List.not_mem_nil⟩⟩⟩⟩⟩⟩⟩
    · obtain ⟨cC, iS, h⟩ := u_known (C := RX0) (T := TX0) (N := 8) (n := 8) hts inX0 (hts (.instantiable RX0 8) (by decide +kernel))
      exact ⟨(cC, iS), h⟩
    · obtain ⟨cC, iS, h⟩ := u_known (C := RX2) (T := TX2) (N := 9) (n := 9) hts inX2 (hts (.instantiable RX2 9) (by decide +kernel))
      exact ⟨(cC, iS), h⟩
    · obtain ⟨cC, iS, h⟩ := u_known (C := RX3) (T := TX3) (N := 3) (n := 3) hts inX3 (hts (.instantiable RX3 3) (by decide +kernel))
      exact ⟨(cC, iS), h⟩
    · obtain ⟨cC, iS, h⟩ := u_known (C := RX4) (T := TX4) (N := 2) (n := 2) hts inX4 (hts (.instantiable RX4 2) (by decide +kernel))
      exact ⟨(cC, iS), h⟩
    · obtain ⟨cC, iS, h⟩ := u_known (C := RX5) (T := TX5) (N := 8) (n := 8) hts inX5 (hts (.instantiable RX5 8) (by decide +kernel))
      exact ⟨(cC, iS), h⟩
    · obtain ⟨cC, iS, h⟩ := u_known (C := RX6) (T := TX6) (N := 12) (n := 12) hts inX6 (hts (.instantiable RX6 12) (by decide +kernel))
      exact ⟨(cC, iS), h⟩
    · obtain ⟨cC, iS, h⟩ := u_known (C := RX7) (T := TX7) (N := 49) (n := 49) hts inX7 (hts (.instantiable RX7 49) (by decide +kernel))
      exact ⟨(cC, iS), h⟩
  have hD : ∃ D : va_G, ∀ (k : Nat) (q : vw_C), vwCl[k]? = some q → u_Kn s q.1 q.2.1 q.2.2 (D.1 k) (D.2 k) := by
    have h0 : ∀ k : Nat, ∃ x : ClassId × (Nat → Nat), ∀ q : vw_C, vwCl[k]? = some q → u_Kn s q.1 q.2.1 q.2.2 x.1 x.2 := by
      intro k
      rcases hk : vwCl[k]? with _ | q
      · exact ⟨(0, fun _ => 0), fun q h => by cases h⟩
      · obtain ⟨x, hx⟩ := hcl q (List.mem_of_getElem? hk)
        exact ⟨x, fun q2 h => by cases h; exact hx⟩
    obtain ⟨f, hf⟩ := Classical.axiomOfChoice h0
    exact ⟨(fun k => (f k).1, fun k => (f k).2), fun k q h => hf k q h⟩
  obtain ⟨D, hD⟩ := hD
  have harr : ∀ ty : FieldType, (∀ C, ty ≠ .object C) → Cond.arrayClass ty ∈ lw_tbl → ∃ cA, ArrOfT s cA ty ∧ va_RA s cA ty := by
    intro ty hty hin
    obtain ⟨cA, kA, comp, h1, h2, h3⟩ := Cond.arrayClass_spec (args := #[Value.ref b]) (first := s) (o := none) (s := s) (idx := []) (hts _ hin)
    refine ⟨cA, fun n z => ⟨(fun k h => by cases h), kA, h2, comp, h3⟩, ?_⟩
    unfold va_RA
    cases ty
    case object C => exact absurd rfl (hty C)
    all_goals exact h1
  have harq : ∀ C : String, Cond.arrayOver (.object C) ∈ lw_tbl → ∃ cA, ArrOfT s cA (.object C) ∧ va_RA s cA (.object C) := by
    intro C hin
    obtain ⟨comp, cA, kA, h1, h2, h3, h4, h5⟩ := Cond.arrayOver_spec (args := #[Value.ref b]) (first := s) (o := none) (s := s) (idx := []) (hts _ hin)
    exact ⟨cA, fun n z => ⟨(fun k h => by cases h), kA, h3, comp, h4⟩, kA, comp, h3, h4, h1, h5⟩
  obtain ⟨cI, hI⟩ := harr .int (fun C h => by cases h) (by decide +kernel)
  obtain ⟨cZ, hZ⟩ := harr .boolean (fun C h => by cases h) (by decide +kernel)
  obtain ⟨cT, hT⟩ := harq RX4 (by decide +kernel)
  obtain ⟨cS, hS⟩ := harq RX3 (by decide +kernel)
  obtain ⟨adK, adV, hV, hEv⟩ := vk_Sof (args := #[Value.ref b]) (s := s) (N := 13) (tm := tmJ) (len := strN) (byt := strB) (A := fun q : Nat => s.heap.size ≤ q) (fun i hi => (str_lt i hi).1) (fun i hi => hs _ (jEx_in i hi)) (fun i hi => hs _ (jCo_in i hi)) (fun i hi => hs _ (jAr_in i hi)) (fun i hi => hs _ (jLe_in i hi))
    (fun i hi j hj => hs _ (jEl_in i hi j hj)) (fun i j hi hj hn => (jNe_in i hi j hj hn).imp (fun h => hs _ h) (fun h => hs _ h)) hA
  refine ⟨((s.heap.size, b), adK, D, (cI, cZ, cT, cS)), rfl, ⟨hD, ?_⟩, fun w hw => va_Nw.of (nest_tab w hw) (hts w (nest_in w hw)), ⟨va_AO.of (hts (.arrayOver (.object RX4)) (by decide +kernel)), va_AO.of (hts (.arrayOver (.object RX3)) (by decide +kernel))⟩, ?_, ⟨adV, hV⟩, ?_, ?_, hX, hb, Nat.le_refl _, by show L < 2 ^ 31; omega⟩
  · intro k q hq
    rcases k with _ | _ | _ | _ | k
    · cases hq; exact hI
    · cases hq; exact hZ
    · cases hq; exact hT
    · cases hq; exact hS
    · cases hq
  · intro i q hq
    have hi : i < 13 := (List.getElem?_eq_some_iff.mp hq).1
    have hv := hEv i hi
    unfold tmJ at hv
    rw [hq] at hv
    exact vk_R.of (hts _ (strW_in q (List.mem_of_getElem? hq))) hv
  · exact va_Zof (hts (.laysStatic "java/lang/String" "COMPACT_STRINGS" "Z") (by decide +kernel)) (hts (.initialized "java/lang/String") (by decide +kernel)) (va_eqi (hs _ jCs_in)) hA
  · exact va_Zqof (hts (.laysStatic "jdk/internal/util/Preconditions" "SIOOBE_FORMATTER" "Ljava/util/function/BiFunction;") (by decide +kernel)) (hts (.initialized "jdk/internal/util/Preconditions") (by decide +kernel)) (hs _ jQ_in) hA
def mem0 : Mem := (fun _ _ _ => 0, 0, false, false, [], 0, 0)
theorem WD_mem0 (E : EnvT) {H : Heap} (h : H.size = E.1.1) : WD E mem0 H := ⟨(fun k q hq => by cases hq), (by rw [h]; rfl), fun h => (by cases h), fun h => (by cases h), fun _ h => by cases h⟩
theorem law_end {s : State} {below : List Frame} {b mc ms : Nat} {A : Nat → Prop} (hA : ∀ q, A q → s.heap.size ≤ q) (h1 : mc ≤ 600000) (h2 : ms ≤ 7302250) {t : State} (h : MQ below (fun _ _ o _ => o = .returned (some (.int 1))) #[Value.ref b] s mc ms A t) : lw_Z below #[Value.ref b] s t := by
  obtain ⟨o, hr, he, hq, L, hF, hLf⟩ := h
  refine ⟨o, hr, he, hq, hF.1, hF.2.1, ?_⟩
  exact (State.sameButNew.drop_fresh (L := []) (J := L) hF.2.2 (fun x hx => hA _ (hLf x hx))).mono h1 h2
theorem whole_of {p : Program} {e : Env} {s : State} {m : MethodId} {below : List Frame} {meth : Method} {c : Code} (l : Launch) {b L : Nat} {xs : Nat → Int32} (hL : L ≤ 3072) (C0 : lw_At p s m meth c b L xs) {r2 : Mem}
    (hrun : nR (L, xs) (callN (L, xs) 64) hL_law 0 [vR 70 0, vX, vX, vX] [] mem0 = some (some (vI 1), r2)) (hmc : nT r2 ≤ 600000 ∧ nU r2 ≤ 7302250) : W p l e room_1 s m #[Value.ref b] below meth c s.heap [] 0 0 (lw_Z below #[Value.ref b] s) (entryFrame m ([Value.ref b] : List Value).toArray 4) := by
  obtain ⟨c1, c2, c3, c4, c5, c6, c7, c8, c9, c10⟩ := C0
  obtain ⟨E, hE, hKF⟩ := law_KF hL c6 c7 c8 c10
  have hE1 : E.1.1 = s.heap.size := congrArg Prod.fst hE
  have hE2 : E.1.2 = b := congrArg Prod.snd hE
  obtain ⟨n, hn⟩ := (nR_iff (L, xs) (callN (L, xs) 64) hL_law).mp hrun
  have hC : Ctx E (L, xs) p room_1 s m #[Value.ref b] meth c code 4 RL false := ⟨c1, c2, c4, c5, fun w hw => c6 w (List.mem_filter.mp hw).1, hKF, fun h => by cases h⟩
  have hl : lv_has ((lg_sl [Value.ref b] ++ List.replicate (4 - (lg_sl [Value.ref b]).length) Slot.unset).toArray) 4 (lv_args 0 [Value.ref b]) := lv_entry [Value.ref b] (n := 4) (Nat.le_of_ble_eq_true rfl)
  have hav : [Value.ref b] = [vR 70 0].map (cV E) := by
    show [Value.ref b] = [Value.ref E.1.2]
    rw [hE2]
  have hLH : LH E 4 ((lg_sl [Value.ref b] ++ List.replicate (4 - (lg_sl [Value.ref b]).length) Slot.unset).toArray) [vR 70 0, vX, vX, vX] := by
    rw [hav] at hl ⊢
    exact LH_start (av := [vR 70 0]) E hl
  have h1 := Wf_run (s0 := mem0) (below := below) (e := e) (l := l) (d := 64) (r := (some (vI 1), r2)) (Qc := fun _ _ o _ => o = .returned (some (.int 1))) hC (by rw [hE1]; rfl) ⟨Nat.le_of_ble_eq_true rfl, Nat.le_of_ble_eq_true rfl⟩ (snd_callN E (L, xs) l 64) (callN_mono (L, xs) 64) (Or.inl rfl) ckLaw c3 rfl c9
    ⟨by show nT r2 ≤ 0 + 600000; rw [Nat.zero_add]; exact hmc.1, by show nU r2 ≤ 0 + 7302250; rw [Nat.zero_add]; exact hmc.2⟩ (fun _ _ _ _ => rfl) n 0 _ _ _ hn
    (fun v hv => by
      simp only [List.mem_cons, List.not_mem_nil, or_false] at hv
      rcases hv with rfl | rfl | rfl | rfl
      · exact Or.inr (Or.inr (Or.inl rfl))
      · exact Or.inl rfl
      · exact Or.inl rfl
      · exact Or.inl rfl) (fun v hv => by cases hv) ⟨Nat.le_refl _, Nat.le_refl _⟩ s.heap [] _ (WD_mem0 E hE1.symm) hLH ⟨Nat.le_refl _, fun _ _ _ => rfl, fun _ h => by cases h⟩
  rw [lg_entry_eq]
  intro T hT X0
  obtain ⟨t, a1, a2⟩ := h1 T hT X0
  exact ⟨t, a1, law_end (mc := nT r2 - nT mem0) (ms := nU r2 - nU mem0) (fun q hq => by rw [← hE1]; exact hq) (by have := hmc.1; omega) (by have := hmc.2; omega) a2⟩
end
section
/-! the end -/
theorem law_run (L : Nat) (xs : Nat → Int32) (hL : L ≤ 3072) : ∃ r2 : Mem, nR (L, xs) (callN (L, xs) 64) hL_law 0 [vR 70 0, vX, vX, vX] [] mem0 = some (some (vI 1), r2) ∧ nT r2 ≤ 600000 ∧ nU r2 ≤ 7302250 := by
  sorry
theorem whole_start {p : Program} {e : Env} {s : State} {m : MethodId} {below : List Frame} {meth : Method} {c : Code} (l : Launch) (hflags : l.flags = flags0) {b L : Nat} {xs : Nat → Int32} (hL : L ≤ 3072) (C0 : lw_At p s m meth c b L xs) : W p l e room_1 s m #[Value.ref b] below meth c s.heap [] 0 0 (lw_Z below #[Value.ref b] s) (entryFrame m ([Value.ref b] : List Value).toArray 4) := by
  obtain ⟨r2, h1, h2⟩ := law_run L xs hL
  exact whole_of l hL C0 h1 h2
set_option maxHeartbeats 4000000 in
theorem lw_walk (l : Launch) (hflags : l.flags = flags0) (b : Addr) (xs : List Int32) : MetFree l x (headSpec (Jvm.Cond.code x code maxLocals ret :: tables_1) room_1) (lw_P b xs) (fun _ _ _ _ _ => True) lw_Q := by
  refine MetFree.of_bodyS (code := code) (maxLocals := maxLocals) (ret := ret) (by decide) ?_ ?_
  · intro args s m h hn
    obtain ⟨meth, c, h1, h2, h3, h4, h5, h6, -, -⟩ := Cond.code_spec hn (atoms_spec (ws := Jvm.Cond.code x code maxLocals ret :: tables_1) h _ List.mem_cons_self)
    exact ⟨meth, c, h1, h2, h3, h4, h5, h6⟩
  · intro p e s m args below meth c s₁ B hml0 hP _
    obtain ⟨rfl, hx, hbd, hgv⟩ := hP
    obtain ⟨scr, harrAt, hlist, hof, hsmall⟩ := hx
    obtain ⟨hcb, hkn, -, -⟩ := State.arrayAt?_spec harrAt
    have hown : s.vm.findClass R_law = some m.cls := findClass_of_methodNamed B.named
    have hts0 : ∀ c ∈ (Jvm.Cond.code x code maxLocals ret :: tables_1), c.before #[Value.ref b] s = true := atoms_spec (ws := Jvm.Cond.code x code maxLocals ret :: tables_1) B.pre
    have hts : ∀ w ∈ lw_tbl, w.before #[Value.ref b] s = true := k2_hts_sels lw_privs (fun w hw => hts0 w (List.mem_cons_of_mem _ hw)) lw_privs_ok
    have hml : c.maxLocals = 4 := B.maxLocals_eq (hts0 _ List.mem_cons_self)
    have X₀ : Stand p l e room_1 s m #[Value.ref b] below meth c s₁ [] 0 0 := Stand.of_body B
    have hh0 : s₁.heap = s.heap := by rw [B.state]; rfl
    have hsz : scr.slots.size = xs.length := by rw [← Array.length_toList, hlist, List.length_map]
    have hval : ∀ j : Nat, j < xs.length → scr.slots[j]? = some (.int (xs.getD j 0)) := fun j hj => by
      rw [← Array.getElem?_toList, hlist]
      simp [hj]
    have hbl : b < s.heap.size := (Array.getElem?_eq_some_iff.mp hcb).1
    have hX : va_X b xs.length (fun j => xs.getD j 0) s s.heap := ⟨scr, hcb, hof, hkn, hsz, hval⟩
    have K : W p l e room_1 s m #[Value.ref b] below meth c s₁.heap [] 0 0 (lw_Z below #[Value.ref b] s) (entryFrame m ([Value.ref b] : List Value).toArray 4) := by
      rw [hh0]
      exact whole_start l hflags hbd ⟨B.exec, B.bytes, B.returns, hml, hown, hts, hX, hbl, B.notSynchronized, hgv⟩
    obtain ⟨t, a1, o, b1, b2, b3⟩ := K s₁ rfl X₀
    exact ⟨t, o, a1, b1, b2, b3⟩
theorem lw_pre_spec {args : Array Value} {s : State} (h : (Jvm.Cond.and given_1 narrow_1).before args s = true) (hr : rest_1_c.before args s = true) : ∃ (b : Addr) (xs : List Int32), lw_P b xs args s := by
  have hs := flat_of_before _ h
  have hq := flat_of_before _ hr
  have hc : (Cond.count 1).before args s = true := hs _ (by decide +kernel)
  have harr : (Cond.arrayOf (.arg 0) .int).before args s = true := hs _ (by decide +kernel)
  have hle : (Cond.le (.length (.arg 0)) (.int 3072)).before args s = true := hs _ (by decide +kernel)
  have hlen : (Cond.isInt (.length (.arg 0))).before args s = true := hq _ (by decide +kernel)
  have hall : (Cond.all (.arg 0) (.isInt (.elem (.arg 0) (.index 0)))).before args s = true := hq _ (by decide +kernel)
  obtain ⟨b, xs, hb, hx⟩ := State.ints_of_pre rfl harr hlen hall
  have hsm : xs.length < 2 ^ 31 := hx.choose_spec.2.2.2
  have hev : (Term.length (.arg 0)).eval args s none [] s = some (.int xs.length.toInt32) := hx.length_eval hb
  have hv := Cond.le_ints hev (show (Term.int 3072).eval args s none [] s = some (.int 3072) from rfl)
  have hd : xs.length.toInt32 ≤ 3072 := by
    simpa [Cond.before, Cond.holds, hv] using hle
  have hN : xs.length ≤ 3072 := (Int32.ofNat_le_ofNat hsm (by decide)).mp (show Int32.ofNat xs.length ≤ Int32.ofNat 3072 from hd)
  exact ⟨b, xs, Cond.one_arg hc (show args[0]? = some (.ref b) from hb), hx, hN, h⟩
theorem lw_comes (l : Launch) (hflags : l.flags = flags0) : Comes l x (Jvm.Cond.code x code maxLocals ret :: tables_1) room_1 (fun tb e args s => Calls_1 tb e args s ∧ rest_1 tb e args s ∧ Pre_1 tb e args s)
    (fun _ _ args s o t => lw_Q args s o t) := by
  intro p e ha hc hk s m args below hf hfit hheap happ hpre
  obtain ⟨b, xs, hP⟩ := lw_pre_spec hpre.2.2 hpre.2.1
  obtain ⟨k, o, h1, h2, h3, hQ⟩ := lw_walk l hflags b xs p e ha hc hk s m args below hf ((Spec.applies_iff_loose hf).mp happ).1 hP trivial
  exact ⟨k, o, h1, h2, h3, hQ⟩
theorem lw_frame {s t : State} {o : Outcome} {args : Array Value} (h : Framed s o t [] 600000 7302250) :
    Framed s o t (fieldLocs frame_1_writes args s ++ arrayLocs frame_1_arrays args s ++ staticLocs frame_1_statics s) 600000 7302250 := h
theorem lw_limb (L : Cond) (hL : ∀ (args : Array Value) (s t : State), L.after args s (.returned (some (.int 1))) t = true) :
    ArmFor flags0 classFile x code maxLocals ret World_1 tables_1 room_1 Calls_1 rest_1 Pre_1
      (fun tb e a s o t => postC L tb e a s o t ∧ Framed s o t (fieldLocs frame_1_writes a s ++ arrayLocs frame_1_arrays a s ++ staticLocs frame_1_statics s) 600000 7302250) := by
  intro l hflags _ _ p e ha hc hk s m args below hf hfit hheap happ hpre
  obtain ⟨k, o, h1, h2, h3, rfl, hF⟩ := lw_comes l hflags p e ha hc hk s m args below hf hfit hheap happ hpre
  exact ⟨k, _, h1, h2, h3, hL args s _, lw_frame hF⟩
theorem i_vc : Claimed_1_1 ∧ Claimed_1_2 := ⟨lw_limb limb_1_1 (fun args s t => by simp [limb_1_1, Cond.after, Cond.holds, Cond.value]), lw_limb limb_1_2 (fun args s t => Cond.after_iff.mpr (by
  first | (rw [show limb_1_2 = Cond.eq .result (.int 1) from rfl, Cond.eq_ints (x := 1) (y := 1) rfl rfl]; simp; done) | (simp [limb_1_2, Cond.value, Term.eval]; done)))⟩
end
