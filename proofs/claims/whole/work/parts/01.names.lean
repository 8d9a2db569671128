-- ===== PART A: goes FIRST, ahead of the names: the tables' words, and 'selects' of the private methods out of them =====
/-- a private method of a class that the tables say can be made, by its rows of tables_1 -/
def lw_okq (q : MethodName × Nat) : Prop := (q.1.cls ≠ "java/lang/invoke/MethodHandle" ∧ q.1.cls ≠ "java/lang/invoke/VarHandle") ∧ Cond.instantiable q.1.cls q.2 ∈ tables_1 ∧ Cond.privateMethod q.1 ∈ tables_1 ∧ Cond.instanceMethod q.1 ∈ tables_1
theorem lw_p0 : lw_okq (⟨"WarmChairs$Tape", "look", "()V"⟩, 8) := ⟨⟨by decide +kernel, by decide +kernel⟩, List.mem_of_getElem? (i := 92) (by decide +kernel), List.mem_of_getElem? (i := 263) (by decide +kernel), List.mem_of_getElem? (i := 264) (by decide +kernel)⟩
theorem lw_p1 : lw_okq (⟨"WarmChairs$Tape", "word", "()I"⟩, 8) := ⟨⟨by decide +kernel, by decide +kernel⟩, List.mem_of_getElem? (i := 92) (by decide +kernel), List.mem_of_getElem? (i := 273) (by decide +kernel), List.mem_of_getElem? (i := 274) (by decide +kernel)⟩
theorem lw_p2 : lw_okq (⟨"WarmChairs$Tape", "spells", "(Ljava/lang/String;)Z"⟩, 8) := ⟨⟨by decide +kernel, by decide +kernel⟩, List.mem_of_getElem? (i := 92) (by decide +kernel), List.mem_of_getElem? (i := 278) (by decide +kernel), List.mem_of_getElem? (i := 279) (by decide +kernel)⟩
theorem lw_p3 : lw_okq (⟨"WarmChairs$Tape", "number", "()I"⟩, 8) := ⟨⟨by decide +kernel, by decide +kernel⟩, List.mem_of_getElem? (i := 92) (by decide +kernel), List.mem_of_getElem? (i := 298) (by decide +kernel), List.mem_of_getElem? (i := 299) (by decide +kernel)⟩
theorem lw_p4 : lw_okq (⟨"WarmChairs$Tape", "sign", "()I"⟩, 8) := ⟨⟨by decide +kernel, by decide +kernel⟩, List.mem_of_getElem? (i := 92) (by decide +kernel), List.mem_of_getElem? (i := 302) (by decide +kernel), List.mem_of_getElem? (i := 303) (by decide +kernel)⟩
theorem lw_p5 : lw_okq (⟨"WarmChairs$Tape", "passes", "(I)Z"⟩, 8) := ⟨⟨by decide +kernel, by decide +kernel⟩, List.mem_of_getElem? (i := 92) (by decide +kernel), List.mem_of_getElem? (i := 306) (by decide +kernel), List.mem_of_getElem? (i := 307) (by decide +kernel)⟩
theorem lw_p6 : lw_okq (⟨"WarmChairs$Tape", "isEither", "(I)Z"⟩, 8) := ⟨⟨by decide +kernel, by decide +kernel⟩, List.mem_of_getElem? (i := 92) (by decide +kernel), List.mem_of_getElem? (i := 310) (by decide +kernel), List.mem_of_getElem? (i := 311) (by decide +kernel)⟩
theorem lw_p7 : lw_okq (⟨"WarmChairs$Tape", "isBoth", "(I)Z"⟩, 8) := ⟨⟨by decide +kernel, by decide +kernel⟩, List.mem_of_getElem? (i := 92) (by decide +kernel), List.mem_of_getElem? (i := 314) (by decide +kernel), List.mem_of_getElem? (i := 315) (by decide +kernel)⟩
theorem lw_p8 : lw_okq (⟨"WarmChairs$Tape", "isNot", "(I)Z"⟩, 8) := ⟨⟨by decide +kernel, by decide +kernel⟩, List.mem_of_getElem? (i := 92) (by decide +kernel), List.mem_of_getElem? (i := 318) (by decide +kernel), List.mem_of_getElem? (i := 319) (by decide +kernel)⟩
theorem lw_p9 : lw_okq (⟨"WarmChairs$Tape", "emit", "(I)Z"⟩, 8) := ⟨⟨by decide +kernel, by decide +kernel⟩, List.mem_of_getElem? (i := 92) (by decide +kernel), List.mem_of_getElem? (i := 322) (by decide +kernel), List.mem_of_getElem? (i := 323) (by decide +kernel)⟩
theorem lw_p10 : lw_okq (⟨"WarmChairs$Tape", "isSum", "(I)Z"⟩, 8) := ⟨⟨by decide +kernel, by decide +kernel⟩, List.mem_of_getElem? (i := 92) (by decide +kernel), List.mem_of_getElem? (i := 326) (by decide +kernel), List.mem_of_getElem? (i := 327) (by decide +kernel)⟩
theorem lw_p11 : lw_okq (⟨"WarmChairs$Tape", "isTerm", "(I)Z"⟩, 8) := ⟨⟨by decide +kernel, by decide +kernel⟩, List.mem_of_getElem? (i := 92) (by decide +kernel), List.mem_of_getElem? (i := 330) (by decide +kernel), List.mem_of_getElem? (i := 331) (by decide +kernel)⟩
theorem lw_p12 : lw_okq (⟨"WarmChairs$Tape", "isOperand", "(I)Z"⟩, 8) := ⟨⟨by decide +kernel, by decide +kernel⟩, List.mem_of_getElem? (i := 92) (by decide +kernel), List.mem_of_getElem? (i := 334) (by decide +kernel), List.mem_of_getElem? (i := 335) (by decide +kernel)⟩
theorem lw_p13 : lw_okq (⟨"WarmChairs", "isPerson", "(I)Z"⟩, 14) := ⟨⟨by decide +kernel, by decide +kernel⟩, List.mem_of_getElem? (i := 18) (by decide +kernel), List.mem_of_getElem? (i := 436) (by decide +kernel), List.mem_of_getElem? (i := 437) (by decide +kernel)⟩
theorem lw_p14 : lw_okq (⟨"WarmChairs", "lawOf", "(LWarmChairs$House;)LWarmChairs$Law;"⟩, 14) := ⟨⟨by decide +kernel, by decide +kernel⟩, List.mem_of_getElem? (i := 18) (by decide +kernel), List.mem_of_getElem? (i := 483) (by decide +kernel), List.mem_of_getElem? (i := 484) (by decide +kernel)⟩
theorem lw_p15 : lw_okq (⟨"WarmChairs", "isChair", "(I)Z"⟩, 14) := ⟨⟨by decide +kernel, by decide +kernel⟩, List.mem_of_getElem? (i := 18) (by decide +kernel), List.mem_of_getElem? (i := 509) (by decide +kernel), List.mem_of_getElem? (i := 510) (by decide +kernel)⟩
def lw_privs_1 : List (MethodName × Nat) := [(⟨"WarmChairs$Tape", "look", "()V"⟩, 8), (⟨"WarmChairs$Tape", "word", "()I"⟩, 8), (⟨"WarmChairs$Tape", "spells", "(Ljava/lang/String;)Z"⟩, 8), (⟨"WarmChairs$Tape", "number", "()I"⟩, 8), (⟨"WarmChairs$Tape", "sign", "()I"⟩, 8), (⟨"WarmChairs$Tape", "passes", "(I)Z"⟩, 8), (⟨"WarmChairs$Tape", "isEither", "(I)Z"⟩, 8), (⟨"WarmChairs$Tape", "isBoth", "(I)Z"⟩, 8), (⟨"WarmChairs$Tape", "isNot", "(I)Z"⟩, 8), (⟨"WarmChairs$Tape", "emit", "(I)Z"⟩, 8), (⟨"WarmChairs$Tape", "isSum", "(I)Z"⟩, 8), (⟨"WarmChairs$Tape", "isTerm", "(I)Z"⟩, 8), (⟨"WarmChairs$Tape", "isOperand", "(I)Z"⟩, 8), (⟨"WarmChairs", "isPerson", "(I)Z"⟩, 14), (⟨"WarmChairs", "lawOf", "(LWarmChairs$House;)LWarmChairs$Law;"⟩, 14), (⟨"WarmChairs", "isChair", "(I)Z"⟩, 14)]
theorem lw_r1 : ∀ q ∈ lw_privs_1, lw_okq q := List.forall_mem_cons.mpr ⟨lw_p0, List.forall_mem_cons.mpr ⟨lw_p1, List.forall_mem_cons.mpr ⟨lw_p2, List.forall_mem_cons.mpr ⟨lw_p3, List.forall_mem_cons.mpr ⟨lw_p4, List.forall_mem_cons.mpr ⟨lw_p5, List.forall_mem_cons.mpr ⟨lw_p6, List.forall_mem_cons.mpr ⟨lw_p7, List.forall_mem_cons.mpr ⟨lw_p8, List.forall_mem_cons.mpr ⟨lw_p9, List.forall_mem_cons.mpr ⟨lw_p10, List.forall_mem_cons.mpr ⟨lw_p11, List.forall_mem_cons.mpr ⟨lw_p12, List.forall_mem_cons.mpr ⟨lw_p13, List.forall_mem_cons.mpr ⟨lw_p14, List.forall_mem_cons.mpr ⟨lw_p15, fun _ h => absurd h List.not_mem_nil⟩⟩⟩⟩⟩⟩⟩⟩⟩⟩⟩⟩⟩⟩⟩⟩
theorem lw_p16 : lw_okq (⟨"WarmChairs", "liveAsItIs", "(I)V"⟩, 14) := ⟨⟨by decide +kernel, by decide +kernel⟩, List.mem_of_getElem? (i := 18) (by decide +kernel), List.mem_of_getElem? (i := 521) (by decide +kernel), List.mem_of_getElem? (i := 522) (by decide +kernel)⟩
theorem lw_p17 : lw_okq (⟨"WarmChairs$Evening", "start", "()V"⟩, 13) := ⟨⟨by decide +kernel, by decide +kernel⟩, List.mem_of_getElem? (i := 129) (by decide +kernel), List.mem_of_getElem? (i := 534) (by decide +kernel), List.mem_of_getElem? (i := 535) (by decide +kernel)⟩
theorem lw_p18 : lw_okq (⟨"WarmChairs$Evening", "rise", "(LWarmChairs$Law;II)V"⟩, 13) := ⟨⟨by decide +kernel, by decide +kernel⟩, List.mem_of_getElem? (i := 129) (by decide +kernel), List.mem_of_getElem? (i := 541) (by decide +kernel), List.mem_of_getElem? (i := 542) (by decide +kernel)⟩
theorem lw_p19 : lw_okq (⟨"WarmChairs$Evening", "nameFor", "(IIII)V"⟩, 13) := ⟨⟨by decide +kernel, by decide +kernel⟩, List.mem_of_getElem? (i := 129) (by decide +kernel), List.mem_of_getElem? (i := 545) (by decide +kernel), List.mem_of_getElem? (i := 546) (by decide +kernel)⟩
theorem lw_p20 : lw_okq (⟨"WarmChairs$Evening", "sitDown", "(LWarmChairs$Law;I)V"⟩, 13) := ⟨⟨by decide +kernel, by decide +kernel⟩, List.mem_of_getElem? (i := 129) (by decide +kernel), List.mem_of_getElem? (i := 554) (by decide +kernel), List.mem_of_getElem? (i := 555) (by decide +kernel)⟩
theorem lw_p21 : lw_okq (⟨"WarmChairs$Evening", "wants", "(II)Z"⟩, 13) := ⟨⟨by decide +kernel, by decide +kernel⟩, List.mem_of_getElem? (i := 129) (by decide +kernel), List.mem_of_getElem? (i := 558) (by decide +kernel), List.mem_of_getElem? (i := 559) (by decide +kernel)⟩
theorem lw_p22 : lw_okq (⟨"WarmChairs$Evening", "nextOne", "()I"⟩, 13) := ⟨⟨by decide +kernel, by decide +kernel⟩, List.mem_of_getElem? (i := 129) (by decide +kernel), List.mem_of_getElem? (i := 562) (by decide +kernel), List.mem_of_getElem? (i := 563) (by decide +kernel)⟩
theorem lw_p23 : lw_okq (⟨"WarmChairs$Evening", "nextChair", "(I)I"⟩, 13) := ⟨⟨by decide +kernel, by decide +kernel⟩, List.mem_of_getElem? (i := 129) (by decide +kernel), List.mem_of_getElem? (i := 566) (by decide +kernel), List.mem_of_getElem? (i := 567) (by decide +kernel)⟩
theorem lw_p24 : lw_okq (⟨"WarmChairs$Evening", "isWarm", "(II)Z"⟩, 13) := ⟨⟨by decide +kernel, by decide +kernel⟩, List.mem_of_getElem? (i := 129) (by decide +kernel), List.mem_of_getElem? (i := 574) (by decide +kernel), List.mem_of_getElem? (i := 575) (by decide +kernel)⟩
theorem lw_p25 : lw_okq (⟨"WarmChairs$Evening", "isTakenAhead", "(II)Z"⟩, 13) := ⟨⟨by decide +kernel, by decide +kernel⟩, List.mem_of_getElem? (i := 129) (by decide +kernel), List.mem_of_getElem? (i := 581) (by decide +kernel), List.mem_of_getElem? (i := 582) (by decide +kernel)⟩
theorem lw_p26 : lw_okq (⟨"WarmChairs", "risesBySet", "(I)I"⟩, 14) := ⟨⟨by decide +kernel, by decide +kernel⟩, List.mem_of_getElem? (i := 18) (by decide +kernel), List.mem_of_getElem? (i := 626) (by decide +kernel), List.mem_of_getElem? (i := 627) (by decide +kernel)⟩
theorem lw_p27 : lw_okq (⟨"WarmChairs", "forgetBest", "()V"⟩, 14) := ⟨⟨by decide +kernel, by decide +kernel⟩, List.mem_of_getElem? (i := 18) (by decide +kernel), List.mem_of_getElem? (i := 634) (by decide +kernel), List.mem_of_getElem? (i := 635) (by decide +kernel)⟩
theorem lw_p28 : lw_okq (⟨"WarmChairs", "isBest", "()Z"⟩, 14) := ⟨⟨by decide +kernel, by decide +kernel⟩, List.mem_of_getElem? (i := 18) (by decide +kernel), List.mem_of_getElem? (i := 638) (by decide +kernel), List.mem_of_getElem? (i := 639) (by decide +kernel)⟩
theorem lw_p29 : lw_okq (⟨"WarmChairs", "bestTold", "(II)I"⟩, 14) := ⟨⟨by decide +kernel, by decide +kernel⟩, List.mem_of_getElem? (i := 18) (by decide +kernel), List.mem_of_getElem? (i := 642) (by decide +kernel), List.mem_of_getElem? (i := 643) (by decide +kernel)⟩
theorem lw_p30 : lw_okq (⟨"WarmChairs", "findOrder", "()V"⟩, 14) := ⟨⟨by decide +kernel, by decide +kernel⟩, List.mem_of_getElem? (i := 18) (by decide +kernel), List.mem_of_getElem? (i := 650) (by decide +kernel), List.mem_of_getElem? (i := 651) (by decide +kernel)⟩
theorem lw_p31 : lw_okq (⟨"WarmChairs", "nextRow", "(I)Z"⟩, 14) := ⟨⟨by decide +kernel, by decide +kernel⟩, List.mem_of_getElem? (i := 18) (by decide +kernel), List.mem_of_getElem? (i := 655) (by decide +kernel), List.mem_of_getElem? (i := 656) (by decide +kernel)⟩
def lw_privs_2 : List (MethodName × Nat) := [(⟨"WarmChairs", "liveAsItIs", "(I)V"⟩, 14), (⟨"WarmChairs$Evening", "start", "()V"⟩, 13), (⟨"WarmChairs$Evening", "rise", "(LWarmChairs$Law;II)V"⟩, 13), (⟨"WarmChairs$Evening", "nameFor", "(IIII)V"⟩, 13), (⟨"WarmChairs$Evening", "sitDown", "(LWarmChairs$Law;I)V"⟩, 13), (⟨"WarmChairs$Evening", "wants", "(II)Z"⟩, 13), (⟨"WarmChairs$Evening", "nextOne", "()I"⟩, 13), (⟨"WarmChairs$Evening", "nextChair", "(I)I"⟩, 13), (⟨"WarmChairs$Evening", "isWarm", "(II)Z"⟩, 13), (⟨"WarmChairs$Evening", "isTakenAhead", "(II)Z"⟩, 13), (⟨"WarmChairs", "risesBySet", "(I)I"⟩, 14), (⟨"WarmChairs", "forgetBest", "()V"⟩, 14), (⟨"WarmChairs", "isBest", "()Z"⟩, 14), (⟨"WarmChairs", "bestTold", "(II)I"⟩, 14), (⟨"WarmChairs", "findOrder", "()V"⟩, 14), (⟨"WarmChairs", "nextRow", "(I)Z"⟩, 14)]
theorem lw_r2 : ∀ q ∈ lw_privs_2, lw_okq q := List.forall_mem_cons.mpr ⟨lw_p16, List.forall_mem_cons.mpr ⟨lw_p17, List.forall_mem_cons.mpr ⟨lw_p18, List.forall_mem_cons.mpr ⟨lw_p19, List.forall_mem_cons.mpr ⟨lw_p20, List.forall_mem_cons.mpr ⟨lw_p21, List.forall_mem_cons.mpr ⟨lw_p22, List.forall_mem_cons.mpr ⟨lw_p23, List.forall_mem_cons.mpr ⟨lw_p24, List.forall_mem_cons.mpr ⟨lw_p25, List.forall_mem_cons.mpr ⟨lw_p26, List.forall_mem_cons.mpr ⟨lw_p27, List.forall_mem_cons.mpr ⟨lw_p28, List.forall_mem_cons.mpr ⟨lw_p29, List.forall_mem_cons.mpr ⟨lw_p30, List.forall_mem_cons.mpr ⟨lw_p31, fun _ h => absurd h List.not_mem_nil⟩⟩⟩⟩⟩⟩⟩⟩⟩⟩⟩⟩⟩⟩⟩⟩
theorem lw_p32 : lw_okq (⟨"WarmChairs", "coldMinute", "(III)I"⟩, 14) := ⟨⟨by decide +kernel, by decide +kernel⟩, List.mem_of_getElem? (i := 18) (by decide +kernel), List.mem_of_getElem? (i := 688) (by decide +kernel), List.mem_of_getElem? (i := 689) (by decide +kernel)⟩
theorem lw_p33 : lw_okq (⟨"WarmChairs", "refusalOfTold", "(II)I"⟩, 14) := ⟨⟨by decide +kernel, by decide +kernel⟩, List.mem_of_getElem? (i := 18) (by decide +kernel), List.mem_of_getElem? (i := 700) (by decide +kernel), List.mem_of_getElem? (i := 701) (by decide +kernel)⟩
theorem lw_p34 : lw_okq (⟨"WarmChairs", "firstOtherwise", "(LWarmChairs$Sheet;I)I"⟩, 14) := ⟨⟨by decide +kernel, by decide +kernel⟩, List.mem_of_getElem? (i := 18) (by decide +kernel), List.mem_of_getElem? (i := 711) (by decide +kernel), List.mem_of_getElem? (i := 712) (by decide +kernel)⟩
theorem lw_p35 : lw_okq (⟨"WarmChairs", "setBySeed", "(I)I"⟩, 14) := ⟨⟨by decide +kernel, by decide +kernel⟩, List.mem_of_getElem? (i := 18) (by decide +kernel), List.mem_of_getElem? (i := 750) (by decide +kernel), List.mem_of_getElem? (i := 751) (by decide +kernel)⟩
theorem lw_p36 : lw_okq (⟨"WarmChairsModel", "next", "()V"⟩, 47) := ⟨⟨by decide +kernel, by decide +kernel⟩, List.mem_of_getElem? (i := 800) (by decide +kernel), List.mem_of_getElem? (i := 810) (by decide +kernel), List.mem_of_getElem? (i := 811) (by decide +kernel)⟩
theorem lw_p37 : lw_okq (⟨"WarmChairsModel", "wordFrom", "(II)I"⟩, 47) := ⟨⟨by decide +kernel, by decide +kernel⟩, List.mem_of_getElem? (i := 800) (by decide +kernel), List.mem_of_getElem? (i := 817) (by decide +kernel), List.mem_of_getElem? (i := 818) (by decide +kernel)⟩
theorem lw_p38 : lw_okq (⟨"WarmChairsModel", "eRead", "()Z"⟩, 47) := ⟨⟨by decide +kernel, by decide +kernel⟩, List.mem_of_getElem? (i := 800) (by decide +kernel), List.mem_of_getElem? (i := 821) (by decide +kernel), List.mem_of_getElem? (i := 822) (by decide +kernel)⟩
theorem lw_p39 : lw_okq (⟨"WarmChairsModel", "puts", "(I)V"⟩, 47) := ⟨⟨by decide +kernel, by decide +kernel⟩, List.mem_of_getElem? (i := 800) (by decide +kernel), List.mem_of_getElem? (i := 826) (by decide +kernel), List.mem_of_getElem? (i := 827) (by decide +kernel)⟩
theorem lw_p40 : lw_okq (⟨"WarmChairsModel", "unwinds", "(I)V"⟩, 47) := ⟨⟨by decide +kernel, by decide +kernel⟩, List.mem_of_getElem? (i := 800) (by decide +kernel), List.mem_of_getElem? (i := 830) (by decide +kernel), List.mem_of_getElem? (i := 831) (by decide +kernel)⟩
theorem lw_p41 : lw_okq (⟨"WarmChairsModel", "opensOne", "(I)Z"⟩, 47) := ⟨⟨by decide +kernel, by decide +kernel⟩, List.mem_of_getElem? (i := 800) (by decide +kernel), List.mem_of_getElem? (i := 837) (by decide +kernel), List.mem_of_getElem? (i := 838) (by decide +kernel)⟩
theorem lw_p42 : lw_okq (⟨"WarmChairsModel", "holds", "(I)V"⟩, 47) := ⟨⟨by decide +kernel, by decide +kernel⟩, List.mem_of_getElem? (i := 800) (by decide +kernel), List.mem_of_getElem? (i := 841) (by decide +kernel), List.mem_of_getElem? (i := 842) (by decide +kernel)⟩
theorem lw_p43 : lw_okq (⟨"WarmChairsModel", "signOf", "()I"⟩, 47) := ⟨⟨by decide +kernel, by decide +kernel⟩, List.mem_of_getElem? (i := 800) (by decide +kernel), List.mem_of_getElem? (i := 845) (by decide +kernel), List.mem_of_getElem? (i := 846) (by decide +kernel)⟩
theorem lw_p44 : lw_okq (⟨"WarmChairsModel", "between", "(I)Z"⟩, 47) := ⟨⟨by decide +kernel, by decide +kernel⟩, List.mem_of_getElem? (i := 800) (by decide +kernel), List.mem_of_getElem? (i := 849) (by decide +kernel), List.mem_of_getElem? (i := 850) (by decide +kernel)⟩
theorem lw_p45 : lw_okq (⟨"WarmChairsModel", "isOne", "(I)Z"⟩, 47) := ⟨⟨by decide +kernel, by decide +kernel⟩, List.mem_of_getElem? (i := 800) (by decide +kernel), List.mem_of_getElem? (i := 1003) (by decide +kernel), List.mem_of_getElem? (i := 1004) (by decide +kernel)⟩
theorem lw_p46 : lw_okq (⟨"WarmChairsModel", "asksOf", "(IIIIIII)I"⟩, 47) := ⟨⟨by decide +kernel, by decide +kernel⟩, List.mem_of_getElem? (i := 800) (by decide +kernel), List.mem_of_getElem? (i := 1035) (by decide +kernel), List.mem_of_getElem? (i := 1036) (by decide +kernel)⟩
theorem lw_p47 : lw_okq (⟨"WarmChairsModel", "worth", "(I)I"⟩, 47) := ⟨⟨by decide +kernel, by decide +kernel⟩, List.mem_of_getElem? (i := 800) (by decide +kernel), List.mem_of_getElem? (i := 1039) (by decide +kernel), List.mem_of_getElem? (i := 1040) (by decide +kernel)⟩
def lw_privs_3 : List (MethodName × Nat) := [(⟨"WarmChairs", "coldMinute", "(III)I"⟩, 14), (⟨"WarmChairs", "refusalOfTold", "(II)I"⟩, 14), (⟨"WarmChairs", "firstOtherwise", "(LWarmChairs$Sheet;I)I"⟩, 14), (⟨"WarmChairs", "setBySeed", "(I)I"⟩, 14), (⟨"WarmChairsModel", "next", "()V"⟩, 47), (⟨"WarmChairsModel", "wordFrom", "(II)I"⟩, 47), (⟨"WarmChairsModel", "eRead", "()Z"⟩, 47), (⟨"WarmChairsModel", "puts", "(I)V"⟩, 47), (⟨"WarmChairsModel", "unwinds", "(I)V"⟩, 47), (⟨"WarmChairsModel", "opensOne", "(I)Z"⟩, 47), (⟨"WarmChairsModel", "holds", "(I)V"⟩, 47), (⟨"WarmChairsModel", "signOf", "()I"⟩, 47), (⟨"WarmChairsModel", "between", "(I)Z"⟩, 47), (⟨"WarmChairsModel", "isOne", "(I)Z"⟩, 47), (⟨"WarmChairsModel", "asksOf", "(IIIIIII)I"⟩, 47), (⟨"WarmChairsModel", "worth", "(I)I"⟩, 47)]
theorem lw_r3 : ∀ q ∈ lw_privs_3, lw_okq q := List.forall_mem_cons.mpr ⟨lw_p32, List.forall_mem_cons.mpr ⟨lw_p33, List.forall_mem_cons.mpr ⟨lw_p34, List.forall_mem_cons.mpr ⟨lw_p35, List.forall_mem_cons.mpr ⟨lw_p36, List.forall_mem_cons.mpr ⟨lw_p37, List.forall_mem_cons.mpr ⟨lw_p38, List.forall_mem_cons.mpr ⟨lw_p39, List.forall_mem_cons.mpr ⟨lw_p40, List.forall_mem_cons.mpr ⟨lw_p41, List.forall_mem_cons.mpr ⟨lw_p42, List.forall_mem_cons.mpr ⟨lw_p43, List.forall_mem_cons.mpr ⟨lw_p44, List.forall_mem_cons.mpr ⟨lw_p45, List.forall_mem_cons.mpr ⟨lw_p46, List.forall_mem_cons.mpr ⟨lw_p47, fun _ h => absurd h List.not_mem_nil⟩⟩⟩⟩⟩⟩⟩⟩⟩⟩⟩⟩⟩⟩⟩⟩
theorem lw_p48 : lw_okq (⟨"WarmChairsModel", "isChair", "(I)Z"⟩, 47) := ⟨⟨by decide +kernel, by decide +kernel⟩, List.mem_of_getElem? (i := 800) (by decide +kernel), List.mem_of_getElem? (i := 1060) (by decide +kernel), List.mem_of_getElem? (i := 1061) (by decide +kernel)⟩
theorem lw_p49 : lw_okq (⟨"WarmChairsModel", "lives", "(I)V"⟩, 47) := ⟨⟨by decide +kernel, by decide +kernel⟩, List.mem_of_getElem? (i := 800) (by decide +kernel), List.mem_of_getElem? (i := 1075) (by decide +kernel), List.mem_of_getElem? (i := 1076) (by decide +kernel)⟩
theorem lw_p50 : lw_okq (⟨"WarmChairsModel", "begins", "()V"⟩, 47) := ⟨⟨by decide +kernel, by decide +kernel⟩, List.mem_of_getElem? (i := 800) (by decide +kernel), List.mem_of_getElem? (i := 1079) (by decide +kernel), List.mem_of_getElem? (i := 1080) (by decide +kernel)⟩
theorem lw_p51 : lw_okq (⟨"WarmChairsModel", "rises", "(I)V"⟩, 47) := ⟨⟨by decide +kernel, by decide +kernel⟩, List.mem_of_getElem? (i := 800) (by decide +kernel), List.mem_of_getElem? (i := 1083) (by decide +kernel), List.mem_of_getElem? (i := 1084) (by decide +kernel)⟩
theorem lw_p52 : lw_okq (⟨"WarmChairsModel", "keepsWarm", "(III)I"⟩, 47) := ⟨⟨by decide +kernel, by decide +kernel⟩, List.mem_of_getElem? (i := 800) (by decide +kernel), List.mem_of_getElem? (i := 1087) (by decide +kernel), List.mem_of_getElem? (i := 1088) (by decide +kernel)⟩
theorem lw_p53 : lw_okq (⟨"WarmChairsModel", "sitsDown", "(I)V"⟩, 47) := ⟨⟨by decide +kernel, by decide +kernel⟩, List.mem_of_getElem? (i := 800) (by decide +kernel), List.mem_of_getElem? (i := 1091) (by decide +kernel), List.mem_of_getElem? (i := 1092) (by decide +kernel)⟩
theorem lw_p54 : lw_okq (⟨"WarmChairsModel", "wants", "(II)Z"⟩, 47) := ⟨⟨by decide +kernel, by decide +kernel⟩, List.mem_of_getElem? (i := 800) (by decide +kernel), List.mem_of_getElem? (i := 1095) (by decide +kernel), List.mem_of_getElem? (i := 1096) (by decide +kernel)⟩
theorem lw_p55 : lw_okq (⟨"WarmChairsModel", "nextOne", "()I"⟩, 47) := ⟨⟨by decide +kernel, by decide +kernel⟩, List.mem_of_getElem? (i := 800) (by decide +kernel), List.mem_of_getElem? (i := 1099) (by decide +kernel), List.mem_of_getElem? (i := 1100) (by decide +kernel)⟩
theorem lw_p56 : lw_okq (⟨"WarmChairsModel", "takes", "(I)I"⟩, 47) := ⟨⟨by decide +kernel, by decide +kernel⟩, List.mem_of_getElem? (i := 800) (by decide +kernel), List.mem_of_getElem? (i := 1103) (by decide +kernel), List.mem_of_getElem? (i := 1104) (by decide +kernel)⟩
theorem lw_p57 : lw_okq (⟨"WarmChairsModel", "isWarm", "(II)Z"⟩, 47) := ⟨⟨by decide +kernel, by decide +kernel⟩, List.mem_of_getElem? (i := 800) (by decide +kernel), List.mem_of_getElem? (i := 1107) (by decide +kernel), List.mem_of_getElem? (i := 1108) (by decide +kernel)⟩
theorem lw_p58 : lw_okq (⟨"WarmChairsModel", "isSat", "(I)Z"⟩, 47) := ⟨⟨by decide +kernel, by decide +kernel⟩, List.mem_of_getElem? (i := 800) (by decide +kernel), List.mem_of_getElem? (i := 1111) (by decide +kernel), List.mem_of_getElem? (i := 1112) (by decide +kernel)⟩
theorem lw_p59 : lw_okq (⟨"WarmChairsModel", "lets", "(II)Z"⟩, 47) := ⟨⟨by decide +kernel, by decide +kernel⟩, List.mem_of_getElem? (i := 800) (by decide +kernel), List.mem_of_getElem? (i := 1115) (by decide +kernel), List.mem_of_getElem? (i := 1116) (by decide +kernel)⟩
theorem lw_p60 : lw_okq (⟨"WarmChairsModel", "risen", "()I"⟩, 47) := ⟨⟨by decide +kernel, by decide +kernel⟩, List.mem_of_getElem? (i := 800) (by decide +kernel), List.mem_of_getElem? (i := 1127) (by decide +kernel), List.mem_of_getElem? (i := 1128) (by decide +kernel)⟩
theorem lw_p61 : lw_okq (⟨"WarmChairsModel", "stoodAll", "()I"⟩, 47) := ⟨⟨by decide +kernel, by decide +kernel⟩, List.mem_of_getElem? (i := 800) (by decide +kernel), List.mem_of_getElem? (i := 1131) (by decide +kernel), List.mem_of_getElem? (i := 1132) (by decide +kernel)⟩
theorem lw_p62 : lw_okq (⟨"WarmChairsModel", "longest", "()I"⟩, 47) := ⟨⟨by decide +kernel, by decide +kernel⟩, List.mem_of_getElem? (i := 800) (by decide +kernel), List.mem_of_getElem? (i := 1135) (by decide +kernel), List.mem_of_getElem? (i := 1136) (by decide +kernel)⟩
theorem lw_p63 : lw_okq (⟨"WarmChairsModel", "warmIn", "(I)I"⟩, 47) := ⟨⟨by decide +kernel, by decide +kernel⟩, List.mem_of_getElem? (i := 800) (by decide +kernel), List.mem_of_getElem? (i := 1139) (by decide +kernel), List.mem_of_getElem? (i := 1140) (by decide +kernel)⟩
def lw_privs_4 : List (MethodName × Nat) := [(⟨"WarmChairsModel", "isChair", "(I)Z"⟩, 47), (⟨"WarmChairsModel", "lives", "(I)V"⟩, 47), (⟨"WarmChairsModel", "begins", "()V"⟩, 47), (⟨"WarmChairsModel", "rises", "(I)V"⟩, 47), (⟨"WarmChairsModel", "keepsWarm", "(III)I"⟩, 47), (⟨"WarmChairsModel", "sitsDown", "(I)V"⟩, 47), (⟨"WarmChairsModel", "wants", "(II)Z"⟩, 47), (⟨"WarmChairsModel", "nextOne", "()I"⟩, 47), (⟨"WarmChairsModel", "takes", "(I)I"⟩, 47), (⟨"WarmChairsModel", "isWarm", "(II)Z"⟩, 47), (⟨"WarmChairsModel", "isSat", "(I)Z"⟩, 47), (⟨"WarmChairsModel", "lets", "(II)Z"⟩, 47), (⟨"WarmChairsModel", "risen", "()I"⟩, 47), (⟨"WarmChairsModel", "stoodAll", "()I"⟩, 47), (⟨"WarmChairsModel", "longest", "()I"⟩, 47), (⟨"WarmChairsModel", "warmIn", "(I)I"⟩, 47)]
theorem lw_r4 : ∀ q ∈ lw_privs_4, lw_okq q := List.forall_mem_cons.mpr ⟨lw_p48, List.forall_mem_cons.mpr ⟨lw_p49, List.forall_mem_cons.mpr ⟨lw_p50, List.forall_mem_cons.mpr ⟨lw_p51, List.forall_mem_cons.mpr ⟨lw_p52, List.forall_mem_cons.mpr ⟨lw_p53, List.forall_mem_cons.mpr ⟨lw_p54, List.forall_mem_cons.mpr ⟨lw_p55, List.forall_mem_cons.mpr ⟨lw_p56, List.forall_mem_cons.mpr ⟨lw_p57, List.forall_mem_cons.mpr ⟨lw_p58, List.forall_mem_cons.mpr ⟨lw_p59, List.forall_mem_cons.mpr ⟨lw_p60, List.forall_mem_cons.mpr ⟨lw_p61, List.forall_mem_cons.mpr ⟨lw_p62, List.forall_mem_cons.mpr ⟨lw_p63, fun _ h => absurd h List.not_mem_nil⟩⟩⟩⟩⟩⟩⟩⟩⟩⟩⟩⟩⟩⟩⟩⟩
theorem lw_p64 : lw_okq (⟨"WarmChairsModel", "satOn", "()I"⟩, 47) := ⟨⟨by decide +kernel, by decide +kernel⟩, List.mem_of_getElem? (i := 800) (by decide +kernel), List.mem_of_getElem? (i := 1143) (by decide +kernel), List.mem_of_getElem? (i := 1144) (by decide +kernel)⟩
theorem lw_p65 : lw_okq (⟨"WarmChairsModel", "costs", "()I"⟩, 47) := ⟨⟨by decide +kernel, by decide +kernel⟩, List.mem_of_getElem? (i := 800) (by decide +kernel), List.mem_of_getElem? (i := 1147) (by decide +kernel), List.mem_of_getElem? (i := 1148) (by decide +kernel)⟩
theorem lw_p66 : lw_okq (⟨"WarmChairsModel", "worthOfEvening", "()I"⟩, 47) := ⟨⟨by decide +kernel, by decide +kernel⟩, List.mem_of_getElem? (i := 800) (by decide +kernel), List.mem_of_getElem? (i := 1167) (by decide +kernel), List.mem_of_getElem? (i := 1168) (by decide +kernel)⟩
theorem lw_p67 : lw_okq (⟨"WarmChairsModel", "told3", "(III)I"⟩, 47) := ⟨⟨by decide +kernel, by decide +kernel⟩, List.mem_of_getElem? (i := 800) (by decide +kernel), List.mem_of_getElem? (i := 1171) (by decide +kernel), List.mem_of_getElem? (i := 1172) (by decide +kernel)⟩
theorem lw_p68 : lw_okq (⟨"WarmChairsModel", "findsOrder", "()V"⟩, 47) := ⟨⟨by decide +kernel, by decide +kernel⟩, List.mem_of_getElem? (i := 800) (by decide +kernel), List.mem_of_getElem? (i := 1185) (by decide +kernel), List.mem_of_getElem? (i := 1186) (by decide +kernel)⟩
theorem lw_p69 : lw_okq (⟨"WarmChairsModel", "orders", "(III)V"⟩, 47) := ⟨⟨by decide +kernel, by decide +kernel⟩, List.mem_of_getElem? (i := 800) (by decide +kernel), List.mem_of_getElem? (i := 1189) (by decide +kernel), List.mem_of_getElem? (i := 1190) (by decide +kernel)⟩
theorem lw_p70 : lw_okq (⟨"WarmChairsModel", "changesAbout", "(II)V"⟩, 47) := ⟨⟨by decide +kernel, by decide +kernel⟩, List.mem_of_getElem? (i := 800) (by decide +kernel), List.mem_of_getElem? (i := 1209) (by decide +kernel), List.mem_of_getElem? (i := 1210) (by decide +kernel)⟩
theorem lw_p71 : lw_okq (⟨"WarmChairsModel", "keepsTill", "(III)I"⟩, 47) := ⟨⟨by decide +kernel, by decide +kernel⟩, List.mem_of_getElem? (i := 800) (by decide +kernel), List.mem_of_getElem? (i := 1217) (by decide +kernel), List.mem_of_getElem? (i := 1218) (by decide +kernel)⟩
theorem lw_p72 : lw_okq (⟨"WarmChairsModel", "leastTill", "(I)I"⟩, 47) := ⟨⟨by decide +kernel, by decide +kernel⟩, List.mem_of_getElem? (i := 800) (by decide +kernel), List.mem_of_getElem? (i := 1221) (by decide +kernel), List.mem_of_getElem? (i := 1222) (by decide +kernel)⟩
theorem lw_p73 : lw_okq (⟨"WarmChairsModel", "sheetWrong", "(II)I"⟩, 47) := ⟨⟨by decide +kernel, by decide +kernel⟩, List.mem_of_getElem? (i := 800) (by decide +kernel), List.mem_of_getElem? (i := 1233) (by decide +kernel), List.mem_of_getElem? (i := 1234) (by decide +kernel)⟩
theorem lw_p74 : lw_okq (⟨"WarmChairsModel", "unlike", "(II)I"⟩, 47) := ⟨⟨by decide +kernel, by decide +kernel⟩, List.mem_of_getElem? (i := 800) (by decide +kernel), List.mem_of_getElem? (i := 1237) (by decide +kernel), List.mem_of_getElem? (i := 1238) (by decide +kernel)⟩
theorem lw_p75 : lw_okq (⟨"WarmChairsModel", "looksOf", "(II)I"⟩, 47) := ⟨⟨by decide +kernel, by decide +kernel⟩, List.mem_of_getElem? (i := 800) (by decide +kernel), List.mem_of_getElem? (i := 1241) (by decide +kernel), List.mem_of_getElem? (i := 1242) (by decide +kernel)⟩
theorem lw_p76 : lw_okq (⟨"WarmChairsModel", "risenBy", "(I)I"⟩, 47) := ⟨⟨by decide +kernel, by decide +kernel⟩, List.mem_of_getElem? (i := 800) (by decide +kernel), List.mem_of_getElem? (i := 1263) (by decide +kernel), List.mem_of_getElem? (i := 1264) (by decide +kernel)⟩
def lw_privs_5 : List (MethodName × Nat) := [(⟨"WarmChairsModel", "satOn", "()I"⟩, 47), (⟨"WarmChairsModel", "costs", "()I"⟩, 47), (⟨"WarmChairsModel", "worthOfEvening", "()I"⟩, 47), (⟨"WarmChairsModel", "told3", "(III)I"⟩, 47), (⟨"WarmChairsModel", "findsOrder", "()V"⟩, 47), (⟨"WarmChairsModel", "orders", "(III)V"⟩, 47), (⟨"WarmChairsModel", "changesAbout", "(II)V"⟩, 47), (⟨"WarmChairsModel", "keepsTill", "(III)I"⟩, 47), (⟨"WarmChairsModel", "leastTill", "(I)I"⟩, 47), (⟨"WarmChairsModel", "sheetWrong", "(II)I"⟩, 47), (⟨"WarmChairsModel", "unlike", "(II)I"⟩, 47), (⟨"WarmChairsModel", "looksOf", "(II)I"⟩, 47), (⟨"WarmChairsModel", "risenBy", "(I)I"⟩, 47)]
theorem lw_r5 : ∀ q ∈ lw_privs_5, lw_okq q := List.forall_mem_cons.mpr ⟨lw_p64, List.forall_mem_cons.mpr ⟨lw_p65, List.forall_mem_cons.mpr ⟨lw_p66, List.forall_mem_cons.mpr ⟨lw_p67, List.forall_mem_cons.mpr ⟨lw_p68, List.forall_mem_cons.mpr ⟨lw_p69, List.forall_mem_cons.mpr ⟨lw_p70, List.forall_mem_cons.mpr ⟨lw_p71, List.forall_mem_cons.mpr ⟨lw_p72, List.forall_mem_cons.mpr ⟨lw_p73, List.forall_mem_cons.mpr ⟨lw_p74, List.forall_mem_cons.mpr ⟨lw_p75, List.forall_mem_cons.mpr ⟨lw_p76, fun _ h => absurd h List.not_mem_nil⟩⟩⟩⟩⟩⟩⟩⟩⟩⟩⟩⟩⟩
def lw_privs : List (MethodName × Nat) := lw_privs_1 ++ (lw_privs_2 ++ (lw_privs_3 ++ (lw_privs_4 ++ (lw_privs_5))))
def lw_tbl : List Cond := k2_sels lw_privs ++ tables_1
theorem lw_privs_ok : ∀ q ∈ lw_privs, lw_okq q := by
  show ∀ q ∈ lw_privs_1 ++ (lw_privs_2 ++ (lw_privs_3 ++ (lw_privs_4 ++ (lw_privs_5)))), lw_okq q
  exact List.forall_mem_append.mpr ⟨lw_r1, List.forall_mem_append.mpr ⟨lw_r2, List.forall_mem_append.mpr ⟨lw_r3, List.forall_mem_append.mpr ⟨lw_r4, lw_r5⟩⟩⟩⟩
def RX0 : String := "WarmChairs$Evening"
def TX0 : u_T := fun k => match k with
  | 0 => ("WarmChairs$Evening", "house", "LWarmChairs$House;", true)
  | 1 => ("WarmChairs$Evening", "sitsOn", "[I", true)
  | 2 => ("WarmChairs$Evening", "satDownOn", "[I", true)
  | 3 => ("WarmChairs$Evening", "sat", "[I", true)
  | 4 => ("WarmChairs$Evening", "stood", "[I", true)
  | 5 => ("WarmChairs$Evening", "risenAt", "[I", true)
  | 6 => ("WarmChairs$Evening", "firsts", "[I", true)
  | 7 => ("WarmChairs$Evening", "waits", "[Z", true)
  | 8 => ("WarmChairs$Evening", "till", "[I", true)
  | 9 => ("WarmChairs$Evening", "sitter", "[I", true)
  | 10 => ("WarmChairs$Evening", "names", "[I", true)
  | 11 => ("WarmChairs$Evening", "satOn", "I", false)
  | _ => ("WarmChairs$Evening", "risen", "I", false)
def tyX0 : Nat → FieldType := fun k => match k with
  | 0 => .object "WarmChairs$House"
  | 1 => .array .int
  | 2 => .array .int
  | 3 => .array .int
  | 4 => .array .int
  | 5 => .array .int
  | 6 => .array .int
  | 7 => .array .boolean
  | 8 => .array .int
  | 9 => .array .int
  | 10 => .array .int
  | 11 => .int
  | _ => .int
abbrev wsX00 : List Cond := u_ws RX0 TX0 13
theorem nmX0 : ∀ a, a < 13 → ∀ b, b < 13 → a ≠ b → (TX0 a).2.1 ≠ (TX0 b).2.1 := by decide +kernel
theorem tyX0_ok : ∀ k, k < 13 → parseFieldDescriptor (TX0 k).2.2.1 = some (tyX0 k) := by decide +kernel
abbrev cX0_init : ByteArray := prog_2_method_1_code
def yX0_init : MethodName := ⟨RX0, "<init>", "()V"⟩
abbrev cX0_start : ByteArray := prog_2_method_2_code
def yX0_start : MethodName := ⟨RX0, "start", "()V"⟩
abbrev cX0_live : ByteArray := prog_2_method_3_code
def yX0_live : MethodName := ⟨RX0, "live", "(LWarmChairs$Law;I)V"⟩
abbrev cX0_rise : ByteArray := prog_2_method_4_code
def yX0_rise : MethodName := ⟨RX0, "rise", "(LWarmChairs$Law;II)V"⟩
abbrev cX0_sitDown : ByteArray := prog_2_method_5_code
def yX0_sitDown : MethodName := ⟨RX0, "sitDown", "(LWarmChairs$Law;I)V"⟩
abbrev cX0_wants : ByteArray := prog_2_method_6_code
def yX0_wants : MethodName := ⟨RX0, "wants", "(II)Z"⟩
abbrev cX0_nameFor : ByteArray := prog_2_method_7_code
def yX0_nameFor : MethodName := ⟨RX0, "nameFor", "(IIII)V"⟩
abbrev cX0_nextOne : ByteArray := prog_2_method_8_code
def yX0_nextOne : MethodName := ⟨RX0, "nextOne", "()I"⟩
abbrev cX0_nextChair : ByteArray := prog_2_method_9_code
def yX0_nextChair : MethodName := ⟨RX0, "nextChair", "(I)I"⟩
abbrev cX0_isTakenAhead : ByteArray := prog_2_method_10_code
def yX0_isTakenAhead : MethodName := ⟨RX0, "isTakenAhead", "(II)Z"⟩
abbrev cX0_isFree : ByteArray := prog_2_method_11_code
def yX0_isFree : MethodName := ⟨RX0, "isFree", "(II)Z"⟩
abbrev cX0_isWarm : ByteArray := prog_2_method_12_code
def yX0_isWarm : MethodName := ⟨RX0, "isWarm", "(II)Z"⟩
abbrev cX0_warmSet : ByteArray := prog_2_method_13_code
def yX0_warmSet : MethodName := ⟨RX0, "warmSet", "(I)I"⟩
abbrev cX0_stoodTogether : ByteArray := prog_2_method_14_code
def yX0_stoodTogether : MethodName := ⟨RX0, "stoodTogether", "()I"⟩
abbrev cX0_stoodLongest : ByteArray := prog_2_method_15_code
def yX0_stoodLongest : MethodName := ⟨RX0, "stoodLongest", "()I"⟩
abbrev cX0_costsTogether : ByteArray := prog_2_method_16_code
def yX0_costsTogether : MethodName := ⟨RX0, "costsTogether", "(LWarmChairs$Law;)I"⟩
abbrev cX0_told : ByteArray := prog_2_method_17_code
def yX0_told : MethodName := ⟨RX0, "told", "(II)I"⟩
def RX1 : String := "WarmChairs$House"
def TX1 : u_T := fun k => match k with
  | 0 => ("WarmChairs$House", "froms", "[I", true)
  | 1 => ("WarmChairs$House", "longs", "[I", true)
  | 2 => ("WarmChairs$House", "fats", "[I", true)
  | 3 => ("WarmChairs$House", "people", "I", false)
  | 4 => ("WarmChairs$House", "kinds", "[I", true)
  | 5 => ("WarmChairs$House", "mores", "[I", true)
  | 6 => ("WarmChairs$House", "chairs", "I", false)
  | 7 => ("WarmChairs$House", "style", "I", false)
  | 8 => ("WarmChairs$House", "warmSet", "I", false)
  | 9 => ("WarmChairs$House", "warmFor", "I", false)
  | 10 => ("WarmChairs$House", "law", "I", false)
  | _ => ("WarmChairs$House", "lentAway", "I", false)
def tyX1 : Nat → FieldType := fun k => match k with
  | 0 => .array .int
  | 1 => .array .int
  | 2 => .array .int
  | 3 => .int
  | 4 => .array .int
  | 5 => .array .int
  | 6 => .int
  | 7 => .int
  | 8 => .int
  | 9 => .int
  | 10 => .int
  | _ => .int
abbrev wsX10 : List Cond := u_ws RX1 TX1 12
theorem nmX1 : ∀ a, a < 12 → ∀ b, b < 12 → a ≠ b → (TX1 a).2.1 ≠ (TX1 b).2.1 := by decide +kernel
theorem tyX1_ok : ∀ k, k < 12 → parseFieldDescriptor (TX1 k).2.2.1 = some (tyX1 k) := by decide +kernel
abbrev cX1_init : ByteArray := prog_3_method_1_code
def yX1_init : MethodName := ⟨RX1, "<init>", "()V"⟩
abbrev cX1_become : ByteArray := prog_3_method_2_code
def yX1_become : MethodName := ⟨RX1, "become", "(LWarmChairs$House;)V"⟩
abbrev cX1_wishes : ByteArray := prog_3_method_3_code
def yX1_wishes : MethodName := ⟨RX1, "wishes", "(I)[I"⟩
abbrev cX1_setting : ByteArray := prog_3_method_4_code
def yX1_setting : MethodName := ⟨RX1, "setting", "(I)I"⟩
abbrev cX1_set : ByteArray := prog_3_method_5_code
def yX1_set : MethodName := ⟨RX1, "set", "(II)V"⟩
abbrev cX1_change : ByteArray := prog_3_method_6_code
def yX1_change : MethodName := ⟨RX1, "change", "(II)V"⟩
def RX2 : String := "WarmChairs$Kinds"
def TX2 : u_T := fun k => match k with
  | _ => ("", "", "", false)
def tyX2 : Nat → FieldType := fun k => match k with
  | _ => .int
abbrev wsX20 : List Cond := u_ws RX2 TX2 0
theorem nmX2 : ∀ a, a < 0 → ∀ b, b < 0 → a ≠ b → (TX2 a).2.1 ≠ (TX2 b).2.1 := by decide +kernel
theorem tyX2_ok : ∀ k, k < 0 → parseFieldDescriptor (TX2 k).2.2.1 = some (tyX2 k) := by decide +kernel
abbrev cX2_isA : ByteArray := prog_4_method_2_code
def yX2_isA : MethodName := ⟨RX2, "isA", "(II)Z"⟩
abbrev cX2_keepsWarm : ByteArray := prog_4_method_3_code
def yX2_keepsWarm : MethodName := ⟨RX2, "keepsWarm", "(IIII)I"⟩
abbrev cX2_lets : ByteArray := prog_4_method_4_code
def yX2_lets : MethodName := ⟨RX2, "lets", "(III)Z"⟩
def RX3 : String := "WarmChairs$Law"
def TX3 : u_T := fun k => match k with
  | 0 => ("WarmChairs$Law", "codes", "[I", true)
  | 1 => ("WarmChairs$Law", "ends", "[I", true)
  | _ => ("WarmChairs$Law", "stack", "[I", true)
def tyX3 : Nat → FieldType := fun k => match k with
  | 0 => .array .int
  | 1 => .array .int
  | _ => .array .int
abbrev wsX30 : List Cond := u_ws RX3 TX3 3
theorem nmX3 : ∀ a, a < 3 → ∀ b, b < 3 → a ≠ b → (TX3 a).2.1 ≠ (TX3 b).2.1 := by decide +kernel
theorem tyX3_ok : ∀ k, k < 3 → parseFieldDescriptor (TX3 k).2.2.1 = some (tyX3 k) := by decide +kernel
abbrev cX3_init : ByteArray := prog_5_method_1_code
def yX3_init : MethodName := ⟨RX3, "<init>", "([I[I)V"⟩
abbrev cX3_says : ByteArray := prog_5_method_2_code
def yX3_says : MethodName := ⟨RX3, "says", "(I[I)I"⟩
abbrev cX3_joined : ByteArray := prog_5_method_3_code
def yX3_joined : MethodName := ⟨RX3, "joined", "(III)I"⟩
def RX4 : String := "WarmChairs$Sheet"
def TX4 : u_T := fun k => match k with
  | 0 => ("WarmChairs$Sheet", "sort", "I", false)
  | 1 => ("WarmChairs$Sheet", "size", "I", false)
  | _ => ("WarmChairs$Sheet", "cells", "[I", true)
def tyX4 : Nat → FieldType := fun k => match k with
  | 0 => .int
  | 1 => .int
  | _ => .array .int
abbrev wsX40 : List Cond := u_ws RX4 TX4 3
theorem nmX4 : ∀ a, a < 3 → ∀ b, b < 3 → a ≠ b → (TX4 a).2.1 ≠ (TX4 b).2.1 := by decide +kernel
theorem tyX4_ok : ∀ k, k < 3 → parseFieldDescriptor (TX4 k).2.2.1 = some (tyX4 k) := by decide +kernel
abbrev cX4_init : ByteArray := prog_6_method_1_code
def yX4_init : MethodName := ⟨RX4, "<init>", "()V"⟩
abbrev cX4_isMissing : ByteArray := prog_6_method_2_code
def yX4_isMissing : MethodName := ⟨RX4, "isMissing", "()Z"⟩
abbrev cX4_become : ByteArray := prog_6_method_3_code
def yX4_become : MethodName := ⟨RX4, "become", "(II)V"⟩
abbrev cX4_has : ByteArray := prog_6_method_4_code
def yX4_has : MethodName := ⟨RX4, "has", "(II)Z"⟩
abbrev cX4_put : ByteArray := prog_6_method_5_code
def yX4_put : MethodName := ⟨RX4, "put", "(II)V"⟩
def RX5 : String := "WarmChairs$Tape"
def TX5 : u_T := fun k => match k with
  | 0 => ("WarmChairs$Tape", "size", "I", false)
  | 1 => ("WarmChairs$Tape", "tokenAt", "I", false)
  | 2 => ("WarmChairs$Tape", "bytes", "[I", true)
  | 3 => ("WarmChairs$Tape", "codes", "[I", true)
  | 4 => ("WarmChairs$Tape", "ends", "[I", true)
  | 5 => ("WarmChairs$Tape", "codesThere", "I", false)
  | 6 => ("WarmChairs$Tape", "place", "I", false)
  | _ => ("WarmChairs$Tape", "token", "I", false)
def tyX5 : Nat → FieldType := fun k => match k with
  | 0 => .int
  | 1 => .int
  | 2 => .array .int
  | 3 => .array .int
  | 4 => .array .int
  | 5 => .int
  | 6 => .int
  | _ => .int
abbrev wsX50 : List Cond := u_ws RX5 TX5 8
theorem nmX5 : ∀ a, a < 8 → ∀ b, b < 8 → a ≠ b → (TX5 a).2.1 ≠ (TX5 b).2.1 := by decide +kernel
theorem tyX5_ok : ∀ k, k < 8 → parseFieldDescriptor (TX5 k).2.2.1 = some (tyX5 k) := by decide +kernel
abbrev cX5_init : ByteArray := prog_7_method_1_code
def yX5_init : MethodName := ⟨RX5, "<init>", "()V"⟩
abbrev cX5_put : ByteArray := prog_7_method_2_code
def yX5_put : MethodName := ⟨RX5, "put", "(I)V"⟩
abbrev cX5_clear : ByteArray := prog_7_method_3_code
def yX5_clear : MethodName := ⟨RX5, "clear", "()V"⟩
abbrev cX5_isText : ByteArray := prog_7_method_4_code
def yX5_isText : MethodName := ⟨RX5, "isText", "()Z"⟩
abbrev cX5_law : ByteArray := prog_7_method_5_code
def yX5_law : MethodName := ⟨RX5, "law", "()LWarmChairs$Law;"⟩
abbrev cX5_passes : ByteArray := prog_7_method_6_code
def yX5_passes : MethodName := ⟨RX5, "passes", "(I)Z"⟩
abbrev cX5_emit : ByteArray := prog_7_method_7_code
def yX5_emit : MethodName := ⟨RX5, "emit", "(I)Z"⟩
abbrev cX5_isEither : ByteArray := prog_7_method_8_code
def yX5_isEither : MethodName := ⟨RX5, "isEither", "(I)Z"⟩
abbrev cX5_isBoth : ByteArray := prog_7_method_9_code
def yX5_isBoth : MethodName := ⟨RX5, "isBoth", "(I)Z"⟩
abbrev cX5_isNot : ByteArray := prog_7_method_10_code
def yX5_isNot : MethodName := ⟨RX5, "isNot", "(I)Z"⟩
abbrev cX5_isSum : ByteArray := prog_7_method_11_code
def yX5_isSum : MethodName := ⟨RX5, "isSum", "(I)Z"⟩
abbrev cX5_isTerm : ByteArray := prog_7_method_12_code
def yX5_isTerm : MethodName := ⟨RX5, "isTerm", "(I)Z"⟩
abbrev cX5_isOperand : ByteArray := prog_7_method_13_code
def yX5_isOperand : MethodName := ⟨RX5, "isOperand", "(I)Z"⟩
abbrev cX5_look : ByteArray := prog_7_method_14_code
def yX5_look : MethodName := ⟨RX5, "look", "()V"⟩
abbrev cX5_word : ByteArray := prog_7_method_15_code
def yX5_word : MethodName := ⟨RX5, "word", "()I"⟩
abbrev cX5_spells : ByteArray := prog_7_method_16_code
def yX5_spells : MethodName := ⟨RX5, "spells", "(Ljava/lang/String;)Z"⟩
abbrev cX5_number : ByteArray := prog_7_method_17_code
def yX5_number : MethodName := ⟨RX5, "number", "()I"⟩
abbrev cX5_sign : ByteArray := prog_7_method_18_code
def yX5_sign : MethodName := ⟨RX5, "sign", "()I"⟩
abbrev cX5_isBlank : ByteArray := prog_7_method_19_code
def yX5_isBlank : MethodName := ⟨RX5, "isBlank", "(I)Z"⟩
abbrev cX5_isLetter : ByteArray := prog_7_method_20_code
def yX5_isLetter : MethodName := ⟨RX5, "isLetter", "(I)Z"⟩
abbrev cX5_isDigit : ByteArray := prog_7_method_21_code
def yX5_isDigit : MethodName := ⟨RX5, "isDigit", "(I)Z"⟩
def RX6 : String := "WarmChairs"
def TX6 : u_T := fun k => match k with
  | 0 => ("WarmChairs", "home", "LWarmChairs$House;", true)
  | 1 => ("WarmChairs", "picture", "LWarmChairs$House;", true)
  | 2 => ("WarmChairs", "pictured", "Z", false)
  | 3 => ("WarmChairs", "tape", "LWarmChairs$Tape;", true)
  | 4 => ("WarmChairs", "texts", "[LWarmChairs$Law;", true)
  | 5 => ("WarmChairs", "textsThere", "I", false)
  | 6 => ("WarmChairs", "sheets", "[LWarmChairs$Sheet;", true)
  | 7 => ("WarmChairs", "evening", "LWarmChairs$Evening;", true)
  | 8 => ("WarmChairs", "bestRises", "I", false)
  | 9 => ("WarmChairs", "bestStood", "I", false)
  | 10 => ("WarmChairs", "row", "[I", true)
  | 11 => ("WarmChairs", "bestRow", "[I", true)
  | 12 => ("WarmChairs", "kept", "[I", true)
  | _ => ("WarmChairs", "asked", "[I", true)
def tyX6 : Nat → FieldType := fun k => match k with
  | 0 => .object "WarmChairs$House"
  | 1 => .object "WarmChairs$House"
  | 2 => .boolean
  | 3 => .object "WarmChairs$Tape"
  | 4 => .array (.object "WarmChairs$Law")
  | 5 => .int
  | 6 => .array (.object "WarmChairs$Sheet")
  | 7 => .object "WarmChairs$Evening"
  | 8 => .int
  | 9 => .int
  | 10 => .array .int
  | 11 => .array .int
  | 12 => .array .int
  | _ => .array .int
abbrev wsX60 : List Cond := u_ws RX6 TX6 14
theorem nmX6 : ∀ a, a < 14 → ∀ b, b < 14 → a ≠ b → (TX6 a).2.1 ≠ (TX6 b).2.1 := by decide +kernel
theorem tyX6_ok : ∀ k, k < 14 → parseFieldDescriptor (TX6 k).2.2.1 = some (tyX6 k) := by decide +kernel
abbrev cX6_init : ByteArray := prog_1_method_1_code
def yX6_init : MethodName := ⟨RX6, "<init>", "()V"⟩
abbrev cX6_one : ByteArray := prog_1_method_2_code
def yX6_one : MethodName := ⟨RX6, "one", "(III)I"⟩
abbrev cX6_wish : ByteArray := prog_1_method_3_code
def yX6_wish : MethodName := ⟨RX6, "wish", "(III)I"⟩
abbrev cX6_oneTold : ByteArray := prog_1_method_4_code
def yX6_oneTold : MethodName := ⟨RX6, "oneTold", "(II)I"⟩
abbrev cX6_house : ByteArray := prog_1_method_5_code
def yX6_house : MethodName := ⟨RX6, "house", "(II)I"⟩
abbrev cX6_count : ByteArray := prog_1_method_6_code
def yX6_count : MethodName := ⟨RX6, "count", "(I)I"⟩
abbrev cX6_feed : ByteArray := prog_1_method_7_code
def yX6_feed : MethodName := ⟨RX6, "feed", "(IIIIII)I"⟩
abbrev cX6_text : ByteArray := prog_1_method_8_code
def yX6_text : MethodName := ⟨RX6, "text", "()I"⟩
abbrev cX6_force : ByteArray := prog_1_method_9_code
def yX6_force : MethodName := ⟨RX6, "force", "(I)I"⟩
abbrev cX6_asks : ByteArray := prog_1_method_10_code
def yX6_asks : MethodName := ⟨RX6, "asks", "(IIIII)I"⟩
abbrev cX6_chair : ByteArray := prog_1_method_11_code
def yX6_chair : MethodName := ⟨RX6, "chair", "(II)I"⟩
abbrev cX6_mend : ByteArray := prog_1_method_12_code
def yX6_mend : MethodName := ⟨RX6, "mend", "(III)I"⟩
abbrev cX6_chairTold : ByteArray := prog_1_method_13_code
def yX6_chairTold : MethodName := ⟨RX6, "chairTold", "(II)I"⟩
abbrev cX6_of : ByteArray := prog_1_method_14_code
def yX6_of : MethodName := ⟨RX6, "of", "(III)I"⟩
abbrev cX6_chairOf : ByteArray := prog_1_method_15_code
def yX6_chairOf : MethodName := ⟨RX6, "chairOf", "(III)I"⟩
abbrev cX6_all : ByteArray := prog_1_method_16_code
def yX6_all : MethodName := ⟨RX6, "all", "(II)I"⟩
abbrev cX6_cold : ByteArray := prog_1_method_17_code
def yX6_cold : MethodName := ⟨RX6, "cold", "()I"⟩
abbrev cX6_begin : ByteArray := prog_1_method_18_code
def yX6_begin : MethodName := ⟨RX6, "begin", "(I)I"⟩
abbrev cX6_take : ByteArray := prog_1_method_19_code
def yX6_take : MethodName := ⟨RX6, "take", "(I)I"⟩
abbrev cX6_order : ByteArray := prog_1_method_20_code
def yX6_order : MethodName := ⟨RX6, "order", "(I)I"⟩
abbrev cX6_invite : ByteArray := prog_1_method_21_code
def yX6_invite : MethodName := ⟨RX6, "invite", "()I"⟩
abbrev cX6_late : ByteArray := prog_1_method_22_code
def yX6_late : MethodName := ⟨RX6, "late", "(II)I"⟩
abbrev cX6_lent : ByteArray := prog_1_method_23_code
def yX6_lent : MethodName := ⟨RX6, "lent", "(II)I"⟩
abbrev cX6_move : ByteArray := prog_1_method_24_code
def yX6_move : MethodName := ⟨RX6, "move", "(I)I"⟩
abbrev cX6_ever : ByteArray := prog_1_method_25_code
def yX6_ever : MethodName := ⟨RX6, "ever", "(III)I"⟩
abbrev cX6_fewest : ByteArray := prog_1_method_26_code
def yX6_fewest : MethodName := ⟨RX6, "fewest", "(II)I"⟩
abbrev cX6_judge : ByteArray := prog_1_method_27_code
def yX6_judge : MethodName := ⟨RX6, "judge", "(II)I"⟩
abbrev cX6_were : ByteArray := prog_1_method_28_code
def yX6_were : MethodName := ⟨RX6, "were", "(II)J"⟩
abbrev cX6_laws : ByteArray := prog_1_method_29_code
def yX6_laws : MethodName := ⟨RX6, "laws", "(II)I"⟩
abbrev cX6_film : ByteArray := prog_1_method_30_code
def yX6_film : MethodName := ⟨RX6, "film", "(II)I"⟩
abbrev cX6_drawn : ByteArray := prog_1_method_31_code
def yX6_drawn : MethodName := ⟨RX6, "drawn", "(I)I"⟩
abbrev cX6_odds : ByteArray := prog_1_method_32_code
def yX6_odds : MethodName := ⟨RX6, "odds", "(IIII)J"⟩
abbrev cX6_image : ByteArray := prog_1_method_33_code
def yX6_image : MethodName := ⟨RX6, "image", "()I"⟩
abbrev cX6_back : ByteArray := prog_1_method_34_code
def yX6_back : MethodName := ⟨RX6, "back", "()I"⟩
abbrev cX6_sheet : ByteArray := prog_1_method_35_code
def yX6_sheet : MethodName := ⟨RX6, "sheet", "(III)I"⟩
abbrev cX6_cell : ByteArray := prog_1_method_36_code
def yX6_cell : MethodName := ⟨RX6, "cell", "(III)I"⟩
abbrev cX6_copy : ByteArray := prog_1_method_37_code
def yX6_copy : MethodName := ⟨RX6, "copy", "(IIIII)I"⟩
abbrev cX6_onesBy : ByteArray := prog_1_method_38_code
def yX6_onesBy : MethodName := ⟨RX6, "onesBy", "(IIII)I"⟩
abbrev cX6_taken : ByteArray := prog_1_method_39_code
def yX6_taken : MethodName := ⟨RX6, "taken", "(II)I"⟩
abbrev cX6_within : ByteArray := prog_1_method_40_code
def yX6_within : MethodName := ⟨RX6, "within", "(III)Z"⟩
abbrev cX6_isByte : ByteArray := prog_1_method_41_code
def yX6_isByte : MethodName := ⟨RX6, "isByte", "(I)Z"⟩
abbrev cX6_isKind : ByteArray := prog_1_method_42_code
def yX6_isKind : MethodName := ⟨RX6, "isKind", "(II)Z"⟩
abbrev cX6_isSheet : ByteArray := prog_1_method_43_code
def yX6_isSheet : MethodName := ⟨RX6, "isSheet", "(I)Z"⟩
abbrev cX6_isWish : ByteArray := prog_1_method_44_code
def yX6_isWish : MethodName := ⟨RX6, "isWish", "(II)Z"⟩
abbrev cX6_isPerson : ByteArray := prog_1_method_45_code
def yX6_isPerson : MethodName := ⟨RX6, "isPerson", "(I)Z"⟩
abbrev cX6_isChair : ByteArray := prog_1_method_46_code
def yX6_isChair : MethodName := ⟨RX6, "isChair", "(I)Z"⟩
abbrev cX6_refusalOfTold : ByteArray := prog_1_method_47_code
def yX6_refusalOfTold : MethodName := ⟨RX6, "refusalOfTold", "(II)I"⟩
abbrev cX6_lawOf : ByteArray := prog_1_method_48_code
def yX6_lawOf : MethodName := ⟨RX6, "lawOf", "(LWarmChairs$House;)LWarmChairs$Law;"⟩
abbrev cX6_liveAsItIs : ByteArray := prog_1_method_49_code
def yX6_liveAsItIs : MethodName := ⟨RX6, "liveAsItIs", "(I)V"⟩
abbrev cX6_risesBySet : ByteArray := prog_1_method_50_code
def yX6_risesBySet : MethodName := ⟨RX6, "risesBySet", "(I)I"⟩
abbrev cX6_firstOtherwise : ByteArray := prog_1_method_51_code
def yX6_firstOtherwise : MethodName := ⟨RX6, "firstOtherwise", "(LWarmChairs$Sheet;I)I"⟩
abbrev cX6_forgetBest : ByteArray := prog_1_method_52_code
def yX6_forgetBest : MethodName := ⟨RX6, "forgetBest", "()V"⟩
abbrev cX6_isBest : ByteArray := prog_1_method_53_code
def yX6_isBest : MethodName := ⟨RX6, "isBest", "()Z"⟩
abbrev cX6_bestTold : ByteArray := prog_1_method_54_code
def yX6_bestTold : MethodName := ⟨RX6, "bestTold", "(II)I"⟩
abbrev cX6_findOrder : ByteArray := prog_1_method_55_code
def yX6_findOrder : MethodName := ⟨RX6, "findOrder", "()V"⟩
abbrev cX6_nextRow : ByteArray := prog_1_method_56_code
def yX6_nextRow : MethodName := ⟨RX6, "nextRow", "(I)Z"⟩
abbrev cX6_exchange : ByteArray := prog_1_method_57_code
def yX6_exchange : MethodName := ⟨RX6, "exchange", "([III)V"⟩
abbrev cX6_coldMinute : ByteArray := prog_1_method_58_code
def yX6_coldMinute : MethodName := ⟨RX6, "coldMinute", "(III)I"⟩
abbrev cX6_setBySeed : ByteArray := prog_1_method_59_code
def yX6_setBySeed : MethodName := ⟨RX6, "setBySeed", "(I)I"⟩
abbrev cX6_commonDivisor : ByteArray := prog_1_method_60_code
def yX6_commonDivisor : MethodName := ⟨RX6, "commonDivisor", "(II)I"⟩
def RX7 : String := "WarmChairsModel"
def TX7 : u_T := fun k => match k with
  | 0 => ("WarmChairsModel", "people", "I", false)
  | 1 => ("WarmChairsModel", "wishes", "[I", true)
  | 2 => ("WarmChairsModel", "chairs", "I", false)
  | 3 => ("WarmChairsModel", "kind", "[I", true)
  | 4 => ("WarmChairsModel", "moreOf", "[I", true)
  | 5 => ("WarmChairsModel", "houseOf", "[I", true)
  | 6 => ("WarmChairsModel", "tape", "[I", true)
  | 7 => ("WarmChairsModel", "taped", "I", false)
  | 8 => ("WarmChairsModel", "codes", "[I", true)
  | 9 => ("WarmChairsModel", "starts", "[I", true)
  | 10 => ("WarmChairsModel", "texts", "I", false)
  | 11 => ("WarmChairsModel", "rule", "I", false)
  | 12 => ("WarmChairsModel", "hasImage", "Z", false)
  | 13 => ("WarmChairsModel", "imagePeople", "I", false)
  | 14 => ("WarmChairsModel", "imageChairs", "I", false)
  | 15 => ("WarmChairsModel", "imageRule", "I", false)
  | 16 => ("WarmChairsModel", "imageWishes", "[I", true)
  | 17 => ("WarmChairsModel", "imageHouse", "[I", true)
  | 18 => ("WarmChairsModel", "imageKinds", "[I", true)
  | 19 => ("WarmChairsModel", "sheetSort", "[I", true)
  | 20 => ("WarmChairsModel", "sheetSize", "[I", true)
  | 21 => ("WarmChairsModel", "cells", "[I", true)
  | 22 => ("WarmChairsModel", "law", "[I", true)
  | 23 => ("WarmChairsModel", "at", "I", false)
  | 24 => ("WarmChairsModel", "begun", "I", false)
  | 25 => ("WarmChairsModel", "token", "I", false)
  | 26 => ("WarmChairsModel", "value", "I", false)
  | 27 => ("WarmChairsModel", "words", "[I", true)
  | 28 => ("WarmChairsModel", "held", "[I", true)
  | 29 => ("WarmChairsModel", "heldMany", "I", false)
  | 30 => ("WarmChairsModel", "opens", "I", false)
  | 31 => ("WarmChairsModel", "out", "I", false)
  | 32 => ("WarmChairsModel", "stack", "[I", true)
  | 33 => ("WarmChairsModel", "named", "[I", true)
  | 34 => ("WarmChairsModel", "till", "[I", true)
  | 35 => ("WarmChairsModel", "sitter", "[I", true)
  | 36 => ("WarmChairsModel", "onChair", "[I", true)
  | 37 => ("WarmChairsModel", "wasOn", "[I", true)
  | 38 => ("WarmChairsModel", "sat", "[I", true)
  | 39 => ("WarmChairsModel", "stood", "[I", true)
  | 40 => ("WarmChairsModel", "rose", "[I", true)
  | 41 => ("WarmChairsModel", "turn", "[I", true)
  | 42 => ("WarmChairsModel", "lentChair", "I", false)
  | 43 => ("WarmChairsModel", "keptFrom", "[I", true)
  | 44 => ("WarmChairsModel", "bestRow", "I", false)
  | 45 => ("WarmChairsModel", "bestWorth", "I", false)
  | _ => ("WarmChairsModel", "keeping", "[I", true)
def tyX7 : Nat → FieldType := fun k => match k with
  | 0 => .int
  | 1 => .array .int
  | 2 => .int
  | 3 => .array .int
  | 4 => .array .int
  | 5 => .array .int
  | 6 => .array .int
  | 7 => .int
  | 8 => .array .int
  | 9 => .array .int
  | 10 => .int
  | 11 => .int
  | 12 => .boolean
  | 13 => .int
  | 14 => .int
  | 15 => .int
  | 16 => .array .int
  | 17 => .array .int
  | 18 => .array .int
  | 19 => .array .int
  | 20 => .array .int
  | 21 => .array .int
  | 22 => .array .int
  | 23 => .int
  | 24 => .int
  | 25 => .int
  | 26 => .int
  | 27 => .array .int
  | 28 => .array .int
  | 29 => .int
  | 30 => .int
  | 31 => .int
  | 32 => .array .int
  | 33 => .array .int
  | 34 => .array .int
  | 35 => .array .int
  | 36 => .array .int
  | 37 => .array .int
  | 38 => .array .int
  | 39 => .array .int
  | 40 => .array .int
  | 41 => .array .int
  | 42 => .int
  | 43 => .array .int
  | 44 => .int
  | 45 => .int
  | _ => .array .int
abbrev wsX70 : List Cond := u_ws RX7 TX7 47
theorem nmX7 : ∀ a, a < 47 → ∀ b, b < 47 → a ≠ b → (TX7 a).2.1 ≠ (TX7 b).2.1 := by decide +kernel
theorem tyX7_ok : ∀ k, k < 47 → parseFieldDescriptor (TX7 k).2.2.1 = some (tyX7 k) := by decide +kernel
abbrev cX7_init : ByteArray := prog_9_method_1_code
def yX7_init : MethodName := ⟨RX7, "<init>", "()V"⟩
abbrev cX7_in : ByteArray := prog_9_method_3_code
def yX7_in : MethodName := ⟨RX7, "in", "(III)Z"⟩
abbrev cX7_within : ByteArray := prog_9_method_4_code
def yX7_within : MethodName := ⟨RX7, "within", "(III)I"⟩
abbrev cX7_isOne : ByteArray := prog_9_method_5_code
def yX7_isOne : MethodName := ⟨RX7, "isOne", "(I)Z"⟩
abbrev cX7_isChair : ByteArray := prog_9_method_6_code
def yX7_isChair : MethodName := ⟨RX7, "isChair", "(I)Z"⟩
abbrev cX7_ones : ByteArray := prog_9_method_7_code
def yX7_ones : MethodName := ⟨RX7, "ones", "(I)I"⟩
abbrev cX7_one : ByteArray := prog_9_method_8_code
def yX7_one : MethodName := ⟨RX7, "one", "(III)I"⟩
abbrev cX7_wish : ByteArray := prog_9_method_9_code
def yX7_wish : MethodName := ⟨RX7, "wish", "(III)I"⟩
abbrev cX7_oneTold : ByteArray := prog_9_method_10_code
def yX7_oneTold : MethodName := ⟨RX7, "oneTold", "(II)I"⟩
abbrev cX7_house : ByteArray := prog_9_method_11_code
def yX7_house : MethodName := ⟨RX7, "house", "(II)I"⟩
abbrev cX7_count : ByteArray := prog_9_method_12_code
def yX7_count : MethodName := ⟨RX7, "count", "(I)I"⟩
abbrev cX7_isByte : ByteArray := prog_9_method_13_code
def yX7_isByte : MethodName := ⟨RX7, "isByte", "(I)Z"⟩
abbrev cX7_feed : ByteArray := prog_9_method_14_code
def yX7_feed : MethodName := ⟨RX7, "feed", "(IIIIII)I"⟩
abbrev cX7_wordFrom : ByteArray := prog_9_method_15_code
def yX7_wordFrom : MethodName := ⟨RX7, "wordFrom", "(II)I"⟩
abbrev cX7_next : ByteArray := prog_9_method_16_code
def yX7_next : MethodName := ⟨RX7, "next", "()V"⟩
abbrev cX7_rank : ByteArray := prog_9_method_17_code
def yX7_rank : MethodName := ⟨RX7, "rank", "(I)I"⟩
abbrev cX7_puts : ByteArray := prog_9_method_18_code
def yX7_puts : MethodName := ⟨RX7, "puts", "(I)V"⟩
abbrev cX7_unwinds : ByteArray := prog_9_method_19_code
def yX7_unwinds : MethodName := ⟨RX7, "unwinds", "(I)V"⟩
abbrev cX7_holds : ByteArray := prog_9_method_20_code
def yX7_holds : MethodName := ⟨RX7, "holds", "(I)V"⟩
abbrev cX7_opensOne : ByteArray := prog_9_method_21_code
def yX7_opensOne : MethodName := ⟨RX7, "opensOne", "(I)Z"⟩
abbrev cX7_between : ByteArray := prog_9_method_22_code
def yX7_between : MethodName := ⟨RX7, "between", "(I)Z"⟩
abbrev cX7_signOf : ByteArray := prog_9_method_23_code
def yX7_signOf : MethodName := ⟨RX7, "signOf", "()I"⟩
abbrev cX7_eRead : ByteArray := prog_9_method_24_code
def yX7_eRead : MethodName := ⟨RX7, "eRead", "()Z"⟩
abbrev cX7_text : ByteArray := prog_9_method_25_code
def yX7_text : MethodName := ⟨RX7, "text", "()I"⟩
abbrev cX7_two : ByteArray := prog_9_method_26_code
def yX7_two : MethodName := ⟨RX7, "two", "(III)I"⟩
abbrev cX7_worth : ByteArray := prog_9_method_27_code
def yX7_worth : MethodName := ⟨RX7, "worth", "(I)I"⟩
abbrev cX7_force : ByteArray := prog_9_method_28_code
def yX7_force : MethodName := ⟨RX7, "force", "(I)I"⟩
abbrev cX7_asksOf : ByteArray := prog_9_method_29_code
def yX7_asksOf : MethodName := ⟨RX7, "asksOf", "(IIIIIII)I"⟩
abbrev cX7_asks : ByteArray := prog_9_method_30_code
def yX7_asks : MethodName := ⟨RX7, "asks", "(IIIII)I"⟩
abbrev cX7_isSo : ByteArray := prog_9_method_31_code
def yX7_isSo : MethodName := ⟨RX7, "isSo", "(II)Z"⟩
abbrev cX7_chair : ByteArray := prog_9_method_32_code
def yX7_chair : MethodName := ⟨RX7, "chair", "(II)I"⟩
abbrev cX7_mend : ByteArray := prog_9_method_33_code
def yX7_mend : MethodName := ⟨RX7, "mend", "(III)I"⟩
abbrev cX7_chairTold : ByteArray := prog_9_method_34_code
def yX7_chairTold : MethodName := ⟨RX7, "chairTold", "(II)I"⟩
abbrev cX7_keepsWarm : ByteArray := prog_9_method_35_code
def yX7_keepsWarm : MethodName := ⟨RX7, "keepsWarm", "(III)I"⟩
abbrev cX7_lets : ByteArray := prog_9_method_36_code
def yX7_lets : MethodName := ⟨RX7, "lets", "(II)Z"⟩
abbrev cX7_isSat : ByteArray := prog_9_method_37_code
def yX7_isSat : MethodName := ⟨RX7, "isSat", "(I)Z"⟩
abbrev cX7_isWarm : ByteArray := prog_9_method_38_code
def yX7_isWarm : MethodName := ⟨RX7, "isWarm", "(II)Z"⟩
abbrev cX7_wants : ByteArray := prog_9_method_39_code
def yX7_wants : MethodName := ⟨RX7, "wants", "(II)Z"⟩
abbrev cX7_rises : ByteArray := prog_9_method_40_code
def yX7_rises : MethodName := ⟨RX7, "rises", "(I)V"⟩
abbrev cX7_takes : ByteArray := prog_9_method_41_code
def yX7_takes : MethodName := ⟨RX7, "takes", "(I)I"⟩
abbrev cX7_nextOne : ByteArray := prog_9_method_42_code
def yX7_nextOne : MethodName := ⟨RX7, "nextOne", "()I"⟩
abbrev cX7_sitsDown : ByteArray := prog_9_method_43_code
def yX7_sitsDown : MethodName := ⟨RX7, "sitsDown", "(I)V"⟩
abbrev cX7_begins : ByteArray := prog_9_method_44_code
def yX7_begins : MethodName := ⟨RX7, "begins", "()V"⟩
abbrev cX7_lives : ByteArray := prog_9_method_45_code
def yX7_lives : MethodName := ⟨RX7, "lives", "(I)V"⟩
abbrev cX7_isMany : ByteArray := prog_9_method_46_code
def yX7_isMany : MethodName := ⟨RX7, "isMany", "(I)Z"⟩
abbrev cX7_of : ByteArray := prog_9_method_47_code
def yX7_of : MethodName := ⟨RX7, "of", "(III)I"⟩
abbrev cX7_chairOf : ByteArray := prog_9_method_48_code
def yX7_chairOf : MethodName := ⟨RX7, "chairOf", "(III)I"⟩
abbrev cX7_risen : ByteArray := prog_9_method_49_code
def yX7_risen : MethodName := ⟨RX7, "risen", "()I"⟩
abbrev cX7_stoodAll : ByteArray := prog_9_method_50_code
def yX7_stoodAll : MethodName := ⟨RX7, "stoodAll", "()I"⟩
abbrev cX7_longest : ByteArray := prog_9_method_51_code
def yX7_longest : MethodName := ⟨RX7, "longest", "()I"⟩
abbrev cX7_warmIn : ByteArray := prog_9_method_52_code
def yX7_warmIn : MethodName := ⟨RX7, "warmIn", "(I)I"⟩
abbrev cX7_satOn : ByteArray := prog_9_method_53_code
def yX7_satOn : MethodName := ⟨RX7, "satOn", "()I"⟩
abbrev cX7_costs : ByteArray := prog_9_method_54_code
def yX7_costs : MethodName := ⟨RX7, "costs", "()I"⟩
abbrev cX7_all : ByteArray := prog_9_method_55_code
def yX7_all : MethodName := ⟨RX7, "all", "(II)I"⟩
abbrev cX7_cold : ByteArray := prog_9_method_56_code
def yX7_cold : MethodName := ⟨RX7, "cold", "()I"⟩
abbrev cX7_worthOfEvening : ByteArray := prog_9_method_57_code
def yX7_worthOfEvening : MethodName := ⟨RX7, "worthOfEvening", "()I"⟩
abbrev cX7_risenOf : ByteArray := prog_9_method_58_code
def yX7_risenOf : MethodName := ⟨RX7, "risenOf", "(I)I"⟩
abbrev cX7_stoodOf : ByteArray := prog_9_method_59_code
def yX7_stoodOf : MethodName := ⟨RX7, "stoodOf", "(I)I"⟩
abbrev cX7_told3 : ByteArray := prog_9_method_60_code
def yX7_told3 : MethodName := ⟨RX7, "told3", "(III)I"⟩
abbrev cX7_begin : ByteArray := prog_9_method_61_code
def yX7_begin : MethodName := ⟨RX7, "begin", "(I)I"⟩
abbrev cX7_take : ByteArray := prog_9_method_62_code
def yX7_take : MethodName := ⟨RX7, "take", "(I)I"⟩
abbrev cX7_orders : ByteArray := prog_9_method_63_code
def yX7_orders : MethodName := ⟨RX7, "orders", "(III)V"⟩
abbrev cX7_findsOrder : ByteArray := prog_9_method_64_code
def yX7_findsOrder : MethodName := ⟨RX7, "findsOrder", "()V"⟩
abbrev cX7_order : ByteArray := prog_9_method_65_code
def yX7_order : MethodName := ⟨RX7, "order", "(I)I"⟩
abbrev cX7_invite : ByteArray := prog_9_method_66_code
def yX7_invite : MethodName := ⟨RX7, "invite", "()I"⟩
abbrev cX7_late : ByteArray := prog_9_method_67_code
def yX7_late : MethodName := ⟨RX7, "late", "(II)I"⟩
abbrev cX7_lent : ByteArray := prog_9_method_68_code
def yX7_lent : MethodName := ⟨RX7, "lent", "(II)I"⟩
abbrev cX7_changesAbout : ByteArray := prog_9_method_69_code
def yX7_changesAbout : MethodName := ⟨RX7, "changesAbout", "(II)V"⟩
abbrev cX7_move : ByteArray := prog_9_method_70_code
def yX7_move : MethodName := ⟨RX7, "move", "(I)I"⟩
abbrev cX7_leastTill : ByteArray := prog_9_method_71_code
def yX7_leastTill : MethodName := ⟨RX7, "leastTill", "(I)I"⟩
abbrev cX7_keepsTill : ByteArray := prog_9_method_72_code
def yX7_keepsTill : MethodName := ⟨RX7, "keepsTill", "(III)I"⟩
abbrev cX7_ever : ByteArray := prog_9_method_73_code
def yX7_ever : MethodName := ⟨RX7, "ever", "(III)I"⟩
abbrev cX7_fewest : ByteArray := prog_9_method_74_code
def yX7_fewest : MethodName := ⟨RX7, "fewest", "(II)I"⟩
abbrev cX7_sheetWrong : ByteArray := prog_9_method_75_code
def yX7_sheetWrong : MethodName := ⟨RX7, "sheetWrong", "(II)I"⟩
abbrev cX7_looksOf : ByteArray := prog_9_method_76_code
def yX7_looksOf : MethodName := ⟨RX7, "looksOf", "(II)I"⟩
abbrev cX7_unlike : ByteArray := prog_9_method_77_code
def yX7_unlike : MethodName := ⟨RX7, "unlike", "(II)I"⟩
abbrev cX7_judge : ByteArray := prog_9_method_78_code
def yX7_judge : MethodName := ⟨RX7, "judge", "(II)I"⟩
abbrev cX7_were : ByteArray := prog_9_method_79_code
def yX7_were : MethodName := ⟨RX7, "were", "(II)J"⟩
abbrev cX7_laws : ByteArray := prog_9_method_80_code
def yX7_laws : MethodName := ⟨RX7, "laws", "(II)I"⟩
abbrev cX7_film : ByteArray := prog_9_method_81_code
def yX7_film : MethodName := ⟨RX7, "film", "(II)I"⟩
abbrev cX7_risenBy : ByteArray := prog_9_method_82_code
def yX7_risenBy : MethodName := ⟨RX7, "risenBy", "(I)I"⟩
abbrev cX7_drawn : ByteArray := prog_9_method_83_code
def yX7_drawn : MethodName := ⟨RX7, "drawn", "(I)I"⟩
abbrev cX7_lowest : ByteArray := prog_9_method_84_code
def yX7_lowest : MethodName := ⟨RX7, "lowest", "(JJI)J"⟩
abbrev cX7_odds : ByteArray := prog_9_method_85_code
def yX7_odds : MethodName := ⟨RX7, "odds", "(IIII)J"⟩
abbrev cX7_image : ByteArray := prog_9_method_86_code
def yX7_image : MethodName := ⟨RX7, "image", "()I"⟩
abbrev cX7_back : ByteArray := prog_9_method_87_code
def yX7_back : MethodName := ⟨RX7, "back", "()I"⟩
abbrev cX7_sheet : ByteArray := prog_9_method_88_code
def yX7_sheet : MethodName := ⟨RX7, "sheet", "(III)I"⟩
abbrev cX7_cell : ByteArray := prog_9_method_89_code
def yX7_cell : MethodName := ⟨RX7, "cell", "(III)I"⟩
abbrev cX7_copy : ByteArray := prog_9_method_90_code
def yX7_copy : MethodName := ⟨RX7, "copy", "(IIIII)I"⟩
abbrev cX7_onesBy : ByteArray := prog_9_method_91_code
def yX7_onesBy : MethodName := ⟨RX7, "onesBy", "(IIII)I"⟩
abbrev cX7_isUnder : ByteArray := prog_9_method_92_code
def yX7_isUnder : MethodName := ⟨RX7, "isUnder", "(II)Z"⟩
abbrev cX7_taken : ByteArray := prog_9_method_93_code
def yX7_taken : MethodName := ⟨RX7, "taken", "(II)I"⟩
def RJx145de : String := "java/io/Serializable"
def TJx145de : u_T := fun k => match k with
  | _ => ("", "", "", false)
def tyJx145de : Nat → FieldType := fun k => match k with
  | _ => .int
abbrev wsJx145de0 : List Cond := u_ws RJx145de TJx145de 0
theorem nmJx145de : ∀ a, a < 0 → ∀ b, b < 0 → a ≠ b → (TJx145de a).2.1 ≠ (TJx145de b).2.1 := by decide +kernel
theorem tyJx145de_ok : ∀ k, k < 0 → parseFieldDescriptor (TJx145de k).2.2.1 = some (tyJx145de k) := by decide +kernel
def RJx9f9b0 : String := "java/lang/CharSequence"
def TJx9f9b0 : u_T := fun k => match k with
  | _ => ("", "", "", false)
def tyJx9f9b0 : Nat → FieldType := fun k => match k with
  | _ => .int
abbrev wsJx9f9b00 : List Cond := u_ws RJx9f9b0 TJx9f9b0 0
theorem nmJx9f9b0 : ∀ a, a < 0 → ∀ b, b < 0 → a ≠ b → (TJx9f9b0 a).2.1 ≠ (TJx9f9b0 b).2.1 := by decide +kernel
theorem tyJx9f9b0_ok : ∀ k, k < 0 → parseFieldDescriptor (TJx9f9b0 k).2.2.1 = some (tyJx9f9b0 k) := by decide +kernel
def RJx8e188 : String := "java/lang/Cloneable"
def TJx8e188 : u_T := fun k => match k with
  | _ => ("", "", "", false)
def tyJx8e188 : Nat → FieldType := fun k => match k with
  | _ => .int
abbrev wsJx8e1880 : List Cond := u_ws RJx8e188 TJx8e188 0
theorem nmJx8e188 : ∀ a, a < 0 → ∀ b, b < 0 → a ≠ b → (TJx8e188 a).2.1 ≠ (TJx8e188 b).2.1 := by decide +kernel
theorem tyJx8e188_ok : ∀ k, k < 0 → parseFieldDescriptor (TJx8e188 k).2.2.1 = some (tyJx8e188 k) := by decide +kernel
def RJxb160c : String := "java/lang/Comparable"
def TJxb160c : u_T := fun k => match k with
  | _ => ("", "", "", false)
def tyJxb160c : Nat → FieldType := fun k => match k with
  | _ => .int
abbrev wsJxb160c0 : List Cond := u_ws RJxb160c TJxb160c 0
theorem nmJxb160c : ∀ a, a < 0 → ∀ b, b < 0 → a ≠ b → (TJxb160c a).2.1 ≠ (TJxb160c b).2.1 := by decide +kernel
theorem tyJxb160c_ok : ∀ k, k < 0 → parseFieldDescriptor (TJxb160c k).2.2.1 = some (tyJxb160c k) := by decide +kernel
def RJ6 : String := "java/lang/Integer"
def TJ6 : u_T := fun k => match k with
  | _ => ("", "", "", false)
def tyJ6 : Nat → FieldType := fun k => match k with
  | _ => .int
abbrev wsJ60 : List Cond := u_ws RJ6 TJ6 0
theorem nmJ6 : ∀ a, a < 0 → ∀ b, b < 0 → a ≠ b → (TJ6 a).2.1 ≠ (TJ6 b).2.1 := by decide +kernel
theorem tyJ6_ok : ∀ k, k < 0 → parseFieldDescriptor (TJ6 k).2.2.1 = some (tyJ6 k) := by decide +kernel
abbrev cJ6_bitCount_0f7a4 : ByteArray := prog_11_method_49_code
def yJ6_bitCount_0f7a4 : MethodName := ⟨RJ6, "bitCount", "(I)I"⟩
def RJ9 : String := "java/lang/Math"
def TJ9 : u_T := fun k => match k with
  | _ => ("", "", "", false)
def tyJ9 : Nat → FieldType := fun k => match k with
  | _ => .int
abbrev wsJ90 : List Cond := u_ws RJ9 TJ9 0
theorem nmJ9 : ∀ a, a < 0 → ∀ b, b < 0 → a ≠ b → (TJ9 a).2.1 ≠ (TJ9 b).2.1 := by decide +kernel
theorem tyJ9_ok : ∀ k, k < 0 → parseFieldDescriptor (TJ9 k).2.2.1 = some (tyJ9 k) := by decide +kernel
abbrev cJ9_max_7cf53 : ByteArray := prog_12_method_65_code
def yJ9_max_7cf53 : MethodName := ⟨RJ9, "max", "(II)I"⟩
abbrev cJ9_min_7cf53 : ByteArray := prog_12_method_69_code
def yJ9_min_7cf53 : MethodName := ⟨RJ9, "min", "(II)I"⟩
def RJ0 : String := "java/lang/String"
def TJ0 : u_T := fun k => match k with
  | _ => ("", "", "", false)
def tyJ0 : Nat → FieldType := fun k => match k with
  | _ => .int
abbrev wsJ00 : List Cond := u_ws RJ0 TJ0 0
theorem nmJ0 : ∀ a, a < 0 → ∀ b, b < 0 → a ≠ b → (TJ0 a).2.1 ≠ (TJ0 b).2.1 := by decide +kernel
theorem tyJ0_ok : ∀ k, k < 0 → parseFieldDescriptor (TJ0 k).2.2.1 = some (tyJ0 k) := by decide +kernel
abbrev cJ0_length_8abf5 : ByteArray := prog_13_method_54_code
def yJ0_length_8abf5 : MethodName := ⟨RJ0, "length", "()I"⟩
abbrev cJ0_charAt_5068e : ByteArray := prog_13_method_56_code
def yJ0_charAt_5068e : MethodName := ⟨RJ0, "charAt", "(I)C"⟩
abbrev cJ0_coder_7d493 : ByteArray := prog_13_method_152_code
def yJ0_coder_7d493 : MethodName := ⟨RJ0, "coder", "()B"⟩
abbrev cJ0_isLatin1_aae02 : ByteArray := prog_13_method_154_code
def yJ0_isLatin1_aae02 : MethodName := ⟨RJ0, "isLatin1", "()Z"⟩
abbrev cJ0_checkIndex_df160 : ByteArray := prog_13_method_155_code
def yJ0_checkIndex_df160 : MethodName := ⟨RJ0, "checkIndex", "(II)V"⟩
def RJ1 : String := "java/lang/StringLatin1"
def TJ1 : u_T := fun k => match k with
  | _ => ("", "", "", false)
def tyJ1 : Nat → FieldType := fun k => match k with
  | _ => .int
abbrev wsJ10 : List Cond := u_ws RJ1 TJ1 0
theorem nmJ1 : ∀ a, a < 0 → ∀ b, b < 0 → a ≠ b → (TJ1 a).2.1 ≠ (TJ1 b).2.1 := by decide +kernel
theorem tyJ1_ok : ∀ k, k < 0 → parseFieldDescriptor (TJ1 k).2.2.1 = some (tyJ1 k) := by decide +kernel
abbrev cJ1_charAt_3b067 : ByteArray := prog_14_method_2_code
def yJ1_charAt_3b067 : MethodName := ⟨RJ1, "charAt", "([BI)C"⟩
def RJ2 : String := "java/lang/StringUTF16"
def TJ2 : u_T := fun k => match k with
  | _ => ("", "", "", false)
def tyJ2 : Nat → FieldType := fun k => match k with
  | _ => .int
abbrev wsJ20 : List Cond := u_ws RJ2 TJ2 0
theorem nmJ2 : ∀ a, a < 0 → ∀ b, b < 0 → a ≠ b → (TJ2 a).2.1 ≠ (TJ2 b).2.1 := by decide +kernel
theorem tyJ2_ok : ∀ k, k < 0 → parseFieldDescriptor (TJ2 k).2.2.1 = some (tyJ2 k) := by decide +kernel
abbrev cJ2_getChar_3b067 : ByteArray := prog_15_method_5_code
def yJ2_getChar_3b067 : MethodName := ⟨RJ2, "getChar", "([BI)C"⟩
abbrev cJ2_length_9d52b : ByteArray := prog_15_method_6_code
def yJ2_length_9d52b : MethodName := ⟨RJ2, "length", "([B)I"⟩
abbrev cJ2_charAt_3b067 : ByteArray := prog_15_method_83_code
def yJ2_charAt_3b067 : MethodName := ⟨RJ2, "charAt", "([BI)C"⟩
abbrev cJ2_checkIndex_2214a : ByteArray := prog_15_method_91_code
def yJ2_checkIndex_2214a : MethodName := ⟨RJ2, "checkIndex", "(I[B)V"⟩
def RJ10 : String := "java/lang/System"
def TJ10 : u_T := fun k => match k with
  | _ => ("", "", "", false)
def tyJ10 : Nat → FieldType := fun k => match k with
  | _ => .int
abbrev wsJ100 : List Cond := u_ws RJ10 TJ10 0
theorem nmJ10 : ∀ a, a < 0 → ∀ b, b < 0 → a ≠ b → (TJ10 a).2.1 ≠ (TJ10 b).2.1 := by decide +kernel
theorem tyJ10_ok : ∀ k, k < 0 → parseFieldDescriptor (TJ10 k).2.2.1 = some (tyJ10 k) := by decide +kernel
def RJxfd54e : String := "java/lang/constant/Constable"
def TJxfd54e : u_T := fun k => match k with
  | _ => ("", "", "", false)
def tyJxfd54e : Nat → FieldType := fun k => match k with
  | _ => .int
abbrev wsJxfd54e0 : List Cond := u_ws RJxfd54e TJxfd54e 0
theorem nmJxfd54e : ∀ a, a < 0 → ∀ b, b < 0 → a ≠ b → (TJxfd54e a).2.1 ≠ (TJxfd54e b).2.1 := by decide +kernel
theorem tyJxfd54e_ok : ∀ k, k < 0 → parseFieldDescriptor (TJxfd54e k).2.2.1 = some (tyJxfd54e k) := by decide +kernel
def RJx3cf43 : String := "java/lang/constant/ConstantDesc"
def TJx3cf43 : u_T := fun k => match k with
  | _ => ("", "", "", false)
def tyJx3cf43 : Nat → FieldType := fun k => match k with
  | _ => .int
abbrev wsJx3cf430 : List Cond := u_ws RJx3cf43 TJx3cf43 0
theorem nmJx3cf43 : ∀ a, a < 0 → ∀ b, b < 0 → a ≠ b → (TJx3cf43 a).2.1 ≠ (TJx3cf43 b).2.1 := by decide +kernel
theorem tyJx3cf43_ok : ∀ k, k < 0 → parseFieldDescriptor (TJx3cf43 k).2.2.1 = some (tyJx3cf43 k) := by decide +kernel
def RJ7 : String := "java/util/Arrays"
def TJ7 : u_T := fun k => match k with
  | _ => ("", "", "", false)
def tyJ7 : Nat → FieldType := fun k => match k with
  | _ => .int
abbrev wsJ70 : List Cond := u_ws RJ7 TJ7 0
theorem nmJ7 : ∀ a, a < 0 → ∀ b, b < 0 → a ≠ b → (TJ7 a).2.1 ≠ (TJ7 b).2.1 := by decide +kernel
theorem tyJ7_ok : ∀ k, k < 0 → parseFieldDescriptor (TJ7 k).2.2.1 = some (tyJ7 k) := by decide +kernel
abbrev cJ7_fill_53178 : ByteArray := prog_17_method_103_code
def yJ7_fill_53178 : MethodName := ⟨RJ7, "fill", "([II)V"⟩
abbrev cJ7_copyOf_59c91 : ByteArray := prog_17_method_123_code
def yJ7_copyOf_59c91 : MethodName := ⟨RJ7, "copyOf", "([II)[I"⟩
def RJ3 : String := "jdk/internal/util/Preconditions"
def TJ3 : u_T := fun k => match k with
  | _ => ("", "", "", false)
def tyJ3 : Nat → FieldType := fun k => match k with
  | _ => .int
abbrev wsJ30 : List Cond := u_ws RJ3 TJ3 0
theorem nmJ3 : ∀ a, a < 0 → ∀ b, b < 0 → a ≠ b → (TJ3 a).2.1 ≠ (TJ3 b).2.1 := by decide +kernel
theorem tyJ3_ok : ∀ k, k < 0 → parseFieldDescriptor (TJ3 k).2.2.1 = some (tyJ3 k) := by decide +kernel
abbrev cJ3_checkIndex_8e157 : ByteArray := prog_18_method_11_code
def yJ3_checkIndex_8e157 : MethodName := ⟨RJ3, "checkIndex", "(IILjava/util/function/BiFunction;)I"⟩
def RL : String := "WarmChairsLaw"
abbrev cL_law : ByteArray := code
def yL_law : MethodName := ⟨RL, "law", "([I)Z"⟩
abbrev vwCl : List vw_C := [(RX0, TX0, 13), (RX1, TX1, 12), (RX3, TX3, 3), (RX4, TX4, 3), (RX5, TX5, 8), (RX6, TX6, 14), (RX7, TX7, 47)]
