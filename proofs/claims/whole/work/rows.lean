section
-- ===== PART A: goes FIRST, ahead of the names: the tables' words, and 'selects' of the private methods out of them =====
/-- a private method of a class that the tables say can be made, by its rows of tables_1 -/
def lw_okq (q : MethodName × Nat) : Prop := (q.1.cls ≠ "java/lang/invoke/MethodHandle" ∧ q.1.cls ≠ "java/lang/invoke/VarHandle") ∧ Cond.instantiable q.1.cls q.2 ∈ tables_1 ∧ Cond.privateMethod q.1 ∈ tables_1 ∧ Cond.instanceMethod q.1 ∈ tables_1
theorem lw_p0 : lw_okq (⟨"OldLight", "refuse", "(I)I"⟩, 13) := ⟨⟨by decide +kernel, by decide +kernel⟩, List.mem_of_getElem? (i := 19) (by decide +kernel), List.mem_of_getElem? (i := 295) (by decide +kernel), List.mem_of_getElem? (i := 296) (by decide +kernel)⟩
theorem lw_p1 : lw_okq (⟨"OldLight", "isCell", "(I)Z"⟩, 13) := ⟨⟨by decide +kernel, by decide +kernel⟩, List.mem_of_getElem? (i := 19) (by decide +kernel), List.mem_of_getElem? (i := 304) (by decide +kernel), List.mem_of_getElem? (i := 305) (by decide +kernel)⟩
theorem lw_p2 : lw_okq (⟨"OldLight$Fleet", "setOf", "([II)I"⟩, 7) := ⟨⟨by decide +kernel, by decide +kernel⟩, List.mem_of_getElem? (i := 89) (by decide +kernel), List.mem_of_getElem? (i := 353) (by decide +kernel), List.mem_of_getElem? (i := 354) (by decide +kernel)⟩
theorem lw_p3 : lw_okq (⟨"OldLight", "greatestSetting", "(I)I"⟩, 13) := ⟨⟨by decide +kernel, by decide +kernel⟩, List.mem_of_getElem? (i := 19) (by decide +kernel), List.mem_of_getElem? (i := 361) (by decide +kernel), List.mem_of_getElem? (i := 362) (by decide +kernel)⟩
theorem lw_p4 : lw_okq (⟨"OldLight", "isShip", "(I)Z"⟩, 13) := ⟨⟨by decide +kernel, by decide +kernel⟩, List.mem_of_getElem? (i := 19) (by decide +kernel), List.mem_of_getElem? (i := 376) (by decide +kernel), List.mem_of_getElem? (i := 377) (by decide +kernel)⟩
theorem lw_p5 : lw_okq (⟨"OldLight", "believedNext", "(I)I"⟩, 13) := ⟨⟨by decide +kernel, by decide +kernel⟩, List.mem_of_getElem? (i := 19) (by decide +kernel), List.mem_of_getElem? (i := 380) (by decide +kernel), List.mem_of_getElem? (i := 381) (by decide +kernel)⟩
theorem lw_p6 : lw_okq (⟨"OldLight", "greatestChange", "(I)I"⟩, 13) := ⟨⟨by decide +kernel, by decide +kernel⟩, List.mem_of_getElem? (i := 19) (by decide +kernel), List.mem_of_getElem? (i := 400) (by decide +kernel), List.mem_of_getElem? (i := 401) (by decide +kernel)⟩
theorem lw_p7 : lw_okq (⟨"OldLight$Reader", "readEither", "(I)Z"⟩, 5) := ⟨⟨by decide +kernel, by decide +kernel⟩, List.mem_of_getElem? (i := 175) (by decide +kernel), List.mem_of_getElem? (i := 435) (by decide +kernel), List.mem_of_getElem? (i := 436) (by decide +kernel)⟩
theorem lw_p8 : lw_okq (⟨"OldLight$Reader", "readBoth", "(I)Z"⟩, 5) := ⟨⟨by decide +kernel, by decide +kernel⟩, List.mem_of_getElem? (i := 175) (by decide +kernel), List.mem_of_getElem? (i := 439) (by decide +kernel), List.mem_of_getElem? (i := 440) (by decide +kernel)⟩
theorem lw_p9 : lw_okq (⟨"OldLight$Reader", "readCompared", "(I)Z"⟩, 5) := ⟨⟨by decide +kernel, by decide +kernel⟩, List.mem_of_getElem? (i := 175) (by decide +kernel), List.mem_of_getElem? (i := 443) (by decide +kernel), List.mem_of_getElem? (i := 444) (by decide +kernel)⟩
theorem lw_p10 : lw_okq (⟨"OldLight$Reader", "readSum", "(I)Z"⟩, 5) := ⟨⟨by decide +kernel, by decide +kernel⟩, List.mem_of_getElem? (i := 175) (by decide +kernel), List.mem_of_getElem? (i := 447) (by decide +kernel), List.mem_of_getElem? (i := 448) (by decide +kernel)⟩
theorem lw_p11 : lw_okq (⟨"OldLight$Reader", "readProduct", "(I)Z"⟩, 5) := ⟨⟨by decide +kernel, by decide +kernel⟩, List.mem_of_getElem? (i := 175) (by decide +kernel), List.mem_of_getElem? (i := 451) (by decide +kernel), List.mem_of_getElem? (i := 452) (by decide +kernel)⟩
theorem lw_p12 : lw_okq (⟨"OldLight$Reader", "readSingle", "(I)Z"⟩, 5) := ⟨⟨by decide +kernel, by decide +kernel⟩, List.mem_of_getElem? (i := 175) (by decide +kernel), List.mem_of_getElem? (i := 455) (by decide +kernel), List.mem_of_getElem? (i := 456) (by decide +kernel)⟩
theorem lw_p13 : lw_okq (⟨"OldLight$Reader", "upcoming", "()I"⟩, 5) := ⟨⟨by decide +kernel, by decide +kernel⟩, List.mem_of_getElem? (i := 175) (by decide +kernel), List.mem_of_getElem? (i := 459) (by decide +kernel), List.mem_of_getElem? (i := 460) (by decide +kernel)⟩
theorem lw_p14 : lw_okq (⟨"OldLight$Reader", "readNumber", "()V"⟩, 5) := ⟨⟨by decide +kernel, by decide +kernel⟩, List.mem_of_getElem? (i := 175) (by decide +kernel), List.mem_of_getElem? (i := 466) (by decide +kernel), List.mem_of_getElem? (i := 467) (by decide +kernel)⟩
theorem lw_p15 : lw_okq (⟨"OldLight$Reader", "readOpened", "(II)Z"⟩, 5) := ⟨⟨by decide +kernel, by decide +kernel⟩, List.mem_of_getElem? (i := 175) (by decide +kernel), List.mem_of_getElem? (i := 474) (by decide +kernel), List.mem_of_getElem? (i := 475) (by decide +kernel)⟩
def lw_privs_1 : List (MethodName × Nat) := [(⟨"OldLight", "refuse", "(I)I"⟩, 13), (⟨"OldLight", "isCell", "(I)Z"⟩, 13), (⟨"OldLight$Fleet", "setOf", "([II)I"⟩, 7), (⟨"OldLight", "greatestSetting", "(I)I"⟩, 13), (⟨"OldLight", "isShip", "(I)Z"⟩, 13), (⟨"OldLight", "believedNext", "(I)I"⟩, 13), (⟨"OldLight", "greatestChange", "(I)I"⟩, 13), (⟨"OldLight$Reader", "readEither", "(I)Z"⟩, 5), (⟨"OldLight$Reader", "readBoth", "(I)Z"⟩, 5), (⟨"OldLight$Reader", "readCompared", "(I)Z"⟩, 5), (⟨"OldLight$Reader", "readSum", "(I)Z"⟩, 5), (⟨"OldLight$Reader", "readProduct", "(I)Z"⟩, 5), (⟨"OldLight$Reader", "readSingle", "(I)Z"⟩, 5), (⟨"OldLight$Reader", "upcoming", "()I"⟩, 5), (⟨"OldLight$Reader", "readNumber", "()V"⟩, 5), (⟨"OldLight$Reader", "readOpened", "(II)Z"⟩, 5)]
theorem lw_r1 : ∀ q ∈ lw_privs_1, lw_okq q := List.forall_mem_cons.mpr ⟨lw_p0, List.forall_mem_cons.mpr ⟨lw_p1, List.forall_mem_cons.mpr ⟨lw_p2, List.forall_mem_cons.mpr ⟨lw_p3, List.forall_mem_cons.mpr ⟨lw_p4, List.forall_mem_cons.mpr ⟨lw_p5, List.forall_mem_cons.mpr ⟨lw_p6, List.forall_mem_cons.mpr ⟨lw_p7, List.forall_mem_cons.mpr ⟨lw_p8, List.forall_mem_cons.mpr ⟨lw_p9, List.forall_mem_cons.mpr ⟨lw_p10, List.forall_mem_cons.mpr ⟨lw_p11, List.forall_mem_cons.mpr ⟨lw_p12, List.forall_mem_cons.mpr ⟨lw_p13, List.forall_mem_cons.mpr ⟨lw_p14, List.forall_mem_cons.mpr ⟨lw_p15, fun _ h => absurd h List.not_mem_nil⟩⟩⟩⟩⟩⟩⟩⟩⟩⟩⟩⟩⟩⟩⟩⟩
theorem lw_p16 : lw_okq (⟨"OldLight$Reader", "readName", "(I)Z"⟩, 5) := ⟨⟨by decide +kernel, by decide +kernel⟩, List.mem_of_getElem? (i := 175) (by decide +kernel), List.mem_of_getElem? (i := 478) (by decide +kernel), List.mem_of_getElem? (i := 479) (by decide +kernel)⟩
theorem lw_p17 : lw_okq (⟨"OldLight", "passHour", "(LOldLight$Fleet;)V"⟩, 13) := ⟨⟨by decide +kernel, by decide +kernel⟩, List.mem_of_getElem? (i := 19) (by decide +kernel), List.mem_of_getElem? (i := 499) (by decide +kernel), List.mem_of_getElem? (i := 500) (by decide +kernel)⟩
theorem lw_p18 : lw_okq (⟨"OldLight", "sail", "(LOldLight$Fleet;I)V"⟩, 13) := ⟨⟨by decide +kernel, by decide +kernel⟩, List.mem_of_getElem? (i := 19) (by decide +kernel), List.mem_of_getElem? (i := 503) (by decide +kernel), List.mem_of_getElem? (i := 504) (by decide +kernel)⟩
theorem lw_p19 : lw_okq (⟨"OldLight", "think", "(I)V"⟩, 13) := ⟨⟨by decide +kernel, by decide +kernel⟩, List.mem_of_getElem? (i := 19) (by decide +kernel), List.mem_of_getElem? (i := 535) (by decide +kernel), List.mem_of_getElem? (i := 536) (by decide +kernel)⟩
theorem lw_p20 : lw_okq (⟨"OldLight", "leastNewlyLost", "()I"⟩, 13) := ⟨⟨by decide +kernel, by decide +kernel⟩, List.mem_of_getElem? (i := 19) (by decide +kernel), List.mem_of_getElem? (i := 556) (by decide +kernel), List.mem_of_getElem? (i := 557) (by decide +kernel)⟩
theorem lw_p21 : lw_okq (⟨"OldLight", "isShownAs", "(LOldLight$Sheet;I)Z"⟩, 13) := ⟨⟨by decide +kernel, by decide +kernel⟩, List.mem_of_getElem? (i := 19) (by decide +kernel), List.mem_of_getElem? (i := 583) (by decide +kernel), List.mem_of_getElem? (i := 584) (by decide +kernel)⟩
theorem lw_p22 : lw_okq (⟨"OldLight$Speaker", "own", "(III)I"⟩, 5) := ⟨⟨by decide +kernel, by decide +kernel⟩, List.mem_of_getElem? (i := 200) (by decide +kernel), List.mem_of_getElem? (i := 628) (by decide +kernel), List.mem_of_getElem? (i := 629) (by decide +kernel)⟩
theorem lw_p23 : lw_okq (⟨"OldLight$Speaker", "sayFrom", "(IIII)I"⟩, 5) := ⟨⟨by decide +kernel, by decide +kernel⟩, List.mem_of_getElem? (i := 200) (by decide +kernel), List.mem_of_getElem? (i := 632) (by decide +kernel), List.mem_of_getElem? (i := 633) (by decide +kernel)⟩
theorem lw_p24 : lw_okq (⟨"OldLight$Speaker", "say", "(III)I"⟩, 5) := ⟨⟨by decide +kernel, by decide +kernel⟩, List.mem_of_getElem? (i := 200) (by decide +kernel), List.mem_of_getElem? (i := 639) (by decide +kernel), List.mem_of_getElem? (i := 640) (by decide +kernel)⟩
theorem lw_p25 : lw_okq (⟨"OldLight$Speaker", "above", "(IIII)I"⟩, 5) := ⟨⟨by decide +kernel, by decide +kernel⟩, List.mem_of_getElem? (i := 200) (by decide +kernel), List.mem_of_getElem? (i := 643) (by decide +kernel), List.mem_of_getElem? (i := 644) (by decide +kernel)⟩
theorem lw_p26 : lw_okq (⟨"OldLightModel", "flat", "(I)I"⟩, 24) := ⟨⟨by decide +kernel, by decide +kernel⟩, List.mem_of_getElem? (i := 720) (by decide +kernel), List.mem_of_getElem? (i := 730) (by decide +kernel), List.mem_of_getElem? (i := 731) (by decide +kernel)⟩
theorem lw_p27 : lw_okq (⟨"OldLightModel", "forgetDepths", "()V"⟩, 24) := ⟨⟨by decide +kernel, by decide +kernel⟩, List.mem_of_getElem? (i := 720) (by decide +kernel), List.mem_of_getElem? (i := 737) (by decide +kernel), List.mem_of_getElem? (i := 738) (by decide +kernel)⟩
theorem lw_p28 : lw_okq (⟨"OldLightModel", "turn", "(II)I"⟩, 24) := ⟨⟨by decide +kernel, by decide +kernel⟩, List.mem_of_getElem? (i := 720) (by decide +kernel), List.mem_of_getElem? (i := 741) (by decide +kernel), List.mem_of_getElem? (i := 742) (by decide +kernel)⟩
theorem lw_p29 : lw_okq (⟨"OldLightModel", "finding", "(I)I"⟩, 24) := ⟨⟨by decide +kernel, by decide +kernel⟩, List.mem_of_getElem? (i := 720) (by decide +kernel), List.mem_of_getElem? (i := 827) (by decide +kernel), List.mem_of_getElem? (i := 828) (by decide +kernel)⟩
theorem lw_p30 : lw_okq (⟨"OldLightModel", "either", "()V"⟩, 24) := ⟨⟨by decide +kernel, by decide +kernel⟩, List.mem_of_getElem? (i := 720) (by decide +kernel), List.mem_of_getElem? (i := 838) (by decide +kernel), List.mem_of_getElem? (i := 839) (by decide +kernel)⟩
theorem lw_p31 : lw_okq (⟨"OldLightModel", "both", "()V"⟩, 24) := ⟨⟨by decide +kernel, by decide +kernel⟩, List.mem_of_getElem? (i := 720) (by decide +kernel), List.mem_of_getElem? (i := 842) (by decide +kernel), List.mem_of_getElem? (i := 843) (by decide +kernel)⟩
def lw_privs_2 : List (MethodName × Nat) := [(⟨"OldLight$Reader", "readName", "(I)Z"⟩, 5), (⟨"OldLight", "passHour", "(LOldLight$Fleet;)V"⟩, 13), (⟨"OldLight", "sail", "(LOldLight$Fleet;I)V"⟩, 13), (⟨"OldLight", "think", "(I)V"⟩, 13), (⟨"OldLight", "leastNewlyLost", "()I"⟩, 13), (⟨"OldLight", "isShownAs", "(LOldLight$Sheet;I)Z"⟩, 13), (⟨"OldLight$Speaker", "own", "(III)I"⟩, 5), (⟨"OldLight$Speaker", "sayFrom", "(IIII)I"⟩, 5), (⟨"OldLight$Speaker", "say", "(III)I"⟩, 5), (⟨"OldLight$Speaker", "above", "(IIII)I"⟩, 5), (⟨"OldLightModel", "flat", "(I)I"⟩, 24), (⟨"OldLightModel", "forgetDepths", "()V"⟩, 24), (⟨"OldLightModel", "turn", "(II)I"⟩, 24), (⟨"OldLightModel", "finding", "(I)I"⟩, 24), (⟨"OldLightModel", "either", "()V"⟩, 24), (⟨"OldLightModel", "both", "()V"⟩, 24)]
theorem lw_r2 : ∀ q ∈ lw_privs_2, lw_okq q := List.forall_mem_cons.mpr ⟨lw_p16, List.forall_mem_cons.mpr ⟨lw_p17, List.forall_mem_cons.mpr ⟨lw_p18, List.forall_mem_cons.mpr ⟨lw_p19, List.forall_mem_cons.mpr ⟨lw_p20, List.forall_mem_cons.mpr ⟨lw_p21, List.forall_mem_cons.mpr ⟨lw_p22, List.forall_mem_cons.mpr ⟨lw_p23, List.forall_mem_cons.mpr ⟨lw_p24, List.forall_mem_cons.mpr ⟨lw_p25, List.forall_mem_cons.mpr ⟨lw_p26, List.forall_mem_cons.mpr ⟨lw_p27, List.forall_mem_cons.mpr ⟨lw_p28, List.forall_mem_cons.mpr ⟨lw_p29, List.forall_mem_cons.mpr ⟨lw_p30, List.forall_mem_cons.mpr ⟨lw_p31, fun _ h => absurd h List.not_mem_nil⟩⟩⟩⟩⟩⟩⟩⟩⟩⟩⟩⟩⟩⟩⟩⟩
theorem lw_p32 : lw_okq (⟨"OldLightModel", "compared", "()V"⟩, 24) := ⟨⟨by decide +kernel, by decide +kernel⟩, List.mem_of_getElem? (i := 720) (by decide +kernel), List.mem_of_getElem? (i := 846) (by decide +kernel), List.mem_of_getElem? (i := 847) (by decide +kernel)⟩
theorem lw_p33 : lw_okq (⟨"OldLightModel", "sum", "()V"⟩, 24) := ⟨⟨by decide +kernel, by decide +kernel⟩, List.mem_of_getElem? (i := 720) (by decide +kernel), List.mem_of_getElem? (i := 850) (by decide +kernel), List.mem_of_getElem? (i := 851) (by decide +kernel)⟩
theorem lw_p34 : lw_okq (⟨"OldLightModel", "product", "()V"⟩, 24) := ⟨⟨by decide +kernel, by decide +kernel⟩, List.mem_of_getElem? (i := 720) (by decide +kernel), List.mem_of_getElem? (i := 854) (by decide +kernel), List.mem_of_getElem? (i := 855) (by decide +kernel)⟩
theorem lw_p35 : lw_okq (⟨"OldLightModel", "one", "()V"⟩, 24) := ⟨⟨by decide +kernel, by decide +kernel⟩, List.mem_of_getElem? (i := 720) (by decide +kernel), List.mem_of_getElem? (i := 858) (by decide +kernel), List.mem_of_getElem? (i := 859) (by decide +kernel)⟩
theorem lw_p36 : lw_okq (⟨"OldLightModel", "here", "()I"⟩, 24) := ⟨⟨by decide +kernel, by decide +kernel⟩, List.mem_of_getElem? (i := 720) (by decide +kernel), List.mem_of_getElem? (i := 862) (by decide +kernel), List.mem_of_getElem? (i := 863) (by decide +kernel)⟩
theorem lw_p37 : lw_okq (⟨"OldLightModel", "codes", "(I)V"⟩, 24) := ⟨⟨by decide +kernel, by decide +kernel⟩, List.mem_of_getElem? (i := 720) (by decide +kernel), List.mem_of_getElem? (i := 866) (by decide +kernel), List.mem_of_getElem? (i := 867) (by decide +kernel)⟩
theorem lw_p38 : lw_okq (⟨"OldLightModel", "takes", "(I)Z"⟩, 24) := ⟨⟨by decide +kernel, by decide +kernel⟩, List.mem_of_getElem? (i := 720) (by decide +kernel), List.mem_of_getElem? (i := 870) (by decide +kernel), List.mem_of_getElem? (i := 871) (by decide +kernel)⟩
theorem lw_p39 : lw_okq (⟨"OldLightModel", "nameOf", "(I)I"⟩, 24) := ⟨⟨by decide +kernel, by decide +kernel⟩, List.mem_of_getElem? (i := 720) (by decide +kernel), List.mem_of_getElem? (i := 874) (by decide +kernel), List.mem_of_getElem? (i := 875) (by decide +kernel)⟩
theorem lw_p40 : lw_okq (⟨"OldLightModel", "given", "(IIII)I"⟩, 24) := ⟨⟨by decide +kernel, by decide +kernel⟩, List.mem_of_getElem? (i := 720) (by decide +kernel), List.mem_of_getElem? (i := 930) (by decide +kernel), List.mem_of_getElem? (i := 931) (by decide +kernel)⟩
theorem lw_p41 : lw_okq (⟨"OldLightModel", "hasText", "(I)Z"⟩, 24) := ⟨⟨by decide +kernel, by decide +kernel⟩, List.mem_of_getElem? (i := 720) (by decide +kernel), List.mem_of_getElem? (i := 934) (by decide +kernel), List.mem_of_getElem? (i := 935) (by decide +kernel)⟩
theorem lw_p42 : lw_okq (⟨"OldLightModel", "worked", "(I)I"⟩, 24) := ⟨⟨by decide +kernel, by decide +kernel⟩, List.mem_of_getElem? (i := 720) (by decide +kernel), List.mem_of_getElem? (i := 938) (by decide +kernel), List.mem_of_getElem? (i := 939) (by decide +kernel)⟩
theorem lw_p43 : lw_okq (⟨"OldLightModel", "isCell", "(I)Z"⟩, 24) := ⟨⟨by decide +kernel, by decide +kernel⟩, List.mem_of_getElem? (i := 720) (by decide +kernel), List.mem_of_getElem? (i := 959) (by decide +kernel), List.mem_of_getElem? (i := 960) (by decide +kernel)⟩
theorem lw_p44 : lw_okq (⟨"OldLightModel", "cellIs", "(II)I"⟩, 24) := ⟨⟨by decide +kernel, by decide +kernel⟩, List.mem_of_getElem? (i := 720) (by decide +kernel), List.mem_of_getElem? (i := 967) (by decide +kernel), List.mem_of_getElem? (i := 968) (by decide +kernel)⟩
theorem lw_p45 : lw_okq (⟨"OldLightModel", "trueDepth", "(I)I"⟩, 24) := ⟨⟨by decide +kernel, by decide +kernel⟩, List.mem_of_getElem? (i := 720) (by decide +kernel), List.mem_of_getElem? (i := 971) (by decide +kernel), List.mem_of_getElem? (i := 972) (by decide +kernel)⟩
theorem lw_p46 : lw_okq (⟨"OldLightModel", "depthIn", "(II)I"⟩, 24) := ⟨⟨by decide +kernel, by decide +kernel⟩, List.mem_of_getElem? (i := 720) (by decide +kernel), List.mem_of_getElem? (i := 975) (by decide +kernel), List.mem_of_getElem? (i := 976) (by decide +kernel)⟩
theorem lw_p47 : lw_okq (⟨"OldLightModel", "depthFor", "(II)I"⟩, 24) := ⟨⟨by decide +kernel, by decide +kernel⟩, List.mem_of_getElem? (i := 720) (by decide +kernel), List.mem_of_getElem? (i := 979) (by decide +kernel), List.mem_of_getElem? (i := 980) (by decide +kernel)⟩
def lw_privs_3 : List (MethodName × Nat) := [(⟨"OldLightModel", "compared", "()V"⟩, 24), (⟨"OldLightModel", "sum", "()V"⟩, 24), (⟨"OldLightModel", "product", "()V"⟩, 24), (⟨"OldLightModel", "one", "()V"⟩, 24), (⟨"OldLightModel", "here", "()I"⟩, 24), (⟨"OldLightModel", "codes", "(I)V"⟩, 24), (⟨"OldLightModel", "takes", "(I)Z"⟩, 24), (⟨"OldLightModel", "nameOf", "(I)I"⟩, 24), (⟨"OldLightModel", "given", "(IIII)I"⟩, 24), (⟨"OldLightModel", "hasText", "(I)Z"⟩, 24), (⟨"OldLightModel", "worked", "(I)I"⟩, 24), (⟨"OldLightModel", "isCell", "(I)Z"⟩, 24), (⟨"OldLightModel", "cellIs", "(II)I"⟩, 24), (⟨"OldLightModel", "trueDepth", "(I)I"⟩, 24), (⟨"OldLightModel", "depthIn", "(II)I"⟩, 24), (⟨"OldLightModel", "depthFor", "(II)I"⟩, 24)]
theorem lw_r3 : ∀ q ∈ lw_privs_3, lw_okq q := List.forall_mem_cons.mpr ⟨lw_p32, List.forall_mem_cons.mpr ⟨lw_p33, List.forall_mem_cons.mpr ⟨lw_p34, List.forall_mem_cons.mpr ⟨lw_p35, List.forall_mem_cons.mpr ⟨lw_p36, List.forall_mem_cons.mpr ⟨lw_p37, List.forall_mem_cons.mpr ⟨lw_p38, List.forall_mem_cons.mpr ⟨lw_p39, List.forall_mem_cons.mpr ⟨lw_p40, List.forall_mem_cons.mpr ⟨lw_p41, List.forall_mem_cons.mpr ⟨lw_p42, List.forall_mem_cons.mpr ⟨lw_p43, List.forall_mem_cons.mpr ⟨lw_p44, List.forall_mem_cons.mpr ⟨lw_p45, List.forall_mem_cons.mpr ⟨lw_p46, List.forall_mem_cons.mpr ⟨lw_p47, fun _ h => absurd h List.not_mem_nil⟩⟩⟩⟩⟩⟩⟩⟩⟩⟩⟩⟩⟩⟩⟩⟩
theorem lw_p48 : lw_okq (⟨"OldLightModel", "shown", "(II)I"⟩, 24) := ⟨⟨by decide +kernel, by decide +kernel⟩, List.mem_of_getElem? (i := 720) (by decide +kernel), List.mem_of_getElem? (i := 983) (by decide +kernel), List.mem_of_getElem? (i := 984) (by decide +kernel)⟩
theorem lw_p49 : lw_okq (⟨"OldLightModel", "shipsAt", "(I)I"⟩, 24) := ⟨⟨by decide +kernel, by decide +kernel⟩, List.mem_of_getElem? (i := 720) (by decide +kernel), List.mem_of_getElem? (i := 990) (by decide +kernel), List.mem_of_getElem? (i := 991) (by decide +kernel)⟩
theorem lw_p50 : lw_okq (⟨"OldLightModel", "shipIs", "(II)I"⟩, 24) := ⟨⟨by decide +kernel, by decide +kernel⟩, List.mem_of_getElem? (i := 720) (by decide +kernel), List.mem_of_getElem? (i := 994) (by decide +kernel), List.mem_of_getElem? (i := 995) (by decide +kernel)⟩
theorem lw_p51 : lw_okq (⟨"OldLightModel", "shipComes", "(III)I"⟩, 24) := ⟨⟨by decide +kernel, by decide +kernel⟩, List.mem_of_getElem? (i := 720) (by decide +kernel), List.mem_of_getElem? (i := 1022) (by decide +kernel), List.mem_of_getElem? (i := 1023) (by decide +kernel)⟩
theorem lw_p52 : lw_okq (⟨"OldLightModel", "isShip", "(I)Z"⟩, 24) := ⟨⟨by decide +kernel, by decide +kernel⟩, List.mem_of_getElem? (i := 720) (by decide +kernel), List.mem_of_getElem? (i := 1030) (by decide +kernel), List.mem_of_getElem? (i := 1031) (by decide +kernel)⟩
theorem lw_p53 : lw_okq (⟨"OldLightModel", "believes", "(II)I"⟩, 24) := ⟨⟨by decide +kernel, by decide +kernel⟩, List.mem_of_getElem? (i := 720) (by decide +kernel), List.mem_of_getElem? (i := 1034) (by decide +kernel), List.mem_of_getElem? (i := 1035) (by decide +kernel)⟩
theorem lw_p54 : lw_okq (⟨"OldLightModel", "hoursGo", "(I)V"⟩, 24) := ⟨⟨by decide +kernel, by decide +kernel⟩, List.mem_of_getElem? (i := 720) (by decide +kernel), List.mem_of_getElem? (i := 1061) (by decide +kernel), List.mem_of_getElem? (i := 1062) (by decide +kernel)⟩
theorem lw_p55 : lw_okq (⟨"OldLightModel", "hour", "()V"⟩, 24) := ⟨⟨by decide +kernel, by decide +kernel⟩, List.mem_of_getElem? (i := 720) (by decide +kernel), List.mem_of_getElem? (i := 1065) (by decide +kernel), List.mem_of_getElem? (i := 1066) (by decide +kernel)⟩
theorem lw_p56 : lw_okq (⟨"OldLightModel", "sails", "(I)V"⟩, 24) := ⟨⟨by decide +kernel, by decide +kernel⟩, List.mem_of_getElem? (i := 720) (by decide +kernel), List.mem_of_getElem? (i := 1069) (by decide +kernel), List.mem_of_getElem? (i := 1070) (by decide +kernel)⟩
theorem lw_p57 : lw_okq (⟨"OldLightModel", "manyIn", "()I"⟩, 24) := ⟨⟨by decide +kernel, by decide +kernel⟩, List.mem_of_getElem? (i := 720) (by decide +kernel), List.mem_of_getElem? (i := 1073) (by decide +kernel), List.mem_of_getElem? (i := 1074) (by decide +kernel)⟩
theorem lw_p58 : lw_okq (⟨"OldLightModel", "drawn", "()I"⟩, 24) := ⟨⟨by decide +kernel, by decide +kernel⟩, List.mem_of_getElem? (i := 720) (by decide +kernel), List.mem_of_getElem? (i := 1084) (by decide +kernel), List.mem_of_getElem? (i := 1085) (by decide +kernel)⟩
theorem lw_p59 : lw_okq (⟨"OldLightModel", "putBack", "(I)I"⟩, 24) := ⟨⟨by decide +kernel, by decide +kernel⟩, List.mem_of_getElem? (i := 720) (by decide +kernel), List.mem_of_getElem? (i := 1099) (by decide +kernel), List.mem_of_getElem? (i := 1100) (by decide +kernel)⟩
theorem lw_p60 : lw_okq (⟨"OldLightModel", "lostNow", "()I"⟩, 24) := ⟨⟨by decide +kernel, by decide +kernel⟩, List.mem_of_getElem? (i := 720) (by decide +kernel), List.mem_of_getElem? (i := 1107) (by decide +kernel), List.mem_of_getElem? (i := 1108) (by decide +kernel)⟩
theorem lw_p61 : lw_okq (⟨"OldLightModel", "inBehind", "(I)I"⟩, 24) := ⟨⟨by decide +kernel, by decide +kernel⟩, List.mem_of_getElem? (i := 720) (by decide +kernel), List.mem_of_getElem? (i := 1116) (by decide +kernel), List.mem_of_getElem? (i := 1117) (by decide +kernel)⟩
theorem lw_p62 : lw_okq (⟨"OldLightModel", "falseBy", "(I)I"⟩, 24) := ⟨⟨by decide +kernel, by decide +kernel⟩, List.mem_of_getElem? (i := 720) (by decide +kernel), List.mem_of_getElem? (i := 1124) (by decide +kernel), List.mem_of_getElem? (i := 1125) (by decide +kernel)⟩
theorem lw_p63 : lw_okq (⟨"OldLightModel", "isShownSo", "(II)Z"⟩, 24) := ⟨⟨by decide +kernel, by decide +kernel⟩, List.mem_of_getElem? (i := 720) (by decide +kernel), List.mem_of_getElem? (i := 1135) (by decide +kernel), List.mem_of_getElem? (i := 1136) (by decide +kernel)⟩
def lw_privs_4 : List (MethodName × Nat) := [(⟨"OldLightModel", "shown", "(II)I"⟩, 24), (⟨"OldLightModel", "shipsAt", "(I)I"⟩, 24), (⟨"OldLightModel", "shipIs", "(II)I"⟩, 24), (⟨"OldLightModel", "shipComes", "(III)I"⟩, 24), (⟨"OldLightModel", "isShip", "(I)Z"⟩, 24), (⟨"OldLightModel", "believes", "(II)I"⟩, 24), (⟨"OldLightModel", "hoursGo", "(I)V"⟩, 24), (⟨"OldLightModel", "hour", "()V"⟩, 24), (⟨"OldLightModel", "sails", "(I)V"⟩, 24), (⟨"OldLightModel", "manyIn", "()I"⟩, 24), (⟨"OldLightModel", "drawn", "()I"⟩, 24), (⟨"OldLightModel", "putBack", "(I)I"⟩, 24), (⟨"OldLightModel", "lostNow", "()I"⟩, 24), (⟨"OldLightModel", "inBehind", "(I)I"⟩, 24), (⟨"OldLightModel", "falseBy", "(I)I"⟩, 24), (⟨"OldLightModel", "isShownSo", "(II)Z"⟩, 24)]
theorem lw_r4 : ∀ q ∈ lw_privs_4, lw_okq q := List.forall_mem_cons.mpr ⟨lw_p48, List.forall_mem_cons.mpr ⟨lw_p49, List.forall_mem_cons.mpr ⟨lw_p50, List.forall_mem_cons.mpr ⟨lw_p51, List.forall_mem_cons.mpr ⟨lw_p52, List.forall_mem_cons.mpr ⟨lw_p53, List.forall_mem_cons.mpr ⟨lw_p54, List.forall_mem_cons.mpr ⟨lw_p55, List.forall_mem_cons.mpr ⟨lw_p56, List.forall_mem_cons.mpr ⟨lw_p57, List.forall_mem_cons.mpr ⟨lw_p58, List.forall_mem_cons.mpr ⟨lw_p59, List.forall_mem_cons.mpr ⟨lw_p60, List.forall_mem_cons.mpr ⟨lw_p61, List.forall_mem_cons.mpr ⟨lw_p62, List.forall_mem_cons.mpr ⟨lw_p63, fun _ h => absurd h List.not_mem_nil⟩⟩⟩⟩⟩⟩⟩⟩⟩⟩⟩⟩⟩⟩⟩⟩
theorem lw_p64 : lw_okq (⟨"OldLightModel", "sailsOf", "(I)I"⟩, 24) := ⟨⟨by decide +kernel, by decide +kernel⟩, List.mem_of_getElem? (i := 720) (by decide +kernel), List.mem_of_getElem? (i := 1171) (by decide +kernel), List.mem_of_getElem? (i := 1172) (by decide +kernel)⟩
theorem lw_p65 : lw_okq (⟨"OldLightModel", "ran", "(I)V"⟩, 24) := ⟨⟨by decide +kernel, by decide +kernel⟩, List.mem_of_getElem? (i := 720) (by decide +kernel), List.mem_of_getElem? (i := 1175) (by decide +kernel), List.mem_of_getElem? (i := 1176) (by decide +kernel)⟩
theorem lw_p66 : lw_okq (⟨"OldLightModel", "steersOf", "(I)I"⟩, 24) := ⟨⟨by decide +kernel, by decide +kernel⟩, List.mem_of_getElem? (i := 720) (by decide +kernel), List.mem_of_getElem? (i := 1179) (by decide +kernel), List.mem_of_getElem? (i := 1180) (by decide +kernel)⟩
theorem lw_p67 : lw_okq (⟨"OldLightModel", "soundsOf", "(I)I"⟩, 24) := ⟨⟨by decide +kernel, by decide +kernel⟩, List.mem_of_getElem? (i := 720) (by decide +kernel), List.mem_of_getElem? (i := 1183) (by decide +kernel), List.mem_of_getElem? (i := 1184) (by decide +kernel)⟩
theorem lw_p68 : lw_okq (⟨"OldLightModel", "logsOf", "(I)I"⟩, 24) := ⟨⟨by decide +kernel, by decide +kernel⟩, List.mem_of_getElem? (i := 720) (by decide +kernel), List.mem_of_getElem? (i := 1187) (by decide +kernel), List.mem_of_getElem? (i := 1188) (by decide +kernel)⟩
theorem lw_p69 : lw_okq (⟨"OldLightModel", "plainLogs", "(I)I"⟩, 24) := ⟨⟨by decide +kernel, by decide +kernel⟩, List.mem_of_getElem? (i := 720) (by decide +kernel), List.mem_of_getElem? (i := 1191) (by decide +kernel), List.mem_of_getElem? (i := 1192) (by decide +kernel)⟩
def lw_privs_5 : List (MethodName × Nat) := [(⟨"OldLightModel", "sailsOf", "(I)I"⟩, 24), (⟨"OldLightModel", "ran", "(I)V"⟩, 24), (⟨"OldLightModel", "steersOf", "(I)I"⟩, 24), (⟨"OldLightModel", "soundsOf", "(I)I"⟩, 24), (⟨"OldLightModel", "logsOf", "(I)I"⟩, 24), (⟨"OldLightModel", "plainLogs", "(I)I"⟩, 24)]
theorem lw_r5 : ∀ q ∈ lw_privs_5, lw_okq q := List.forall_mem_cons.mpr ⟨lw_p64, List.forall_mem_cons.mpr ⟨lw_p65, List.forall_mem_cons.mpr ⟨lw_p66, List.forall_mem_cons.mpr ⟨lw_p67, List.forall_mem_cons.mpr ⟨lw_p68, List.forall_mem_cons.mpr ⟨lw_p69, fun _ h => absurd h List.not_mem_nil⟩⟩⟩⟩⟩⟩
def lw_privs : List (MethodName × Nat) := lw_privs_1 ++ (lw_privs_2 ++ (lw_privs_3 ++ (lw_privs_4 ++ (lw_privs_5))))
def lw_tbl : List Cond := k2_sels lw_privs ++ tables_1
theorem lw_privs_ok : ∀ q ∈ lw_privs, lw_okq q := by
  show ∀ q ∈ lw_privs_1 ++ (lw_privs_2 ++ (lw_privs_3 ++ (lw_privs_4 ++ (lw_privs_5)))), lw_okq q
  exact List.forall_mem_append.mpr ⟨lw_r1, List.forall_mem_append.mpr ⟨lw_r2, List.forall_mem_append.mpr ⟨lw_r3, List.forall_mem_append.mpr ⟨lw_r4, lw_r5⟩⟩⟩⟩
end
section
def RX0 : String := "OldLight$Bay"
def TX0 : u_T := fun k => match k with
  | 0 => ("OldLight$Bay", "cells", "I", false)
  | 1 => ("OldLight$Bay", "year", "I", false)
  | 2 => ("OldLight$Bay", "back", "I", false)
  | 3 => ("OldLight$Bay", "beam", "I", false)
  | 4 => ("OldLight$Bay", "bed", "[I", true)
  | 5 => ("OldLight$Bay", "from", "[I", true)
  | 6 => ("OldLight$Bay", "till", "[I", true)
  | 7 => ("OldLight$Bay", "deepness", "LOldLight$Law;", true)
  | _ => ("OldLight$Bay", "manner", "LOldLight$Law;", true)
def tyX0 : Nat → FieldType := fun k => match k with
  | 0 => .int
  | 1 => .int
  | 2 => .int
  | 3 => .int
  | 4 => .array .int
  | 5 => .array .int
  | 6 => .array .int
  | 7 => .object "OldLight$Law"
  | _ => .object "OldLight$Law"
abbrev wsX00 : List Cond := u_ws RX0 TX0 9
theorem nmX0 : ∀ a, a < 9 → ∀ b, b < 9 → a ≠ b → (TX0 a).2.1 ≠ (TX0 b).2.1 := by decide +kernel
theorem tyX0_ok : ∀ k, k < 9 → parseFieldDescriptor (TX0 k).2.2.1 = some (tyX0 k) := by decide +kernel
abbrev cX0_init : ByteArray := prog_2_method_1_code
def yX0_init : MethodName := ⟨RX0, "<init>", "()V"⟩
abbrev cX0_renew : ByteArray := prog_2_method_2_code
def yX0_renew : MethodName := ⟨RX0, "renew", "(I)V"⟩
abbrev cX0_copyFrom : ByteArray := prog_2_method_3_code
def yX0_copyFrom : MethodName := ⟨RX0, "copyFrom", "(LOldLight$Bay;)V"⟩
abbrev cX0_lawOf : ByteArray := prog_2_method_4_code
def yX0_lawOf : MethodName := ⟨RX0, "lawOf", "(I)LOldLight$Law;"⟩
abbrev cX0_give : ByteArray := prog_2_method_5_code
def yX0_give : MethodName := ⟨RX0, "give", "(IIII)I"⟩
abbrev cX0_depthIn : ByteArray := prog_2_method_6_code
def yX0_depthIn : MethodName := ⟨RX0, "depthIn", "(II)I"⟩
abbrev cX0_shownBy : ByteArray := prog_2_method_7_code
def yX0_shownBy : MethodName := ⟨RX0, "shownBy", "(II)I"⟩
def RX1 : String := "OldLight$Chart"
def TX1 : u_T := fun k => match k with
  | 0 => ("OldLight$Chart", "beam", "I", false)
  | 1 => ("OldLight$Chart", "cells", "I", false)
  | 2 => ("OldLight$Chart", "truth", "[I", true)
  | 3 => ("OldLight$Chart", "past", "[I", true)
  | _ => ("OldLight$Chart", "older", "[I", true)
def tyX1 : Nat → FieldType := fun k => match k with
  | 0 => .int
  | 1 => .int
  | 2 => .array .int
  | 3 => .array .int
  | _ => .array .int
abbrev wsX10 : List Cond := u_ws RX1 TX1 5
theorem nmX1 : ∀ a, a < 5 → ∀ b, b < 5 → a ≠ b → (TX1 a).2.1 ≠ (TX1 b).2.1 := by decide +kernel
theorem tyX1_ok : ∀ k, k < 5 → parseFieldDescriptor (TX1 k).2.2.1 = some (tyX1 k) := by decide +kernel
abbrev cX1_init : ByteArray := prog_3_method_1_code
def yX1_init : MethodName := ⟨RX1, "<init>", "()V"⟩
abbrev cX1_draw : ByteArray := prog_3_method_2_code
def yX1_draw : MethodName := ⟨RX1, "draw", "(LOldLight$Bay;I)V"⟩
abbrev cX1_countFalse : ByteArray := prog_3_method_3_code
def yX1_countFalse : MethodName := ⟨RX1, "countFalse", "()I"⟩
abbrev cX1_believed : ByteArray := prog_3_method_4_code
def yX1_believed : MethodName := ⟨RX1, "believed", "(III)I"⟩
def RX2 : String := "OldLight$Desk"
def TX2 : u_T := fun k => match k with
  | 0 => ("OldLight$Desk", "z", "I", false)
  | 1 => ("OldLight$Desk", "fed", "I", false)
  | 2 => ("OldLight$Desk", "waiting", "I", false)
  | 3 => ("OldLight$Desk", "tape", "[I", true)
  | _ => ("OldLight$Desk", "waits", "[I", true)
def tyX2 : Nat → FieldType := fun k => match k with
  | 0 => .int
  | 1 => .int
  | 2 => .int
  | 3 => .array .int
  | _ => .array .int
abbrev wsX20 : List Cond := u_ws RX2 TX2 5
theorem nmX2 : ∀ a, a < 5 → ∀ b, b < 5 → a ≠ b → (TX2 a).2.1 ≠ (TX2 b).2.1 := by decide +kernel
theorem tyX2_ok : ∀ k, k < 5 → parseFieldDescriptor (TX2 k).2.2.1 = some (tyX2 k) := by decide +kernel
abbrev cX2_init : ByteArray := prog_4_method_1_code
def yX2_init : MethodName := ⟨RX2, "<init>", "()V"⟩
abbrev cX2_copyFrom : ByteArray := prog_4_method_2_code
def yX2_copyFrom : MethodName := ⟨RX2, "copyFrom", "(LOldLight$Desk;)V"⟩
abbrev cX2_nextDraw : ByteArray := prog_4_method_3_code
def yX2_nextDraw : MethodName := ⟨RX2, "nextDraw", "()I"⟩
def RX3 : String := "OldLight$Fleet"
def TX3 : u_T := fun k => match k with
  | 0 => ("OldLight$Fleet", "ships", "I", false)
  | 1 => ("OldLight$Fleet", "hour", "I", false)
  | 2 => ("OldLight$Fleet", "kind", "[I", true)
  | 3 => ("OldLight$Fleet", "m", "[I", true)
  | 4 => ("OldLight$Fleet", "draft", "[I", true)
  | 5 => ("OldLight$Fleet", "at", "[I", true)
  | _ => ("OldLight$Fleet", "lost", "[I", true)
def tyX3 : Nat → FieldType := fun k => match k with
  | 0 => .int
  | 1 => .int
  | 2 => .array .int
  | 3 => .array .int
  | 4 => .array .int
  | 5 => .array .int
  | _ => .array .int
abbrev wsX30 : List Cond := u_ws RX3 TX3 7
theorem nmX3 : ∀ a, a < 7 → ∀ b, b < 7 → a ≠ b → (TX3 a).2.1 ≠ (TX3 b).2.1 := by decide +kernel
theorem tyX3_ok : ∀ k, k < 7 → parseFieldDescriptor (TX3 k).2.2.1 = some (tyX3 k) := by decide +kernel
abbrev cX3_init : ByteArray := prog_5_method_1_code
def yX3_init : MethodName := ⟨RX3, "<init>", "()V"⟩
abbrev cX3_copyFrom : ByteArray := prog_5_method_2_code
def yX3_copyFrom : MethodName := ⟨RX3, "copyFrom", "(LOldLight$Fleet;)V"⟩
abbrev cX3_setAt : ByteArray := prog_5_method_3_code
def yX3_setAt : MethodName := ⟨RX3, "setAt", "(I)I"⟩
abbrev cX3_setLost : ByteArray := prog_5_method_4_code
def yX3_setLost : MethodName := ⟨RX3, "setLost", "()I"⟩
abbrev cX3_setOf : ByteArray := prog_5_method_5_code
def yX3_setOf : MethodName := ⟨RX3, "setOf", "([II)I"⟩
abbrev cX3_countAt : ByteArray := prog_5_method_6_code
def yX3_countAt : MethodName := ⟨RX3, "countAt", "(I)I"⟩
abbrev cX3_countLost : ByteArray := prog_5_method_7_code
def yX3_countLost : MethodName := ⟨RX3, "countLost", "()I"⟩
def RX4 : String := "OldLight$Law"
def TX4 : u_T := fun k => match k with
  | 0 => ("OldLight$Law", "length", "I", false)
  | 1 => ("OldLight$Law", "code", "[I", true)
  | _ => ("OldLight$Law", "stack", "[I", true)
def tyX4 : Nat → FieldType := fun k => match k with
  | 0 => .int
  | 1 => .array .int
  | _ => .array .int
abbrev wsX40 : List Cond := u_ws RX4 TX4 3
theorem nmX4 : ∀ a, a < 3 → ∀ b, b < 3 → a ≠ b → (TX4 a).2.1 ≠ (TX4 b).2.1 := by decide +kernel
theorem tyX4_ok : ∀ k, k < 3 → parseFieldDescriptor (TX4 k).2.2.1 = some (tyX4 k) := by decide +kernel
abbrev cX4_init : ByteArray := prog_6_method_1_code
def yX4_init : MethodName := ⟨RX4, "<init>", "()V"⟩
abbrev cX4_isEmpty : ByteArray := prog_6_method_2_code
def yX4_isEmpty : MethodName := ⟨RX4, "isEmpty", "()Z"⟩
abbrev cX4_copyFrom : ByteArray := prog_6_method_3_code
def yX4_copyFrom : MethodName := ⟨RX4, "copyFrom", "(LOldLight$Law;)V"⟩
abbrev cX4_add : ByteArray := prog_6_method_4_code
def yX4_add : MethodName := ⟨RX4, "add", "(I)V"⟩
abbrev cX4_value : ByteArray := prog_6_method_5_code
def yX4_value : MethodName := ⟨RX4, "value", "(III)I"⟩
abbrev cX4_joined : ByteArray := prog_6_method_6_code
def yX4_joined : MethodName := ⟨RX4, "joined", "(III)I"⟩
def RX5 : String := "OldLight$Reader"
def TX5 : u_T := fun k => match k with
  | 0 => ("OldLight$Reader", "bytes", "[I", true)
  | 1 => ("OldLight$Reader", "length", "I", false)
  | 2 => ("OldLight$Reader", "use", "I", false)
  | 3 => ("OldLight$Reader", "place", "I", false)
  | _ => ("OldLight$Reader", "law", "LOldLight$Law;", true)
def tyX5 : Nat → FieldType := fun k => match k with
  | 0 => .array .int
  | 1 => .int
  | 2 => .int
  | 3 => .int
  | _ => .object "OldLight$Law"
abbrev wsX50 : List Cond := u_ws RX5 TX5 5
theorem nmX5 : ∀ a, a < 5 → ∀ b, b < 5 → a ≠ b → (TX5 a).2.1 ≠ (TX5 b).2.1 := by decide +kernel
theorem tyX5_ok : ∀ k, k < 5 → parseFieldDescriptor (TX5 k).2.2.1 = some (tyX5 k) := by decide +kernel
abbrev cX5_init : ByteArray := prog_7_method_1_code
def yX5_init : MethodName := ⟨RX5, "<init>", "()V"⟩
abbrev cX5_faultOf : ByteArray := prog_7_method_2_code
def yX5_faultOf : MethodName := ⟨RX5, "faultOf", "([III)I"⟩
abbrev cX5_readEither : ByteArray := prog_7_method_3_code
def yX5_readEither : MethodName := ⟨RX5, "readEither", "(I)Z"⟩
abbrev cX5_readBoth : ByteArray := prog_7_method_4_code
def yX5_readBoth : MethodName := ⟨RX5, "readBoth", "(I)Z"⟩
abbrev cX5_readCompared : ByteArray := prog_7_method_5_code
def yX5_readCompared : MethodName := ⟨RX5, "readCompared", "(I)Z"⟩
abbrev cX5_readSum : ByteArray := prog_7_method_6_code
def yX5_readSum : MethodName := ⟨RX5, "readSum", "(I)Z"⟩
abbrev cX5_readProduct : ByteArray := prog_7_method_7_code
def yX5_readProduct : MethodName := ⟨RX5, "readProduct", "(I)Z"⟩
abbrev cX5_readSingle : ByteArray := prog_7_method_8_code
def yX5_readSingle : MethodName := ⟨RX5, "readSingle", "(I)Z"⟩
abbrev cX5_readOpened : ByteArray := prog_7_method_9_code
def yX5_readOpened : MethodName := ⟨RX5, "readOpened", "(II)Z"⟩
abbrev cX5_readNumber : ByteArray := prog_7_method_10_code
def yX5_readNumber : MethodName := ⟨RX5, "readNumber", "()V"⟩
abbrev cX5_readName : ByteArray := prog_7_method_11_code
def yX5_readName : MethodName := ⟨RX5, "readName", "(I)Z"⟩
abbrev cX5_upcoming : ByteArray := prog_7_method_12_code
def yX5_upcoming : MethodName := ⟨RX5, "upcoming", "()I"⟩
abbrev cX5_isDigit : ByteArray := prog_7_method_13_code
def yX5_isDigit : MethodName := ⟨RX5, "isDigit", "(I)Z"⟩
def RX6 : String := "OldLight$Sheet"
def TX6 : u_T := fun k => match k with
  | 0 => ("OldLight$Sheet", "bits", "I", false)
  | 1 => ("OldLight$Sheet", "length", "I", false)
  | _ => ("OldLight$Sheet", "numbers", "[I", true)
def tyX6 : Nat → FieldType := fun k => match k with
  | 0 => .int
  | 1 => .int
  | _ => .array .int
abbrev wsX60 : List Cond := u_ws RX6 TX6 3
theorem nmX6 : ∀ a, a < 3 → ∀ b, b < 3 → a ≠ b → (TX6 a).2.1 ≠ (TX6 b).2.1 := by decide +kernel
theorem tyX6_ok : ∀ k, k < 3 → parseFieldDescriptor (TX6 k).2.2.1 = some (tyX6 k) := by decide +kernel
abbrev cX6_init : ByteArray := prog_8_method_1_code
def yX6_init : MethodName := ⟨RX6, "<init>", "()V"⟩
abbrev cX6_renew : ByteArray := prog_8_method_2_code
def yX6_renew : MethodName := ⟨RX6, "renew", "(II)V"⟩
abbrev cX6_isMissing : ByteArray := prog_8_method_3_code
def yX6_isMissing : MethodName := ⟨RX6, "isMissing", "()Z"⟩
abbrev cX6_lowest : ByteArray := prog_8_method_4_code
def yX6_lowest : MethodName := ⟨RX6, "lowest", "(I)I"⟩
abbrev cX6_holds : ByteArray := prog_8_method_5_code
def yX6_holds : MethodName := ⟨RX6, "holds", "(II)Z"⟩
def RX7 : String := "OldLight$Speaker"
def TX7 : u_T := fun k => match k with
  | 0 => ("OldLight$Speaker", "traced", "I", false)
  | 1 => ("OldLight$Speaker", "bodies", "[I", true)
  | 2 => ("OldLight$Speaker", "kind", "I", false)
  | 3 => ("OldLight$Speaker", "number", "I", false)
  | _ => ("OldLight$Speaker", "m", "I", false)
def tyX7 : Nat → FieldType := fun k => match k with
  | 0 => .int
  | 1 => .array .int
  | 2 => .int
  | 3 => .int
  | _ => .int
abbrev wsX70 : List Cond := u_ws RX7 TX7 5
theorem nmX7 : ∀ a, a < 5 → ∀ b, b < 5 → a ≠ b → (TX7 a).2.1 ≠ (TX7 b).2.1 := by decide +kernel
theorem tyX7_ok : ∀ k, k < 5 → parseFieldDescriptor (TX7 k).2.2.1 = some (tyX7 k) := by decide +kernel
abbrev cX7_init : ByteArray := prog_9_method_1_code
def yX7_init : MethodName := ⟨RX7, "<init>", "()V"⟩
abbrev cX7_speak : ByteArray := prog_9_method_2_code
def yX7_speak : MethodName := ⟨RX7, "speak", "(IIIII)I"⟩
abbrev cX7_own : ByteArray := prog_9_method_3_code
def yX7_own : MethodName := ⟨RX7, "own", "(III)I"⟩
abbrev cX7_above : ByteArray := prog_9_method_4_code
def yX7_above : MethodName := ⟨RX7, "above", "(IIII)I"⟩
abbrev cX7_sayFrom : ByteArray := prog_9_method_5_code
def yX7_sayFrom : MethodName := ⟨RX7, "sayFrom", "(IIII)I"⟩
abbrev cX7_say : ByteArray := prog_9_method_6_code
def yX7_say : MethodName := ⟨RX7, "say", "(III)I"⟩
def RX8 : String := "OldLight"
def TX8 : u_T := fun k => match k with
  | 0 => ("OldLight", "bay", "LOldLight$Bay;", true)
  | 1 => ("OldLight", "fleet", "LOldLight$Fleet;", true)
  | 2 => ("OldLight", "desk", "LOldLight$Desk;", true)
  | 3 => ("OldLight", "keptBay", "LOldLight$Bay;", true)
  | 4 => ("OldLight", "keptFleet", "LOldLight$Fleet;", true)
  | 5 => ("OldLight", "keptDesk", "LOldLight$Desk;", true)
  | 6 => ("OldLight", "images", "I", false)
  | 7 => ("OldLight", "thought", "LOldLight$Fleet;", true)
  | 8 => ("OldLight", "chart", "LOldLight$Chart;", true)
  | 9 => ("OldLight", "reader", "LOldLight$Reader;", true)
  | 10 => ("OldLight", "speaker", "LOldLight$Speaker;", true)
  | 11 => ("OldLight", "sheets", "[LOldLight$Sheet;", true)
  | _ => ("OldLight", "errors", "[I", true)
def tyX8 : Nat → FieldType := fun k => match k with
  | 0 => .object "OldLight$Bay"
  | 1 => .object "OldLight$Fleet"
  | 2 => .object "OldLight$Desk"
  | 3 => .object "OldLight$Bay"
  | 4 => .object "OldLight$Fleet"
  | 5 => .object "OldLight$Desk"
  | 6 => .int
  | 7 => .object "OldLight$Fleet"
  | 8 => .object "OldLight$Chart"
  | 9 => .object "OldLight$Reader"
  | 10 => .object "OldLight$Speaker"
  | 11 => .array (.object "OldLight$Sheet")
  | _ => .array .int
abbrev wsX80 : List Cond := u_ws RX8 TX8 13
theorem nmX8 : ∀ a, a < 13 → ∀ b, b < 13 → a ≠ b → (TX8 a).2.1 ≠ (TX8 b).2.1 := by decide +kernel
theorem tyX8_ok : ∀ k, k < 13 → parseFieldDescriptor (TX8 k).2.2.1 = some (tyX8 k) := by decide +kernel
abbrev cX8_init : ByteArray := prog_1_method_1_code
def yX8_init : MethodName := ⟨RX8, "<init>", "()V"⟩
abbrev cX8_bay : ByteArray := prog_1_method_2_code
def yX8_bay : MethodName := ⟨RX8, "bay", "(I)I"⟩
abbrev cX8_lay : ByteArray := prog_1_method_3_code
def yX8_lay : MethodName := ⟨RX8, "lay", "(III)I"⟩
abbrev cX8_ofCell : ByteArray := prog_1_method_4_code
def yX8_ofCell : MethodName := ⟨RX8, "ofCell", "(II)I"⟩
abbrev cX8_set : ByteArray := prog_1_method_5_code
def yX8_set : MethodName := ⟨RX8, "set", "(II)I"⟩
abbrev cX8_greatestSetting : ByteArray := prog_1_method_6_code
def yX8_greatestSetting : MethodName := ⟨RX8, "greatestSetting", "(I)I"⟩
abbrev cX8_ship : ByteArray := prog_1_method_7_code
def yX8_ship : MethodName := ⟨RX8, "ship", "(III)I"⟩
abbrev cX8_ofShip : ByteArray := prog_1_method_8_code
def yX8_ofShip : MethodName := ⟨RX8, "ofShip", "(II)I"⟩
abbrev cX8_believedNext : ByteArray := prog_1_method_9_code
def yX8_believedNext : MethodName := ⟨RX8, "believedNext", "(I)I"⟩
abbrev cX8_change : ByteArray := prog_1_method_10_code
def yX8_change : MethodName := ⟨RX8, "change", "(III)I"⟩
abbrev cX8_greatestChange : ByteArray := prog_1_method_11_code
def yX8_greatestChange : MethodName := ⟨RX8, "greatestChange", "(I)I"⟩
abbrev cX8_become : ByteArray := prog_1_method_12_code
def yX8_become : MethodName := ⟨RX8, "become", "(II)I"⟩
abbrev cX8_as : ByteArray := prog_1_method_13_code
def yX8_as : MethodName := ⟨RX8, "as", "(II)I"⟩
abbrev cX8_isUnder : ByteArray := prog_1_method_14_code
def yX8_isUnder : MethodName := ⟨RX8, "isUnder", "(II)Z"⟩
abbrev cX8_feed : ByteArray := prog_1_method_15_code
def yX8_feed : MethodName := ⟨RX8, "feed", "(JI)I"⟩
abbrev cX8_text : ByteArray := prog_1_method_16_code
def yX8_text : MethodName := ⟨RX8, "text", "(I)I"⟩
abbrev cX8_law : ByteArray := prog_1_method_17_code
def yX8_law : MethodName := ⟨RX8, "law", "(IIII)I"⟩
abbrev cX8_hours : ByteArray := prog_1_method_18_code
def yX8_hours : MethodName := ⟨RX8, "hours", "(I)I"⟩
abbrev cX8_loose : ByteArray := prog_1_method_19_code
def yX8_loose : MethodName := ⟨RX8, "loose", "(I)I"⟩
abbrev cX8_depth : ByteArray := prog_1_method_20_code
def yX8_depth : MethodName := ⟨RX8, "depth", "(II)I"⟩
abbrev cX8_passHour : ByteArray := prog_1_method_21_code
def yX8_passHour : MethodName := ⟨RX8, "passHour", "(LOldLight$Fleet;)V"⟩
abbrev cX8_sail : ByteArray := prog_1_method_22_code
def yX8_sail : MethodName := ⟨RX8, "sail", "(LOldLight$Fleet;I)V"⟩
abbrev cX8_then : ByteArray := prog_1_method_23_code
def yX8_then : MethodName := ⟨RX8, "then", "(III)I"⟩
abbrev cX8_think : ByteArray := prog_1_method_24_code
def yX8_think : MethodName := ⟨RX8, "think", "(I)V"⟩
abbrev cX8_lost : ByteArray := prog_1_method_25_code
def yX8_lost : MethodName := ⟨RX8, "lost", "(I)I"⟩
abbrev cX8_leastNewlyLost : ByteArray := prog_1_method_26_code
def yX8_leastNewlyLost : MethodName := ⟨RX8, "leastNewlyLost", "()I"⟩
abbrev cX8_setting : ByteArray := prog_1_method_27_code
def yX8_setting : MethodName := ⟨RX8, "setting", "(II)I"⟩
abbrev cX8_leastFalse : ByteArray := prog_1_method_28_code
def yX8_leastFalse : MethodName := ⟨RX8, "leastFalse", "(I)I"⟩
abbrev cX8_which : ByteArray := prog_1_method_29_code
def yX8_which : MethodName := ⟨RX8, "which", "(II)I"⟩
abbrev cX8_isShownAs : ByteArray := prog_1_method_30_code
def yX8_isShownAs : MethodName := ⟨RX8, "isShownAs", "(LOldLight$Sheet;I)Z"⟩
abbrev cX8_struck : ByteArray := prog_1_method_31_code
def yX8_struck : MethodName := ⟨RX8, "struck", "(I)I"⟩
abbrev cX8_dark : ByteArray := prog_1_method_32_code
def yX8_dark : MethodName := ⟨RX8, "dark", "(I)I"⟩
abbrev cX8_deep : ByteArray := prog_1_method_33_code
def yX8_deep : MethodName := ⟨RX8, "deep", "(II)I"⟩
abbrev cX8_draws : ByteArray := prog_1_method_34_code
def yX8_draws : MethodName := ⟨RX8, "draws", "(I)I"⟩
abbrev cX8_traffic : ByteArray := prog_1_method_35_code
def yX8_traffic : MethodName := ⟨RX8, "traffic", "(II)I"⟩
abbrev cX8_odds : ByteArray := prog_1_method_36_code
def yX8_odds : MethodName := ⟨RX8, "odds", "(III)I"⟩
abbrev cX8_greatestDivisor : ByteArray := prog_1_method_37_code
def yX8_greatestDivisor : MethodName := ⟨RX8, "greatestDivisor", "(II)I"⟩
abbrev cX8_seed : ByteArray := prog_1_method_38_code
def yX8_seed : MethodName := ⟨RX8, "seed", "(I)I"⟩
abbrev cX8_voice : ByteArray := prog_1_method_39_code
def yX8_voice : MethodName := ⟨RX8, "voice", "(III)I"⟩
abbrev cX8_trace : ByteArray := prog_1_method_40_code
def yX8_trace : MethodName := ⟨RX8, "trace", "(I)I"⟩
abbrev cX8_sheet : ByteArray := prog_1_method_41_code
def yX8_sheet : MethodName := ⟨RX8, "sheet", "(III)I"⟩
abbrev cX8_put : ByteArray := prog_1_method_42_code
def yX8_put : MethodName := ⟨RX8, "put", "(III)I"⟩
abbrev cX8_move : ByteArray := prog_1_method_43_code
def yX8_move : MethodName := ⟨RX8, "move", "(IIIII)I"⟩
abbrev cX8_beds : ByteArray := prog_1_method_44_code
def yX8_beds : MethodName := ⟨RX8, "beds", "(I)I"⟩
abbrev cX8_judge : ByteArray := prog_1_method_45_code
def yX8_judge : MethodName := ⟨RX8, "judge", "(I)I"⟩
abbrev cX8_image : ByteArray := prog_1_method_46_code
def yX8_image : MethodName := ⟨RX8, "image", "()I"⟩
abbrev cX8_restore : ByteArray := prog_1_method_47_code
def yX8_restore : MethodName := ⟨RX8, "restore", "()I"⟩
abbrev cX8_tell : ByteArray := prog_1_method_48_code
def yX8_tell : MethodName := ⟨RX8, "tell", "(I)I"⟩
abbrev cX8_check : ByteArray := prog_1_method_49_code
def yX8_check : MethodName := ⟨RX8, "check", "()I"⟩
abbrev cX8_count : ByteArray := prog_1_method_50_code
def yX8_count : MethodName := ⟨RX8, "count", "(I)I"⟩
abbrev cX8_told : ByteArray := prog_1_method_51_code
def yX8_told : MethodName := ⟨RX8, "told", "(I)I"⟩
abbrev cX8_refuse : ByteArray := prog_1_method_52_code
def yX8_refuse : MethodName := ⟨RX8, "refuse", "(I)I"⟩
abbrev cX8_within : ByteArray := prog_1_method_53_code
def yX8_within : MethodName := ⟨RX8, "within", "(III)Z"⟩
abbrev cX8_isCell : ByteArray := prog_1_method_54_code
def yX8_isCell : MethodName := ⟨RX8, "isCell", "(I)Z"⟩
abbrev cX8_isShip : ByteArray := prog_1_method_55_code
def yX8_isShip : MethodName := ⟨RX8, "isShip", "(I)Z"⟩
abbrev cX8_isKindAndM : ByteArray := prog_1_method_56_code
def yX8_isKindAndM : MethodName := ⟨RX8, "isKindAndM", "(I)Z"⟩
abbrev cX8_isUse : ByteArray := prog_1_method_57_code
def yX8_isUse : MethodName := ⟨RX8, "isUse", "(I)Z"⟩
abbrev cX8_isSheet : ByteArray := prog_1_method_58_code
def yX8_isSheet : MethodName := ⟨RX8, "isSheet", "(I)Z"⟩
abbrev cX8_has : ByteArray := prog_1_method_59_code
def yX8_has : MethodName := ⟨RX8, "has", "(II)Z"⟩
def RX9 : String := "OldLightModel"
def TX9 : u_T := fun k => match k with
  | 0 => ("OldLightModel", "now", "[I", true)
  | 1 => ("OldLightModel", "kept", "[I", true)
  | 2 => ("OldLightModel", "aside", "[I", true)
  | 3 => ("OldLightModel", "images", "I", false)
  | 4 => ("OldLightModel", "errors", "[I", true)
  | 5 => ("OldLightModel", "depthFound", "[I", true)
  | 6 => ("OldLightModel", "NAMED", "[Ljava/lang/String;", true)
  | 7 => ("OldLightModel", "at", "I", false)
  | 8 => ("OldLightModel", "open", "I", false)
  | 9 => ("OldLightModel", "use", "I", false)
  | 10 => ("OldLightModel", "isWrong", "Z", false)
  | 11 => ("OldLightModel", "code", "[I", true)
  | 12 => ("OldLightModel", "coded", "I", false)
  | 13 => ("OldLightModel", "named", "[I", true)
  | 14 => ("OldLightModel", "pile", "[I", true)
  | 15 => ("OldLightModel", "trace", "[I", true)
  | 16 => ("OldLightModel", "traced", "I", false)
  | 17 => ("OldLightModel", "kind", "I", false)
  | 18 => ("OldLightModel", "number", "I", false)
  | 19 => ("OldLightModel", "told", "I", false)
  | 20 => ("OldLightModel", "widths", "[I", true)
  | 21 => ("OldLightModel", "sizes", "[I", true)
  | 22 => ("OldLightModel", "numbers", "[I", true)
  | _ => ("OldLightModel", "carried", "[I", true)
def tyX9 : Nat → FieldType := fun k => match k with
  | 0 => .array .int
  | 1 => .array .int
  | 2 => .array .int
  | 3 => .int
  | 4 => .array .int
  | 5 => .array .int
  | 6 => .array (.object "java/lang/String")
  | 7 => .int
  | 8 => .int
  | 9 => .int
  | 10 => .boolean
  | 11 => .array .int
  | 12 => .int
  | 13 => .array .int
  | 14 => .array .int
  | 15 => .array .int
  | 16 => .int
  | 17 => .int
  | 18 => .int
  | 19 => .int
  | 20 => .array .int
  | 21 => .array .int
  | 22 => .array .int
  | _ => .array .int
abbrev wsX90 : List Cond := u_ws RX9 TX9 24
theorem nmX9 : ∀ a, a < 24 → ∀ b, b < 24 → a ≠ b → (TX9 a).2.1 ≠ (TX9 b).2.1 := by decide +kernel
theorem tyX9_ok : ∀ k, k < 24 → parseFieldDescriptor (TX9 k).2.2.1 = some (tyX9 k) := by decide +kernel
abbrev cX9_init : ByteArray := prog_11_method_1_code
def yX9_init : MethodName := ⟨RX9, "<init>", "()V"⟩
abbrev cX9_finding : ByteArray := prog_11_method_2_code
def yX9_finding : MethodName := ⟨RX9, "finding", "(I)I"⟩
abbrev cX9_within : ByteArray := prog_11_method_3_code
def yX9_within : MethodName := ⟨RX9, "within", "(III)Z"⟩
abbrev cX9_held : ByteArray := prog_11_method_4_code
def yX9_held : MethodName := ⟨RX9, "held", "(III)I"⟩
abbrev cX9_copy : ByteArray := prog_11_method_5_code
def yX9_copy : MethodName := ⟨RX9, "copy", "([I[I)V"⟩
abbrev cX9_turn : ByteArray := prog_11_method_6_code
def yX9_turn : MethodName := ⟨RX9, "turn", "(II)I"⟩
abbrev cX9_putBack : ByteArray := prog_11_method_7_code
def yX9_putBack : MethodName := ⟨RX9, "putBack", "(I)I"⟩
abbrev cX9_feed : ByteArray := prog_11_method_8_code
def yX9_feed : MethodName := ⟨RX9, "feed", "(JI)I"⟩
abbrev cX9_here : ByteArray := prog_11_method_9_code
def yX9_here : MethodName := ⟨RX9, "here", "()I"⟩
abbrev cX9_takes : ByteArray := prog_11_method_10_code
def yX9_takes : MethodName := ⟨RX9, "takes", "(I)Z"⟩
abbrev cX9_codes : ByteArray := prog_11_method_11_code
def yX9_codes : MethodName := ⟨RX9, "codes", "(I)V"⟩
abbrev cX9_either : ByteArray := prog_11_method_12_code
def yX9_either : MethodName := ⟨RX9, "either", "()V"⟩
abbrev cX9_both : ByteArray := prog_11_method_13_code
def yX9_both : MethodName := ⟨RX9, "both", "()V"⟩
abbrev cX9_compared : ByteArray := prog_11_method_14_code
def yX9_compared : MethodName := ⟨RX9, "compared", "()V"⟩
abbrev cX9_sum : ByteArray := prog_11_method_15_code
def yX9_sum : MethodName := ⟨RX9, "sum", "()V"⟩
abbrev cX9_product : ByteArray := prog_11_method_16_code
def yX9_product : MethodName := ⟨RX9, "product", "()V"⟩
abbrev cX9_nameOf : ByteArray := prog_11_method_17_code
def yX9_nameOf : MethodName := ⟨RX9, "nameOf", "(I)I"⟩
abbrev cX9_one : ByteArray := prog_11_method_18_code
def yX9_one : MethodName := ⟨RX9, "one", "()V"⟩
abbrev cX9_text : ByteArray := prog_11_method_19_code
def yX9_text : MethodName := ⟨RX9, "text", "(I)I"⟩
abbrev cX9_done : ByteArray := prog_11_method_20_code
def yX9_done : MethodName := ⟨RX9, "done", "(III)I"⟩
abbrev cX9_worked : ByteArray := prog_11_method_21_code
def yX9_worked : MethodName := ⟨RX9, "worked", "(I)I"⟩
abbrev cX9_hasText : ByteArray := prog_11_method_22_code
def yX9_hasText : MethodName := ⟨RX9, "hasText", "(I)Z"⟩
abbrev cX9_given : ByteArray := prog_11_method_23_code
def yX9_given : MethodName := ⟨RX9, "given", "(IIII)I"⟩
abbrev cX9_law : ByteArray := prog_11_method_24_code
def yX9_law : MethodName := ⟨RX9, "law", "(IIII)I"⟩
abbrev cX9_hasBit : ByteArray := prog_11_method_25_code
def yX9_hasBit : MethodName := ⟨RX9, "hasBit", "(II)Z"⟩
abbrev cX9_bits : ByteArray := prog_11_method_26_code
def yX9_bits : MethodName := ⟨RX9, "bits", "(I)I"⟩
abbrev cX9_forgetDepths : ByteArray := prog_11_method_27_code
def yX9_forgetDepths : MethodName := ⟨RX9, "forgetDepths", "()V"⟩
abbrev cX9_isCell : ByteArray := prog_11_method_28_code
def yX9_isCell : MethodName := ⟨RX9, "isCell", "(I)Z"⟩
abbrev cX9_isShip : ByteArray := prog_11_method_29_code
def yX9_isShip : MethodName := ⟨RX9, "isShip", "(I)Z"⟩
abbrev cX9_isDigit : ByteArray := prog_11_method_30_code
def yX9_isDigit : MethodName := ⟨RX9, "isDigit", "(I)Z"⟩
abbrev cX9_isYear : ByteArray := prog_11_method_31_code
def yX9_isYear : MethodName := ⟨RX9, "isYear", "(I)Z"⟩
abbrev cX9_cellAt : ByteArray := prog_11_method_32_code
def yX9_cellAt : MethodName := ⟨RX9, "cellAt", "(II)I"⟩
abbrev cX9_cellIs : ByteArray := prog_11_method_33_code
def yX9_cellIs : MethodName := ⟨RX9, "cellIs", "(II)I"⟩
abbrev cX9_shipAt : ByteArray := prog_11_method_34_code
def yX9_shipAt : MethodName := ⟨RX9, "shipAt", "(II)I"⟩
abbrev cX9_shipIs : ByteArray := prog_11_method_35_code
def yX9_shipIs : MethodName := ⟨RX9, "shipIs", "(II)I"⟩
abbrev cX9_flat : ByteArray := prog_11_method_36_code
def yX9_flat : MethodName := ⟨RX9, "flat", "(I)I"⟩
abbrev cX9_bay : ByteArray := prog_11_method_37_code
def yX9_bay : MethodName := ⟨RX9, "bay", "(I)I"⟩
abbrev cX9_lay : ByteArray := prog_11_method_38_code
def yX9_lay : MethodName := ⟨RX9, "lay", "(III)I"⟩
abbrev cX9_depthFor : ByteArray := prog_11_method_39_code
def yX9_depthFor : MethodName := ⟨RX9, "depthFor", "(II)I"⟩
abbrev cX9_depthIn : ByteArray := prog_11_method_40_code
def yX9_depthIn : MethodName := ⟨RX9, "depthIn", "(II)I"⟩
abbrev cX9_trueDepth : ByteArray := prog_11_method_41_code
def yX9_trueDepth : MethodName := ⟨RX9, "trueDepth", "(I)I"⟩
abbrev cX9_shown : ByteArray := prog_11_method_42_code
def yX9_shown : MethodName := ⟨RX9, "shown", "(II)I"⟩
abbrev cX9_shipsAt : ByteArray := prog_11_method_43_code
def yX9_shipsAt : MethodName := ⟨RX9, "shipsAt", "(I)I"⟩
abbrev cX9_ofCell : ByteArray := prog_11_method_44_code
def yX9_ofCell : MethodName := ⟨RX9, "ofCell", "(II)I"⟩
abbrev cX9_set : ByteArray := prog_11_method_45_code
def yX9_set : MethodName := ⟨RX9, "set", "(II)I"⟩
abbrev cX9_depth : ByteArray := prog_11_method_46_code
def yX9_depth : MethodName := ⟨RX9, "depth", "(II)I"⟩
abbrev cX9_isKindM : ByteArray := prog_11_method_47_code
def yX9_isKindM : MethodName := ⟨RX9, "isKindM", "(I)Z"⟩
abbrev cX9_shipComes : ByteArray := prog_11_method_48_code
def yX9_shipComes : MethodName := ⟨RX9, "shipComes", "(III)I"⟩
abbrev cX9_ship : ByteArray := prog_11_method_49_code
def yX9_ship : MethodName := ⟨RX9, "ship", "(III)I"⟩
abbrev cX9_above : ByteArray := prog_11_method_50_code
def yX9_above : MethodName := ⟨RX9, "above", "(I)I"⟩
abbrev cX9_isUnder : ByteArray := prog_11_method_51_code
def yX9_isUnder : MethodName := ⟨RX9, "isUnder", "(II)Z"⟩
abbrev cX9_believes : ByteArray := prog_11_method_52_code
def yX9_believes : MethodName := ⟨RX9, "believes", "(II)I"⟩
abbrev cX9_ofShip : ByteArray := prog_11_method_53_code
def yX9_ofShip : MethodName := ⟨RX9, "ofShip", "(II)I"⟩
abbrev cX9_change : ByteArray := prog_11_method_54_code
def yX9_change : MethodName := ⟨RX9, "change", "(III)I"⟩
abbrev cX9_become : ByteArray := prog_11_method_55_code
def yX9_become : MethodName := ⟨RX9, "become", "(II)I"⟩
abbrev cX9_as : ByteArray := prog_11_method_56_code
def yX9_as : MethodName := ⟨RX9, "as", "(II)I"⟩
abbrev cX9_sails : ByteArray := prog_11_method_57_code
def yX9_sails : MethodName := ⟨RX9, "sails", "(I)V"⟩
abbrev cX9_hour : ByteArray := prog_11_method_58_code
def yX9_hour : MethodName := ⟨RX9, "hour", "()V"⟩
abbrev cX9_hoursGo : ByteArray := prog_11_method_59_code
def yX9_hoursGo : MethodName := ⟨RX9, "hoursGo", "(I)V"⟩
abbrev cX9_manyIn : ByteArray := prog_11_method_60_code
def yX9_manyIn : MethodName := ⟨RX9, "manyIn", "()I"⟩
abbrev cX9_hours : ByteArray := prog_11_method_61_code
def yX9_hours : MethodName := ⟨RX9, "hours", "(I)I"⟩
abbrev cX9_drawn : ByteArray := prog_11_method_62_code
def yX9_drawn : MethodName := ⟨RX9, "drawn", "()I"⟩
abbrev cX9_loose : ByteArray := prog_11_method_63_code
def yX9_loose : MethodName := ⟨RX9, "loose", "(I)I"⟩
abbrev cX9_isBehind : ByteArray := prog_11_method_64_code
def yX9_isBehind : MethodName := ⟨RX9, "isBehind", "(I)Z"⟩
abbrev cX9_then : ByteArray := prog_11_method_65_code
def yX9_then : MethodName := ⟨RX9, "then", "(III)I"⟩
abbrev cX9_lostNow : ByteArray := prog_11_method_66_code
def yX9_lostNow : MethodName := ⟨RX9, "lostNow", "()I"⟩
abbrev cX9_lost : ByteArray := prog_11_method_67_code
def yX9_lost : MethodName := ⟨RX9, "lost", "(I)I"⟩
abbrev cX9_inBehind : ByteArray := prog_11_method_68_code
def yX9_inBehind : MethodName := ⟨RX9, "inBehind", "(I)I"⟩
abbrev cX9_setting : ByteArray := prog_11_method_69_code
def yX9_setting : MethodName := ⟨RX9, "setting", "(II)I"⟩
abbrev cX9_falseBy : ByteArray := prog_11_method_70_code
def yX9_falseBy : MethodName := ⟨RX9, "falseBy", "(I)I"⟩
abbrev cX9_leastFalse : ByteArray := prog_11_method_71_code
def yX9_leastFalse : MethodName := ⟨RX9, "leastFalse", "(I)I"⟩
abbrev cX9_isShownSo : ByteArray := prog_11_method_72_code
def yX9_isShownSo : MethodName := ⟨RX9, "isShownSo", "(II)Z"⟩
abbrev cX9_which : ByteArray := prog_11_method_73_code
def yX9_which : MethodName := ⟨RX9, "which", "(II)I"⟩
abbrev cX9_struck : ByteArray := prog_11_method_74_code
def yX9_struck : MethodName := ⟨RX9, "struck", "(I)I"⟩
abbrev cX9_dark : ByteArray := prog_11_method_75_code
def yX9_dark : MethodName := ⟨RX9, "dark", "(I)I"⟩
abbrev cX9_deep : ByteArray := prog_11_method_76_code
def yX9_deep : MethodName := ⟨RX9, "deep", "(II)I"⟩
abbrev cX9_draws : ByteArray := prog_11_method_77_code
def yX9_draws : MethodName := ⟨RX9, "draws", "(I)I"⟩
abbrev cX9_traffic : ByteArray := prog_11_method_78_code
def yX9_traffic : MethodName := ⟨RX9, "traffic", "(II)I"⟩
abbrev cX9_odds : ByteArray := prog_11_method_79_code
def yX9_odds : MethodName := ⟨RX9, "odds", "(III)I"⟩
abbrev cX9_seed : ByteArray := prog_11_method_80_code
def yX9_seed : MethodName := ⟨RX9, "seed", "(I)I"⟩
abbrev cX9_ran : ByteArray := prog_11_method_81_code
def yX9_ran : MethodName := ⟨RX9, "ran", "(I)V"⟩
abbrev cX9_sailsOf : ByteArray := prog_11_method_82_code
def yX9_sailsOf : MethodName := ⟨RX9, "sailsOf", "(I)I"⟩
abbrev cX9_steersOf : ByteArray := prog_11_method_83_code
def yX9_steersOf : MethodName := ⟨RX9, "steersOf", "(I)I"⟩
abbrev cX9_soundsOf : ByteArray := prog_11_method_84_code
def yX9_soundsOf : MethodName := ⟨RX9, "soundsOf", "(I)I"⟩
abbrev cX9_plainLogs : ByteArray := prog_11_method_85_code
def yX9_plainLogs : MethodName := ⟨RX9, "plainLogs", "(I)I"⟩
abbrev cX9_logsOf : ByteArray := prog_11_method_86_code
def yX9_logsOf : MethodName := ⟨RX9, "logsOf", "(I)I"⟩
abbrev cX9_voice : ByteArray := prog_11_method_87_code
def yX9_voice : MethodName := ⟨RX9, "voice", "(III)I"⟩
abbrev cX9_trace : ByteArray := prog_11_method_88_code
def yX9_trace : MethodName := ⟨RX9, "trace", "(I)I"⟩
abbrev cX9_isSheet : ByteArray := prog_11_method_89_code
def yX9_isSheet : MethodName := ⟨RX9, "isSheet", "(I)Z"⟩
abbrev cX9_sheet : ByteArray := prog_11_method_90_code
def yX9_sheet : MethodName := ⟨RX9, "sheet", "(III)I"⟩
abbrev cX9_put : ByteArray := prog_11_method_91_code
def yX9_put : MethodName := ⟨RX9, "put", "(III)I"⟩
abbrev cX9_move : ByteArray := prog_11_method_92_code
def yX9_move : MethodName := ⟨RX9, "move", "(IIIII)I"⟩
abbrev cX9_beds : ByteArray := prog_11_method_93_code
def yX9_beds : MethodName := ⟨RX9, "beds", "(I)I"⟩
abbrev cX9_judge : ByteArray := prog_11_method_94_code
def yX9_judge : MethodName := ⟨RX9, "judge", "(I)I"⟩
abbrev cX9_image : ByteArray := prog_11_method_95_code
def yX9_image : MethodName := ⟨RX9, "image", "()I"⟩
abbrev cX9_restore : ByteArray := prog_11_method_96_code
def yX9_restore : MethodName := ⟨RX9, "restore", "()I"⟩
abbrev cX9_tell : ByteArray := prog_11_method_97_code
def yX9_tell : MethodName := ⟨RX9, "tell", "(I)I"⟩
abbrev cX9_check : ByteArray := prog_11_method_98_code
def yX9_check : MethodName := ⟨RX9, "check", "()I"⟩
abbrev cX9_count : ByteArray := prog_11_method_99_code
def yX9_count : MethodName := ⟨RX9, "count", "(I)I"⟩
abbrev cX9_told : ByteArray := prog_11_method_100_code
def yX9_told : MethodName := ⟨RX9, "told", "(I)I"⟩
def RJ6 : String := "java/lang/Integer"
def TJ6 : u_T := fun k => match k with
  | _ => ("", "", "", false)
def tyJ6 : Nat → FieldType := fun k => match k with
  | _ => .int
abbrev wsJ60 : List Cond := u_ws RJ6 TJ6 0
theorem nmJ6 : ∀ a, a < 0 → ∀ b, b < 0 → a ≠ b → (TJ6 a).2.1 ≠ (TJ6 b).2.1 := by decide +kernel
theorem tyJ6_ok : ∀ k, k < 0 → parseFieldDescriptor (TJ6 k).2.2.1 = some (tyJ6 k) := by decide +kernel
abbrev cJ6_bitCount_0f7a4 : ByteArray := prog_12_method_49_code
def yJ6_bitCount_0f7a4 : MethodName := ⟨RJ6, "bitCount", "(I)I"⟩
def RJ9 : String := "java/lang/Math"
def TJ9 : u_T := fun k => match k with
  | _ => ("", "", "", false)
def tyJ9 : Nat → FieldType := fun k => match k with
  | _ => .int
abbrev wsJ90 : List Cond := u_ws RJ9 TJ9 0
theorem nmJ9 : ∀ a, a < 0 → ∀ b, b < 0 → a ≠ b → (TJ9 a).2.1 ≠ (TJ9 b).2.1 := by decide +kernel
theorem tyJ9_ok : ∀ k, k < 0 → parseFieldDescriptor (TJ9 k).2.2.1 = some (tyJ9 k) := by decide +kernel
abbrev cJ9_max_7cf53 : ByteArray := prog_13_method_65_code
def yJ9_max_7cf53 : MethodName := ⟨RJ9, "max", "(II)I"⟩
abbrev cJ9_min_7cf53 : ByteArray := prog_13_method_69_code
def yJ9_min_7cf53 : MethodName := ⟨RJ9, "min", "(II)I"⟩
def RJ0 : String := "java/lang/String"
def TJ0 : u_T := fun k => match k with
  | _ => ("", "", "", false)
def tyJ0 : Nat → FieldType := fun k => match k with
  | _ => .int
abbrev wsJ00 : List Cond := u_ws RJ0 TJ0 0
theorem nmJ0 : ∀ a, a < 0 → ∀ b, b < 0 → a ≠ b → (TJ0 a).2.1 ≠ (TJ0 b).2.1 := by decide +kernel
theorem tyJ0_ok : ∀ k, k < 0 → parseFieldDescriptor (TJ0 k).2.2.1 = some (tyJ0 k) := by decide +kernel
abbrev cJ0_length_8abf5 : ByteArray := prog_14_method_54_code
def yJ0_length_8abf5 : MethodName := ⟨RJ0, "length", "()I"⟩
abbrev cJ0_charAt_5068e : ByteArray := prog_14_method_56_code
def yJ0_charAt_5068e : MethodName := ⟨RJ0, "charAt", "(I)C"⟩
abbrev cJ0_coder_7d493 : ByteArray := prog_14_method_152_code
def yJ0_coder_7d493 : MethodName := ⟨RJ0, "coder", "()B"⟩
abbrev cJ0_isLatin1_aae02 : ByteArray := prog_14_method_154_code
def yJ0_isLatin1_aae02 : MethodName := ⟨RJ0, "isLatin1", "()Z"⟩
abbrev cJ0_checkIndex_df160 : ByteArray := prog_14_method_155_code
def yJ0_checkIndex_df160 : MethodName := ⟨RJ0, "checkIndex", "(II)V"⟩
def RJ1 : String := "java/lang/StringLatin1"
def TJ1 : u_T := fun k => match k with
  | _ => ("", "", "", false)
def tyJ1 : Nat → FieldType := fun k => match k with
  | _ => .int
abbrev wsJ10 : List Cond := u_ws RJ1 TJ1 0
theorem nmJ1 : ∀ a, a < 0 → ∀ b, b < 0 → a ≠ b → (TJ1 a).2.1 ≠ (TJ1 b).2.1 := by decide +kernel
theorem tyJ1_ok : ∀ k, k < 0 → parseFieldDescriptor (TJ1 k).2.2.1 = some (tyJ1 k) := by decide +kernel
abbrev cJ1_charAt_3b067 : ByteArray := prog_15_method_2_code
def yJ1_charAt_3b067 : MethodName := ⟨RJ1, "charAt", "([BI)C"⟩
def RJ2 : String := "java/lang/StringUTF16"
def TJ2 : u_T := fun k => match k with
  | _ => ("", "", "", false)
def tyJ2 : Nat → FieldType := fun k => match k with
  | _ => .int
abbrev wsJ20 : List Cond := u_ws RJ2 TJ2 0
theorem nmJ2 : ∀ a, a < 0 → ∀ b, b < 0 → a ≠ b → (TJ2 a).2.1 ≠ (TJ2 b).2.1 := by decide +kernel
theorem tyJ2_ok : ∀ k, k < 0 → parseFieldDescriptor (TJ2 k).2.2.1 = some (tyJ2 k) := by decide +kernel
abbrev cJ2_getChar_3b067 : ByteArray := prog_16_method_5_code
def yJ2_getChar_3b067 : MethodName := ⟨RJ2, "getChar", "([BI)C"⟩
abbrev cJ2_length_9d52b : ByteArray := prog_16_method_6_code
def yJ2_length_9d52b : MethodName := ⟨RJ2, "length", "([B)I"⟩
abbrev cJ2_charAt_3b067 : ByteArray := prog_16_method_83_code
def yJ2_charAt_3b067 : MethodName := ⟨RJ2, "charAt", "([BI)C"⟩
abbrev cJ2_checkIndex_2214a : ByteArray := prog_16_method_91_code
def yJ2_checkIndex_2214a : MethodName := ⟨RJ2, "checkIndex", "(I[B)V"⟩
def RJ10 : String := "java/lang/System"
def TJ10 : u_T := fun k => match k with
  | _ => ("", "", "", false)
def tyJ10 : Nat → FieldType := fun k => match k with
  | _ => .int
abbrev wsJ100 : List Cond := u_ws RJ10 TJ10 0
theorem nmJ10 : ∀ a, a < 0 → ∀ b, b < 0 → a ≠ b → (TJ10 a).2.1 ≠ (TJ10 b).2.1 := by decide +kernel
theorem tyJ10_ok : ∀ k, k < 0 → parseFieldDescriptor (TJ10 k).2.2.1 = some (tyJ10 k) := by decide +kernel
def RJ3 : String := "jdk/internal/util/Preconditions"
def TJ3 : u_T := fun k => match k with
  | _ => ("", "", "", false)
def tyJ3 : Nat → FieldType := fun k => match k with
  | _ => .int
abbrev wsJ30 : List Cond := u_ws RJ3 TJ3 0
theorem nmJ3 : ∀ a, a < 0 → ∀ b, b < 0 → a ≠ b → (TJ3 a).2.1 ≠ (TJ3 b).2.1 := by decide +kernel
theorem tyJ3_ok : ∀ k, k < 0 → parseFieldDescriptor (TJ3 k).2.2.1 = some (tyJ3 k) := by decide +kernel
abbrev cJ3_checkIndex_8e157 : ByteArray := prog_18_method_11_code
def yJ3_checkIndex_8e157 : MethodName := ⟨RJ3, "checkIndex", "(IILjava/util/function/BiFunction;)I"⟩
def RL : String := "OldLightLaw"
abbrev cL_law : ByteArray := code
def yL_law : MethodName := ⟨RL, "law", "([I)Z"⟩
abbrev vwCl : List vw_C := [(RX0, TX0, 9), (RX1, TX1, 5), (RX2, TX2, 5), (RX3, TX3, 7), (RX4, TX4, 3), (RX5, TX5, 5), (RX6, TX6, 3), (RX7, TX7, 5), (RX8, TX8, 13), (RX9, TX9, 24)]
end
section
theorem dX0_init_0 : decode cX0_init 0 = .ok (.aload_n 0, 1) := by decide +kernel
theorem dX0_init_1 : decode cX0_init 1 = .ok (.invokespecial 3, 3) := by decide +kernel
theorem dX0_init_4 : decode cX0_init 4 = .ok (.aload_n 0, 1) := by decide +kernel
theorem dX0_init_5 : decode cX0_init 5 = .ok (.iconst 0, 1) := by decide +kernel
theorem dX0_init_6 : decode cX0_init 6 = .ok (.putfield 9, 3) := by decide +kernel
theorem dX0_init_9 : decode cX0_init 9 = .ok (.aload_n 0, 1) := by decide +kernel
theorem dX0_init_10 : decode cX0_init 10 = .ok (.sipush 200, 3) := by decide +kernel
theorem dX0_init_13 : decode cX0_init 13 = .ok (.putfield 15, 3) := by decide +kernel
theorem dX0_init_16 : decode cX0_init 16 = .ok (.aload_n 0, 1) := by decide +kernel
theorem dX0_init_17 : decode cX0_init 17 = .ok (.iconst 0, 1) := by decide +kernel
theorem dX0_init_18 : decode cX0_init 18 = .ok (.putfield 18, 3) := by decide +kernel
theorem dX0_init_21 : decode cX0_init 21 = .ok (.aload_n 0, 1) := by decide +kernel
theorem dX0_init_22 : decode cX0_init 22 = .ok (.iconst 0, 1) := by decide +kernel
theorem dX0_init_23 : decode cX0_init 23 = .ok (.putfield 21, 3) := by decide +kernel
theorem dX0_init_26 : decode cX0_init 26 = .ok (.aload_n 0, 1) := by decide +kernel
theorem dX0_init_27 : decode cX0_init 27 = .ok (.bipush 8, 2) := by decide +kernel
theorem dX0_init_29 : decode cX0_init 29 = .ok (.newarray .int, 2) := by decide +kernel
theorem dX0_init_31 : decode cX0_init 31 = .ok (.putfield 24, 3) := by decide +kernel
theorem dX0_init_34 : decode cX0_init 34 = .ok (.aload_n 0, 1) := by decide +kernel
theorem dX0_init_35 : decode cX0_init 35 = .ok (.bipush 8, 2) := by decide +kernel
theorem dX0_init_37 : decode cX0_init 37 = .ok (.newarray .int, 2) := by decide +kernel
theorem dX0_init_39 : decode cX0_init 39 = .ok (.putfield 28, 3) := by decide +kernel
theorem dX0_init_42 : decode cX0_init 42 = .ok (.aload_n 0, 1) := by decide +kernel
theorem dX0_init_43 : decode cX0_init 43 = .ok (.bipush 8, 2) := by decide +kernel
theorem dX0_init_45 : decode cX0_init 45 = .ok (.newarray .int, 2) := by decide +kernel
theorem dX0_init_47 : decode cX0_init 47 = .ok (.putfield 31, 3) := by decide +kernel
theorem dX0_init_50 : decode cX0_init 50 = .ok (.aload_n 0, 1) := by decide +kernel
theorem dX0_init_51 : decode cX0_init 51 = .ok (.new 34, 3) := by decide +kernel
theorem dX0_init_54 : decode cX0_init 54 = .ok (.dup, 1) := by decide +kernel
theorem dX0_init_55 : decode cX0_init 55 = .ok (.invokespecial 36, 3) := by decide +kernel
theorem dX0_init_58 : decode cX0_init 58 = .ok (.putfield 37, 3) := by decide +kernel
theorem dX0_init_61 : decode cX0_init 61 = .ok (.aload_n 0, 1) := by decide +kernel
theorem dX0_init_62 : decode cX0_init 62 = .ok (.new 34, 3) := by decide +kernel
theorem dX0_init_65 : decode cX0_init 65 = .ok (.dup, 1) := by decide +kernel
theorem dX0_init_66 : decode cX0_init 66 = .ok (.invokespecial 36, 3) := by decide +kernel
theorem dX0_init_69 : decode cX0_init 69 = .ok (.putfield 41, 3) := by decide +kernel
theorem dX0_init_72 : decode cX0_init 72 = .ok (.return_, 1) := by decide +kernel
theorem dX0_renew_0 : decode cX0_renew 0 = .ok (.aload_n 0, 1) := by decide +kernel
theorem dX0_renew_1 : decode cX0_renew 1 = .ok (.iload_n 1, 1) := by decide +kernel
theorem dX0_renew_2 : decode cX0_renew 2 = .ok (.putfield 9, 3) := by decide +kernel
theorem dX0_renew_5 : decode cX0_renew 5 = .ok (.aload_n 0, 1) := by decide +kernel
theorem dX0_renew_6 : decode cX0_renew 6 = .ok (.iconst 0, 1) := by decide +kernel
theorem dX0_renew_7 : decode cX0_renew 7 = .ok (.putfield 21, 3) := by decide +kernel
theorem dX0_renew_10 : decode cX0_renew 10 = .ok (.iconst 0, 1) := by decide +kernel
theorem dX0_renew_11 : decode cX0_renew 11 = .ok (.istore_n 2, 1) := by decide +kernel
theorem dX0_renew_12 : decode cX0_renew 12 = .ok (.iload_n 2, 1) := by decide +kernel
theorem dX0_renew_13 : decode cX0_renew 13 = .ok (.bipush 8, 2) := by decide +kernel
theorem dX0_renew_15 : decode cX0_renew 15 = .ok (.if_icmp .ge 30, 3) := by decide +kernel
theorem dX0_renew_18 : decode cX0_renew 18 = .ok (.aload_n 0, 1) := by decide +kernel
theorem dX0_renew_19 : decode cX0_renew 19 = .ok (.getfield 24, 3) := by decide +kernel
theorem dX0_renew_22 : decode cX0_renew 22 = .ok (.iload_n 2, 1) := by decide +kernel
theorem dX0_renew_23 : decode cX0_renew 23 = .ok (.iconst 5, 1) := by decide +kernel
theorem dX0_renew_24 : decode cX0_renew 24 = .ok (.iastore, 1) := by decide +kernel
theorem dX0_renew_25 : decode cX0_renew 25 = .ok (.aload_n 0, 1) := by decide +kernel
theorem dX0_renew_26 : decode cX0_renew 26 = .ok (.getfield 28, 3) := by decide +kernel
theorem dX0_renew_29 : decode cX0_renew 29 = .ok (.iload_n 2, 1) := by decide +kernel
theorem dX0_renew_30 : decode cX0_renew 30 = .ok (.iconst 1, 1) := by decide +kernel
theorem dX0_renew_31 : decode cX0_renew 31 = .ok (.iastore, 1) := by decide +kernel
theorem dX0_renew_32 : decode cX0_renew 32 = .ok (.aload_n 0, 1) := by decide +kernel
theorem dX0_renew_33 : decode cX0_renew 33 = .ok (.getfield 31, 3) := by decide +kernel
theorem dX0_renew_36 : decode cX0_renew 36 = .ok (.iload_n 2, 1) := by decide +kernel
theorem dX0_renew_37 : decode cX0_renew 37 = .ok (.iconst 0, 1) := by decide +kernel
theorem dX0_renew_38 : decode cX0_renew 38 = .ok (.iastore, 1) := by decide +kernel
theorem dX0_renew_39 : decode cX0_renew 39 = .ok (.iinc 2 1, 3) := by decide +kernel
theorem dX0_renew_42 : decode cX0_renew 42 = .ok (.goto (-30), 3) := by decide +kernel
theorem dX0_renew_45 : decode cX0_renew 45 = .ok (.return_, 1) := by decide +kernel
theorem dX0_copyFrom_0 : decode cX0_copyFrom 0 = .ok (.aload_n 0, 1) := by decide +kernel
theorem dX0_copyFrom_1 : decode cX0_copyFrom 1 = .ok (.aload_n 1, 1) := by decide +kernel
theorem dX0_copyFrom_2 : decode cX0_copyFrom 2 = .ok (.getfield 9, 3) := by decide +kernel
theorem dX0_copyFrom_5 : decode cX0_copyFrom 5 = .ok (.putfield 9, 3) := by decide +kernel
theorem dX0_copyFrom_8 : decode cX0_copyFrom 8 = .ok (.aload_n 0, 1) := by decide +kernel
theorem dX0_copyFrom_9 : decode cX0_copyFrom 9 = .ok (.aload_n 1, 1) := by decide +kernel
theorem dX0_copyFrom_10 : decode cX0_copyFrom 10 = .ok (.getfield 15, 3) := by decide +kernel
theorem dX0_copyFrom_13 : decode cX0_copyFrom 13 = .ok (.putfield 15, 3) := by decide +kernel
theorem dX0_copyFrom_16 : decode cX0_copyFrom 16 = .ok (.aload_n 0, 1) := by decide +kernel
theorem dX0_copyFrom_17 : decode cX0_copyFrom 17 = .ok (.aload_n 1, 1) := by decide +kernel
theorem dX0_copyFrom_18 : decode cX0_copyFrom 18 = .ok (.getfield 18, 3) := by decide +kernel
theorem dX0_copyFrom_21 : decode cX0_copyFrom 21 = .ok (.putfield 18, 3) := by decide +kernel
theorem dX0_copyFrom_24 : decode cX0_copyFrom 24 = .ok (.aload_n 0, 1) := by decide +kernel
theorem dX0_copyFrom_25 : decode cX0_copyFrom 25 = .ok (.aload_n 1, 1) := by decide +kernel
theorem dX0_copyFrom_26 : decode cX0_copyFrom 26 = .ok (.getfield 21, 3) := by decide +kernel
theorem dX0_copyFrom_29 : decode cX0_copyFrom 29 = .ok (.putfield 21, 3) := by decide +kernel
theorem dX0_copyFrom_32 : decode cX0_copyFrom 32 = .ok (.aload_n 1, 1) := by decide +kernel
theorem dX0_copyFrom_33 : decode cX0_copyFrom 33 = .ok (.getfield 24, 3) := by decide +kernel
theorem dX0_copyFrom_36 : decode cX0_copyFrom 36 = .ok (.iconst 0, 1) := by decide +kernel
theorem dX0_copyFrom_37 : decode cX0_copyFrom 37 = .ok (.aload_n 0, 1) := by decide +kernel
theorem dX0_copyFrom_38 : decode cX0_copyFrom 38 = .ok (.getfield 24, 3) := by decide +kernel
theorem dX0_copyFrom_41 : decode cX0_copyFrom 41 = .ok (.iconst 0, 1) := by decide +kernel
theorem dX0_copyFrom_42 : decode cX0_copyFrom 42 = .ok (.bipush 8, 2) := by decide +kernel
theorem dX0_copyFrom_44 : decode cX0_copyFrom 44 = .ok (.invokestatic 44, 3) := by decide +kernel
theorem dX0_copyFrom_47 : decode cX0_copyFrom 47 = .ok (.aload_n 1, 1) := by decide +kernel
theorem dX0_copyFrom_48 : decode cX0_copyFrom 48 = .ok (.getfield 28, 3) := by decide +kernel
theorem dX0_copyFrom_51 : decode cX0_copyFrom 51 = .ok (.iconst 0, 1) := by decide +kernel
theorem dX0_copyFrom_52 : decode cX0_copyFrom 52 = .ok (.aload_n 0, 1) := by decide +kernel
theorem dX0_copyFrom_53 : decode cX0_copyFrom 53 = .ok (.getfield 28, 3) := by decide +kernel
theorem dX0_copyFrom_56 : decode cX0_copyFrom 56 = .ok (.iconst 0, 1) := by decide +kernel
theorem dX0_copyFrom_57 : decode cX0_copyFrom 57 = .ok (.bipush 8, 2) := by decide +kernel
theorem dX0_copyFrom_59 : decode cX0_copyFrom 59 = .ok (.invokestatic 44, 3) := by decide +kernel
theorem dX0_copyFrom_62 : decode cX0_copyFrom 62 = .ok (.aload_n 1, 1) := by decide +kernel
theorem dX0_copyFrom_63 : decode cX0_copyFrom 63 = .ok (.getfield 31, 3) := by decide +kernel
theorem dX0_copyFrom_66 : decode cX0_copyFrom 66 = .ok (.iconst 0, 1) := by decide +kernel
theorem dX0_copyFrom_67 : decode cX0_copyFrom 67 = .ok (.aload_n 0, 1) := by decide +kernel
theorem dX0_copyFrom_68 : decode cX0_copyFrom 68 = .ok (.getfield 31, 3) := by decide +kernel
theorem dX0_copyFrom_71 : decode cX0_copyFrom 71 = .ok (.iconst 0, 1) := by decide +kernel
theorem dX0_copyFrom_72 : decode cX0_copyFrom 72 = .ok (.bipush 8, 2) := by decide +kernel
theorem dX0_copyFrom_74 : decode cX0_copyFrom 74 = .ok (.invokestatic 44, 3) := by decide +kernel
theorem dX0_copyFrom_77 : decode cX0_copyFrom 77 = .ok (.aload_n 0, 1) := by decide +kernel
theorem dX0_copyFrom_78 : decode cX0_copyFrom 78 = .ok (.getfield 37, 3) := by decide +kernel
theorem dX0_copyFrom_81 : decode cX0_copyFrom 81 = .ok (.aload_n 1, 1) := by decide +kernel
theorem dX0_copyFrom_82 : decode cX0_copyFrom 82 = .ok (.getfield 37, 3) := by decide +kernel
theorem dX0_copyFrom_85 : decode cX0_copyFrom 85 = .ok (.invokevirtual 50, 3) := by decide +kernel
theorem dX0_copyFrom_88 : decode cX0_copyFrom 88 = .ok (.aload_n 0, 1) := by decide +kernel
theorem dX0_copyFrom_89 : decode cX0_copyFrom 89 = .ok (.getfield 41, 3) := by decide +kernel
theorem dX0_copyFrom_92 : decode cX0_copyFrom 92 = .ok (.aload_n 1, 1) := by decide +kernel
theorem dX0_copyFrom_93 : decode cX0_copyFrom 93 = .ok (.getfield 41, 3) := by decide +kernel
theorem dX0_copyFrom_96 : decode cX0_copyFrom 96 = .ok (.invokevirtual 50, 3) := by decide +kernel
theorem dX0_copyFrom_99 : decode cX0_copyFrom 99 = .ok (.return_, 1) := by decide +kernel
theorem dX0_lawOf_0 : decode cX0_lawOf 0 = .ok (.iload_n 1, 1) := by decide +kernel
theorem dX0_lawOf_1 : decode cX0_lawOf 1 = .ok (.ifCond .ne 10, 3) := by decide +kernel
theorem dX0_lawOf_4 : decode cX0_lawOf 4 = .ok (.aload_n 0, 1) := by decide +kernel
theorem dX0_lawOf_5 : decode cX0_lawOf 5 = .ok (.getfield 37, 3) := by decide +kernel
theorem dX0_lawOf_8 : decode cX0_lawOf 8 = .ok (.goto 7, 3) := by decide +kernel
theorem dX0_lawOf_11 : decode cX0_lawOf 11 = .ok (.aload_n 0, 1) := by decide +kernel
theorem dX0_lawOf_12 : decode cX0_lawOf 12 = .ok (.getfield 41, 3) := by decide +kernel
theorem dX0_lawOf_15 : decode cX0_lawOf 15 = .ok (.areturn, 1) := by decide +kernel
theorem dX0_give_0 : decode cX0_give 0 = .ok (.aload_n 0, 1) := by decide +kernel
theorem dX0_give_1 : decode cX0_give 1 = .ok (.iload_n 1, 1) := by decide +kernel
theorem dX0_give_2 : decode cX0_give 2 = .ok (.invokevirtual 54, 3) := by decide +kernel
theorem dX0_give_5 : decode cX0_give 5 = .ok (.astore 5, 2) := by decide +kernel
theorem dX0_give_7 : decode cX0_give 7 = .ok (.iload_n 1, 1) := by decide +kernel
theorem dX0_give_8 : decode cX0_give 8 = .ok (.ifCond .ne 8, 3) := by decide +kernel
theorem dX0_give_11 : decode cX0_give 11 = .ok (.iload 4, 2) := by decide +kernel
theorem dX0_give_13 : decode cX0_give 13 = .ok (.goto 4, 3) := by decide +kernel
theorem dX0_give_16 : decode cX0_give 16 = .ok (.iconst 0, 1) := by decide +kernel
theorem dX0_give_17 : decode cX0_give 17 = .ok (.istore 6, 2) := by decide +kernel
theorem dX0_give_19 : decode cX0_give 19 = .ok (.aload 5, 2) := by decide +kernel
theorem dX0_give_21 : decode cX0_give 21 = .ok (.invokevirtual 58, 3) := by decide +kernel
theorem dX0_give_24 : decode cX0_give 24 = .ok (.ifCond .eq 8, 3) := by decide +kernel
theorem dX0_give_27 : decode cX0_give 27 = .ok (.iload 6, 2) := by decide +kernel
theorem dX0_give_29 : decode cX0_give 29 = .ok (.goto 12, 3) := by decide +kernel
theorem dX0_give_32 : decode cX0_give 32 = .ok (.aload 5, 2) := by decide +kernel
theorem dX0_give_34 : decode cX0_give 34 = .ok (.iload_n 2, 1) := by decide +kernel
theorem dX0_give_35 : decode cX0_give 35 = .ok (.iload_n 3, 1) := by decide +kernel
theorem dX0_give_36 : decode cX0_give 36 = .ok (.iload 4, 2) := by decide +kernel
theorem dX0_give_38 : decode cX0_give 38 = .ok (.invokevirtual 62, 3) := by decide +kernel
theorem dX0_give_41 : decode cX0_give 41 = .ok (.istore 7, 2) := by decide +kernel
theorem dX0_give_43 : decode cX0_give 43 = .ok (.iconst 0, 1) := by decide +kernel
theorem dX0_give_44 : decode cX0_give 44 = .ok (.iload 7, 2) := by decide +kernel
theorem dX0_give_46 : decode cX0_give 46 = .ok (.iload_n 1, 1) := by decide +kernel
theorem dX0_give_47 : decode cX0_give 47 = .ok (.ifCond .ne 8, 3) := by decide +kernel
theorem dX0_give_50 : decode cX0_give 50 = .ok (.bipush 19, 2) := by decide +kernel
theorem dX0_give_52 : decode cX0_give 52 = .ok (.goto 4, 3) := by decide +kernel
theorem dX0_give_55 : decode cX0_give 55 = .ok (.iconst 1, 1) := by decide +kernel
theorem dX0_give_56 : decode cX0_give 56 = .ok (.invokestatic 66, 3) := by decide +kernel
theorem dX0_give_59 : decode cX0_give 59 = .ok (.invokestatic 72, 3) := by decide +kernel
theorem dX0_give_62 : decode cX0_give 62 = .ok (.ireturn, 1) := by decide +kernel
theorem dX0_depthIn_0 : decode cX0_depthIn 0 = .ok (.iconst 0, 1) := by decide +kernel
theorem dX0_depthIn_1 : decode cX0_depthIn 1 = .ok (.iload_n 2, 1) := by decide +kernel
theorem dX0_depthIn_2 : decode cX0_depthIn 2 = .ok (.invokestatic 72, 3) := by decide +kernel
theorem dX0_depthIn_5 : decode cX0_depthIn 5 = .ok (.istore_n 3, 1) := by decide +kernel
theorem dX0_depthIn_6 : decode cX0_depthIn 6 = .ok (.aload_n 0, 1) := by decide +kernel
theorem dX0_depthIn_7 : decode cX0_depthIn 7 = .ok (.getfield 28, 3) := by decide +kernel
theorem dX0_depthIn_10 : decode cX0_depthIn 10 = .ok (.iload_n 1, 1) := by decide +kernel
theorem dX0_depthIn_11 : decode cX0_depthIn 11 = .ok (.iaload, 1) := by decide +kernel
theorem dX0_depthIn_12 : decode cX0_depthIn 12 = .ok (.iload_n 3, 1) := by decide +kernel
theorem dX0_depthIn_13 : decode cX0_depthIn 13 = .ok (.if_icmp .gt 17, 3) := by decide +kernel
theorem dX0_depthIn_16 : decode cX0_depthIn 16 = .ok (.iload_n 3, 1) := by decide +kernel
theorem dX0_depthIn_17 : decode cX0_depthIn 17 = .ok (.aload_n 0, 1) := by decide +kernel
theorem dX0_depthIn_18 : decode cX0_depthIn 18 = .ok (.getfield 31, 3) := by decide +kernel
theorem dX0_depthIn_21 : decode cX0_depthIn 21 = .ok (.iload_n 1, 1) := by decide +kernel
theorem dX0_depthIn_22 : decode cX0_depthIn 22 = .ok (.iaload, 1) := by decide +kernel
theorem dX0_depthIn_23 : decode cX0_depthIn 23 = .ok (.if_icmp .gt 7, 3) := by decide +kernel
theorem dX0_depthIn_26 : decode cX0_depthIn 26 = .ok (.iconst 1, 1) := by decide +kernel
theorem dX0_depthIn_27 : decode cX0_depthIn 27 = .ok (.goto 4, 3) := by decide +kernel
theorem dX0_depthIn_30 : decode cX0_depthIn 30 = .ok (.iconst 0, 1) := by decide +kernel
theorem dX0_depthIn_31 : decode cX0_depthIn 31 = .ok (.istore 4, 2) := by decide +kernel
theorem dX0_depthIn_33 : decode cX0_depthIn 33 = .ok (.iload 4, 2) := by decide +kernel
theorem dX0_depthIn_35 : decode cX0_depthIn 35 = .ok (.ifCond .eq 7, 3) := by decide +kernel
theorem dX0_depthIn_38 : decode cX0_depthIn 38 = .ok (.iconst 0, 1) := by decide +kernel
theorem dX0_depthIn_39 : decode cX0_depthIn 39 = .ok (.goto 16, 3) := by decide +kernel
theorem dX0_depthIn_42 : decode cX0_depthIn 42 = .ok (.aload_n 0, 1) := by decide +kernel
theorem dX0_depthIn_43 : decode cX0_depthIn 43 = .ok (.iconst 0, 1) := by decide +kernel
theorem dX0_depthIn_44 : decode cX0_depthIn 44 = .ok (.iload_n 1, 1) := by decide +kernel
theorem dX0_depthIn_45 : decode cX0_depthIn 45 = .ok (.iload_n 3, 1) := by decide +kernel
theorem dX0_depthIn_46 : decode cX0_depthIn 46 = .ok (.aload_n 0, 1) := by decide +kernel
theorem dX0_depthIn_47 : decode cX0_depthIn 47 = .ok (.getfield 24, 3) := by decide +kernel
theorem dX0_depthIn_50 : decode cX0_depthIn 50 = .ok (.iload_n 1, 1) := by decide +kernel
theorem dX0_depthIn_51 : decode cX0_depthIn 51 = .ok (.iaload, 1) := by decide +kernel
theorem dX0_depthIn_52 : decode cX0_depthIn 52 = .ok (.invokevirtual 75, 3) := by decide +kernel
theorem dX0_depthIn_55 : decode cX0_depthIn 55 = .ok (.ireturn, 1) := by decide +kernel
theorem dX0_shownBy_0 : decode cX0_shownBy 0 = .ok (.aload_n 0, 1) := by decide +kernel
theorem dX0_shownBy_1 : decode cX0_shownBy 1 = .ok (.iload_n 2, 1) := by decide +kernel
theorem dX0_shownBy_2 : decode cX0_shownBy 2 = .ok (.aload_n 0, 1) := by decide +kernel
theorem dX0_shownBy_3 : decode cX0_shownBy 3 = .ok (.getfield 21, 3) := by decide +kernel
theorem dX0_shownBy_6 : decode cX0_shownBy 6 = .ok (.iload_n 2, 1) := by decide +kernel
theorem dX0_shownBy_7 : decode cX0_shownBy 7 = .ok (.invokestatic 79, 3) := by decide +kernel
theorem dX0_shownBy_10 : decode cX0_shownBy 10 = .ok (.ifCond .eq 12, 3) := by decide +kernel
theorem dX0_shownBy_13 : decode cX0_shownBy 13 = .ok (.aload_n 0, 1) := by decide +kernel
theorem dX0_shownBy_14 : decode cX0_shownBy 14 = .ok (.getfield 15, 3) := by decide +kernel
theorem dX0_shownBy_17 : decode cX0_shownBy 17 = .ok (.iload_n 1, 1) := by decide +kernel
theorem dX0_shownBy_18 : decode cX0_shownBy 18 = .ok (.isub, 1) := by decide +kernel
theorem dX0_shownBy_19 : decode cX0_shownBy 19 = .ok (.goto 7, 3) := by decide +kernel
theorem dX0_shownBy_22 : decode cX0_shownBy 22 = .ok (.aload_n 0, 1) := by decide +kernel
theorem dX0_shownBy_23 : decode cX0_shownBy 23 = .ok (.getfield 15, 3) := by decide +kernel
theorem dX0_shownBy_26 : decode cX0_shownBy 26 = .ok (.invokevirtual 83, 3) := by decide +kernel
theorem dX0_shownBy_29 : decode cX0_shownBy 29 = .ok (.ireturn, 1) := by decide +kernel
theorem dX1_init_0 : decode cX1_init 0 = .ok (.aload_n 0, 1) := by decide +kernel
theorem dX1_init_1 : decode cX1_init 1 = .ok (.invokespecial 3, 3) := by decide +kernel
theorem dX1_init_4 : decode cX1_init 4 = .ok (.aload_n 0, 1) := by decide +kernel
theorem dX1_init_5 : decode cX1_init 5 = .ok (.iconst 0, 1) := by decide +kernel
theorem dX1_init_6 : decode cX1_init 6 = .ok (.putfield 9, 3) := by decide +kernel
theorem dX1_init_9 : decode cX1_init 9 = .ok (.aload_n 0, 1) := by decide +kernel
theorem dX1_init_10 : decode cX1_init 10 = .ok (.iconst 0, 1) := by decide +kernel
theorem dX1_init_11 : decode cX1_init 11 = .ok (.putfield 15, 3) := by decide +kernel
theorem dX1_init_14 : decode cX1_init 14 = .ok (.aload_n 0, 1) := by decide +kernel
theorem dX1_init_15 : decode cX1_init 15 = .ok (.bipush 8, 2) := by decide +kernel
theorem dX1_init_17 : decode cX1_init 17 = .ok (.newarray .int, 2) := by decide +kernel
theorem dX1_init_19 : decode cX1_init 19 = .ok (.putfield 18, 3) := by decide +kernel
theorem dX1_init_22 : decode cX1_init 22 = .ok (.aload_n 0, 1) := by decide +kernel
theorem dX1_init_23 : decode cX1_init 23 = .ok (.bipush 8, 2) := by decide +kernel
theorem dX1_init_25 : decode cX1_init 25 = .ok (.newarray .int, 2) := by decide +kernel
theorem dX1_init_27 : decode cX1_init 27 = .ok (.putfield 22, 3) := by decide +kernel
theorem dX1_init_30 : decode cX1_init 30 = .ok (.aload_n 0, 1) := by decide +kernel
theorem dX1_init_31 : decode cX1_init 31 = .ok (.bipush 8, 2) := by decide +kernel
theorem dX1_init_33 : decode cX1_init 33 = .ok (.newarray .int, 2) := by decide +kernel
theorem dX1_init_35 : decode cX1_init 35 = .ok (.putfield 25, 3) := by decide +kernel
theorem dX1_init_38 : decode cX1_init 38 = .ok (.return_, 1) := by decide +kernel
theorem dX1_draw_0 : decode cX1_draw 0 = .ok (.aload_n 0, 1) := by decide +kernel
theorem dX1_draw_1 : decode cX1_draw 1 = .ok (.aload_n 1, 1) := by decide +kernel
theorem dX1_draw_2 : decode cX1_draw 2 = .ok (.getfield 28, 3) := by decide +kernel
theorem dX1_draw_5 : decode cX1_draw 5 = .ok (.putfield 9, 3) := by decide +kernel
theorem dX1_draw_8 : decode cX1_draw 8 = .ok (.aload_n 0, 1) := by decide +kernel
theorem dX1_draw_9 : decode cX1_draw 9 = .ok (.aload_n 1, 1) := by decide +kernel
theorem dX1_draw_10 : decode cX1_draw 10 = .ok (.getfield 31, 3) := by decide +kernel
theorem dX1_draw_13 : decode cX1_draw 13 = .ok (.putfield 15, 3) := by decide +kernel
theorem dX1_draw_16 : decode cX1_draw 16 = .ok (.iconst 0, 1) := by decide +kernel
theorem dX1_draw_17 : decode cX1_draw 17 = .ok (.istore_n 3, 1) := by decide +kernel
theorem dX1_draw_18 : decode cX1_draw 18 = .ok (.iload_n 3, 1) := by decide +kernel
theorem dX1_draw_19 : decode cX1_draw 19 = .ok (.aload_n 0, 1) := by decide +kernel
theorem dX1_draw_20 : decode cX1_draw 20 = .ok (.getfield 15, 3) := by decide +kernel
theorem dX1_draw_23 : decode cX1_draw 23 = .ok (.if_icmp .ge 60, 3) := by decide +kernel
theorem dX1_draw_26 : decode cX1_draw 26 = .ok (.aload_n 0, 1) := by decide +kernel
theorem dX1_draw_27 : decode cX1_draw 27 = .ok (.getfield 18, 3) := by decide +kernel
theorem dX1_draw_30 : decode cX1_draw 30 = .ok (.iload_n 3, 1) := by decide +kernel
theorem dX1_draw_31 : decode cX1_draw 31 = .ok (.aload_n 1, 1) := by decide +kernel
theorem dX1_draw_32 : decode cX1_draw 32 = .ok (.iload_n 3, 1) := by decide +kernel
theorem dX1_draw_33 : decode cX1_draw 33 = .ok (.aload_n 1, 1) := by decide +kernel
theorem dX1_draw_34 : decode cX1_draw 34 = .ok (.getfield 32, 3) := by decide +kernel
theorem dX1_draw_37 : decode cX1_draw 37 = .ok (.invokevirtual 35, 3) := by decide +kernel
theorem dX1_draw_40 : decode cX1_draw 40 = .ok (.iastore, 1) := by decide +kernel
theorem dX1_draw_41 : decode cX1_draw 41 = .ok (.aload_n 0, 1) := by decide +kernel
theorem dX1_draw_42 : decode cX1_draw 42 = .ok (.getfield 22, 3) := by decide +kernel
theorem dX1_draw_45 : decode cX1_draw 45 = .ok (.iload_n 3, 1) := by decide +kernel
theorem dX1_draw_46 : decode cX1_draw 46 = .ok (.aload_n 1, 1) := by decide +kernel
theorem dX1_draw_47 : decode cX1_draw 47 = .ok (.iload_n 3, 1) := by decide +kernel
theorem dX1_draw_48 : decode cX1_draw 48 = .ok (.aload_n 1, 1) := by decide +kernel
theorem dX1_draw_49 : decode cX1_draw 49 = .ok (.getfield 32, 3) := by decide +kernel
theorem dX1_draw_52 : decode cX1_draw 52 = .ok (.iload_n 2, 1) := by decide +kernel
theorem dX1_draw_53 : decode cX1_draw 53 = .ok (.isub, 1) := by decide +kernel
theorem dX1_draw_54 : decode cX1_draw 54 = .ok (.invokevirtual 35, 3) := by decide +kernel
theorem dX1_draw_57 : decode cX1_draw 57 = .ok (.iastore, 1) := by decide +kernel
theorem dX1_draw_58 : decode cX1_draw 58 = .ok (.aload_n 0, 1) := by decide +kernel
theorem dX1_draw_59 : decode cX1_draw 59 = .ok (.getfield 25, 3) := by decide +kernel
theorem dX1_draw_62 : decode cX1_draw 62 = .ok (.iload_n 3, 1) := by decide +kernel
theorem dX1_draw_63 : decode cX1_draw 63 = .ok (.aload_n 1, 1) := by decide +kernel
theorem dX1_draw_64 : decode cX1_draw 64 = .ok (.iload_n 3, 1) := by decide +kernel
theorem dX1_draw_65 : decode cX1_draw 65 = .ok (.aload_n 1, 1) := by decide +kernel
theorem dX1_draw_66 : decode cX1_draw 66 = .ok (.getfield 32, 3) := by decide +kernel
theorem dX1_draw_69 : decode cX1_draw 69 = .ok (.iconst 2, 1) := by decide +kernel
theorem dX1_draw_70 : decode cX1_draw 70 = .ok (.iload_n 2, 1) := by decide +kernel
theorem dX1_draw_71 : decode cX1_draw 71 = .ok (.imul, 1) := by decide +kernel
theorem dX1_draw_72 : decode cX1_draw 72 = .ok (.isub, 1) := by decide +kernel
theorem dX1_draw_73 : decode cX1_draw 73 = .ok (.invokevirtual 35, 3) := by decide +kernel
theorem dX1_draw_76 : decode cX1_draw 76 = .ok (.iastore, 1) := by decide +kernel
theorem dX1_draw_77 : decode cX1_draw 77 = .ok (.iinc 3 1, 3) := by decide +kernel
theorem dX1_draw_80 : decode cX1_draw 80 = .ok (.goto (-62), 3) := by decide +kernel
theorem dX1_draw_83 : decode cX1_draw 83 = .ok (.return_, 1) := by decide +kernel
theorem dX1_countFalse_0 : decode cX1_countFalse 0 = .ok (.iconst 0, 1) := by decide +kernel
theorem dX1_countFalse_1 : decode cX1_countFalse 1 = .ok (.istore_n 1, 1) := by decide +kernel
theorem dX1_countFalse_2 : decode cX1_countFalse 2 = .ok (.iconst 0, 1) := by decide +kernel
theorem dX1_countFalse_3 : decode cX1_countFalse 3 = .ok (.istore_n 2, 1) := by decide +kernel
theorem dX1_countFalse_4 : decode cX1_countFalse 4 = .ok (.iload_n 2, 1) := by decide +kernel
theorem dX1_countFalse_5 : decode cX1_countFalse 5 = .ok (.aload_n 0, 1) := by decide +kernel
theorem dX1_countFalse_6 : decode cX1_countFalse 6 = .ok (.getfield 15, 3) := by decide +kernel
theorem dX1_countFalse_9 : decode cX1_countFalse 9 = .ok (.if_icmp .ge 27, 3) := by decide +kernel
theorem dX1_countFalse_12 : decode cX1_countFalse 12 = .ok (.aload_n 0, 1) := by decide +kernel
theorem dX1_countFalse_13 : decode cX1_countFalse 13 = .ok (.getfield 22, 3) := by decide +kernel
theorem dX1_countFalse_16 : decode cX1_countFalse 16 = .ok (.iload_n 2, 1) := by decide +kernel
theorem dX1_countFalse_17 : decode cX1_countFalse 17 = .ok (.iaload, 1) := by decide +kernel
theorem dX1_countFalse_18 : decode cX1_countFalse 18 = .ok (.aload_n 0, 1) := by decide +kernel
theorem dX1_countFalse_19 : decode cX1_countFalse 19 = .ok (.getfield 18, 3) := by decide +kernel
theorem dX1_countFalse_22 : decode cX1_countFalse 22 = .ok (.iload_n 2, 1) := by decide +kernel
theorem dX1_countFalse_23 : decode cX1_countFalse 23 = .ok (.iaload, 1) := by decide +kernel
theorem dX1_countFalse_24 : decode cX1_countFalse 24 = .ok (.if_icmp .eq 6, 3) := by decide +kernel
theorem dX1_countFalse_27 : decode cX1_countFalse 27 = .ok (.iinc 1 1, 3) := by decide +kernel
theorem dX1_countFalse_30 : decode cX1_countFalse 30 = .ok (.iinc 2 1, 3) := by decide +kernel
theorem dX1_countFalse_33 : decode cX1_countFalse 33 = .ok (.goto (-29), 3) := by decide +kernel
theorem dX1_countFalse_36 : decode cX1_countFalse 36 = .ok (.iload_n 1, 1) := by decide +kernel
theorem dX1_countFalse_37 : decode cX1_countFalse 37 = .ok (.ireturn, 1) := by decide +kernel
theorem dX1_believed_0 : decode cX1_believed 0 = .ok (.aload_n 0, 1) := by decide +kernel
theorem dX1_believed_1 : decode cX1_believed 1 = .ok (.getfield 9, 3) := by decide +kernel
theorem dX1_believed_4 : decode cX1_believed 4 = .ok (.iload_n 3, 1) := by decide +kernel
theorem dX1_believed_5 : decode cX1_believed 5 = .ok (.invokestatic 39, 3) := by decide +kernel
theorem dX1_believed_8 : decode cX1_believed 8 = .ok (.istore 4, 2) := by decide +kernel
theorem dX1_believed_10 : decode cX1_believed 10 = .ok (.aload_n 0, 1) := by decide +kernel
theorem dX1_believed_11 : decode cX1_believed 11 = .ok (.getfield 18, 3) := by decide +kernel
theorem dX1_believed_14 : decode cX1_believed 14 = .ok (.iload_n 3, 1) := by decide +kernel
theorem dX1_believed_15 : decode cX1_believed 15 = .ok (.iaload, 1) := by decide +kernel
theorem dX1_believed_16 : decode cX1_believed 16 = .ok (.istore 5, 2) := by decide +kernel
theorem dX1_believed_18 : decode cX1_believed 18 = .ok (.iload 4, 2) := by decide +kernel
theorem dX1_believed_20 : decode cX1_believed 20 = .ok (.ifCond .eq 12, 3) := by decide +kernel
theorem dX1_believed_23 : decode cX1_believed 23 = .ok (.aload_n 0, 1) := by decide +kernel
theorem dX1_believed_24 : decode cX1_believed 24 = .ok (.getfield 22, 3) := by decide +kernel
theorem dX1_believed_27 : decode cX1_believed 27 = .ok (.iload_n 3, 1) := by decide +kernel
theorem dX1_believed_28 : decode cX1_believed 28 = .ok (.iaload, 1) := by decide +kernel
theorem dX1_believed_29 : decode cX1_believed 29 = .ok (.goto 5, 3) := by decide +kernel
theorem dX1_believed_32 : decode cX1_believed 32 = .ok (.iload 5, 2) := by decide +kernel
theorem dX1_believed_34 : decode cX1_believed 34 = .ok (.istore 6, 2) := by decide +kernel
theorem dX1_believed_36 : decode cX1_believed 36 = .ok (.iload_n 1, 1) := by decide +kernel
theorem dX1_believed_37 : decode cX1_believed 37 = .ok (.tableswitch 77 0 5 #[39, 42, 49, 52, 60, 69], 39) := by decide +kernel
theorem dX1_believed_76 : decode cX1_believed 76 = .ok (.iload 6, 2) := by decide +kernel
theorem dX1_believed_78 : decode cX1_believed 78 = .ok (.ireturn, 1) := by decide +kernel
theorem dX1_believed_79 : decode cX1_believed 79 = .ok (.iload 6, 2) := by decide +kernel
theorem dX1_believed_81 : decode cX1_believed 81 = .ok (.iload_n 2, 1) := by decide +kernel
theorem dX1_believed_82 : decode cX1_believed 82 = .ok (.iconst 3, 1) := by decide +kernel
theorem dX1_believed_83 : decode cX1_believed 83 = .ok (.irem, 1) := by decide +kernel
theorem dX1_believed_84 : decode cX1_believed 84 = .ok (.iadd, 1) := by decide +kernel
theorem dX1_believed_85 : decode cX1_believed 85 = .ok (.ireturn, 1) := by decide +kernel
theorem dX1_believed_86 : decode cX1_believed 86 = .ok (.iload 5, 2) := by decide +kernel
theorem dX1_believed_88 : decode cX1_believed 88 = .ok (.ireturn, 1) := by decide +kernel
theorem dX1_believed_89 : decode cX1_believed 89 = .ok (.iload 6, 2) := by decide +kernel
theorem dX1_believed_91 : decode cX1_believed 91 = .ok (.iload 5, 2) := by decide +kernel
theorem dX1_believed_93 : decode cX1_believed 93 = .ok (.invokestatic 43, 3) := by decide +kernel
theorem dX1_believed_96 : decode cX1_believed 96 = .ok (.ireturn, 1) := by decide +kernel
theorem dX1_believed_97 : decode cX1_believed 97 = .ok (.iload 6, 2) := by decide +kernel
theorem dX1_believed_99 : decode cX1_believed 99 = .ok (.iload_n 2, 1) := by decide +kernel
theorem dX1_believed_100 : decode cX1_believed 100 = .ok (.iconst 3, 1) := by decide +kernel
theorem dX1_believed_101 : decode cX1_believed 101 = .ok (.irem, 1) := by decide +kernel
theorem dX1_believed_102 : decode cX1_believed 102 = .ok (.iadd, 1) := by decide +kernel
theorem dX1_believed_103 : decode cX1_believed 103 = .ok (.iconst 1, 1) := by decide +kernel
theorem dX1_believed_104 : decode cX1_believed 104 = .ok (.isub, 1) := by decide +kernel
theorem dX1_believed_105 : decode cX1_believed 105 = .ok (.ireturn, 1) := by decide +kernel
theorem dX1_believed_106 : decode cX1_believed 106 = .ok (.iload 5, 2) := by decide +kernel
theorem dX1_believed_108 : decode cX1_believed 108 = .ok (.iload 6, 2) := by decide +kernel
theorem dX1_believed_110 : decode cX1_believed 110 = .ok (.invokestatic 48, 3) := by decide +kernel
theorem dX1_believed_113 : decode cX1_believed 113 = .ok (.ireturn, 1) := by decide +kernel
theorem dX1_believed_114 : decode cX1_believed 114 = .ok (.iload 4, 2) := by decide +kernel
theorem dX1_believed_116 : decode cX1_believed 116 = .ok (.ifCond .eq 12, 3) := by decide +kernel
theorem dX1_believed_119 : decode cX1_believed 119 = .ok (.aload_n 0, 1) := by decide +kernel
theorem dX1_believed_120 : decode cX1_believed 120 = .ok (.getfield 25, 3) := by decide +kernel
theorem dX1_believed_123 : decode cX1_believed 123 = .ok (.iload_n 3, 1) := by decide +kernel
theorem dX1_believed_124 : decode cX1_believed 124 = .ok (.iaload, 1) := by decide +kernel
theorem dX1_believed_125 : decode cX1_believed 125 = .ok (.goto 5, 3) := by decide +kernel
theorem dX1_believed_128 : decode cX1_believed 128 = .ok (.iload 5, 2) := by decide +kernel
theorem dX1_believed_130 : decode cX1_believed 130 = .ok (.iload 5, 2) := by decide +kernel
theorem dX1_believed_132 : decode cX1_believed 132 = .ok (.invokestatic 43, 3) := by decide +kernel
theorem dX1_believed_135 : decode cX1_believed 135 = .ok (.ireturn, 1) := by decide +kernel
theorem dX2_init_0 : decode cX2_init 0 = .ok (.aload_n 0, 1) := by decide +kernel
theorem dX2_init_1 : decode cX2_init 1 = .ok (.invokespecial 3, 3) := by decide +kernel
theorem dX2_init_4 : decode cX2_init 4 = .ok (.aload_n 0, 1) := by decide +kernel
theorem dX2_init_5 : decode cX2_init 5 = .ok (.iconst 1, 1) := by decide +kernel
theorem dX2_init_6 : decode cX2_init 6 = .ok (.putfield 9, 3) := by decide +kernel
theorem dX2_init_9 : decode cX2_init 9 = .ok (.aload_n 0, 1) := by decide +kernel
theorem dX2_init_10 : decode cX2_init 10 = .ok (.iconst 0, 1) := by decide +kernel
theorem dX2_init_11 : decode cX2_init 11 = .ok (.putfield 15, 3) := by decide +kernel
theorem dX2_init_14 : decode cX2_init 14 = .ok (.aload_n 0, 1) := by decide +kernel
theorem dX2_init_15 : decode cX2_init 15 = .ok (.iconst 0, 1) := by decide +kernel
theorem dX2_init_16 : decode cX2_init 16 = .ok (.putfield 18, 3) := by decide +kernel
theorem dX2_init_19 : decode cX2_init 19 = .ok (.aload_n 0, 1) := by decide +kernel
theorem dX2_init_20 : decode cX2_init 20 = .ok (.bipush 50, 2) := by decide +kernel
theorem dX2_init_22 : decode cX2_init 22 = .ok (.newarray .int, 2) := by decide +kernel
theorem dX2_init_24 : decode cX2_init 24 = .ok (.putfield 21, 3) := by decide +kernel
theorem dX2_init_27 : decode cX2_init 27 = .ok (.aload_n 0, 1) := by decide +kernel
theorem dX2_init_28 : decode cX2_init 28 = .ok (.bipush 20, 2) := by decide +kernel
theorem dX2_init_30 : decode cX2_init 30 = .ok (.newarray .int, 2) := by decide +kernel
theorem dX2_init_32 : decode cX2_init 32 = .ok (.putfield 25, 3) := by decide +kernel
theorem dX2_init_35 : decode cX2_init 35 = .ok (.return_, 1) := by decide +kernel
theorem dX2_copyFrom_0 : decode cX2_copyFrom 0 = .ok (.aload_n 0, 1) := by decide +kernel
theorem dX2_copyFrom_1 : decode cX2_copyFrom 1 = .ok (.aload_n 1, 1) := by decide +kernel
theorem dX2_copyFrom_2 : decode cX2_copyFrom 2 = .ok (.getfield 9, 3) := by decide +kernel
theorem dX2_copyFrom_5 : decode cX2_copyFrom 5 = .ok (.putfield 9, 3) := by decide +kernel
theorem dX2_copyFrom_8 : decode cX2_copyFrom 8 = .ok (.aload_n 0, 1) := by decide +kernel
theorem dX2_copyFrom_9 : decode cX2_copyFrom 9 = .ok (.aload_n 1, 1) := by decide +kernel
theorem dX2_copyFrom_10 : decode cX2_copyFrom 10 = .ok (.getfield 15, 3) := by decide +kernel
theorem dX2_copyFrom_13 : decode cX2_copyFrom 13 = .ok (.putfield 15, 3) := by decide +kernel
theorem dX2_copyFrom_16 : decode cX2_copyFrom 16 = .ok (.aload_n 0, 1) := by decide +kernel
theorem dX2_copyFrom_17 : decode cX2_copyFrom 17 = .ok (.aload_n 1, 1) := by decide +kernel
theorem dX2_copyFrom_18 : decode cX2_copyFrom 18 = .ok (.getfield 18, 3) := by decide +kernel
theorem dX2_copyFrom_21 : decode cX2_copyFrom 21 = .ok (.putfield 18, 3) := by decide +kernel
theorem dX2_copyFrom_24 : decode cX2_copyFrom 24 = .ok (.aload_n 1, 1) := by decide +kernel
theorem dX2_copyFrom_25 : decode cX2_copyFrom 25 = .ok (.getfield 21, 3) := by decide +kernel
theorem dX2_copyFrom_28 : decode cX2_copyFrom 28 = .ok (.iconst 0, 1) := by decide +kernel
theorem dX2_copyFrom_29 : decode cX2_copyFrom 29 = .ok (.aload_n 0, 1) := by decide +kernel
theorem dX2_copyFrom_30 : decode cX2_copyFrom 30 = .ok (.getfield 21, 3) := by decide +kernel
theorem dX2_copyFrom_33 : decode cX2_copyFrom 33 = .ok (.iconst 0, 1) := by decide +kernel
theorem dX2_copyFrom_34 : decode cX2_copyFrom 34 = .ok (.bipush 50, 2) := by decide +kernel
theorem dX2_copyFrom_36 : decode cX2_copyFrom 36 = .ok (.invokestatic 28, 3) := by decide +kernel
theorem dX2_copyFrom_39 : decode cX2_copyFrom 39 = .ok (.aload_n 1, 1) := by decide +kernel
theorem dX2_copyFrom_40 : decode cX2_copyFrom 40 = .ok (.getfield 25, 3) := by decide +kernel
theorem dX2_copyFrom_43 : decode cX2_copyFrom 43 = .ok (.iconst 0, 1) := by decide +kernel
theorem dX2_copyFrom_44 : decode cX2_copyFrom 44 = .ok (.aload_n 0, 1) := by decide +kernel
theorem dX2_copyFrom_45 : decode cX2_copyFrom 45 = .ok (.getfield 25, 3) := by decide +kernel
theorem dX2_copyFrom_48 : decode cX2_copyFrom 48 = .ok (.iconst 0, 1) := by decide +kernel
theorem dX2_copyFrom_49 : decode cX2_copyFrom 49 = .ok (.bipush 20, 2) := by decide +kernel
theorem dX2_copyFrom_51 : decode cX2_copyFrom 51 = .ok (.invokestatic 28, 3) := by decide +kernel
theorem dX2_copyFrom_54 : decode cX2_copyFrom 54 = .ok (.return_, 1) := by decide +kernel
theorem dX2_nextDraw_0 : decode cX2_nextDraw 0 = .ok (.aload_n 0, 1) := by decide +kernel
theorem dX2_nextDraw_1 : decode cX2_nextDraw 1 = .ok (.aload_n 0, 1) := by decide +kernel
theorem dX2_nextDraw_2 : decode cX2_nextDraw 2 = .ok (.getfield 9, 3) := by decide +kernel
theorem dX2_nextDraw_5 : decode cX2_nextDraw 5 = .ok (.ldc 34, 2) := by decide +kernel
theorem dX2_nextDraw_7 : decode cX2_nextDraw 7 = .ok (.imul, 1) := by decide +kernel
theorem dX2_nextDraw_8 : decode cX2_nextDraw 8 = .ok (.sipush 12345, 3) := by decide +kernel
theorem dX2_nextDraw_11 : decode cX2_nextDraw 11 = .ok (.iadd, 1) := by decide +kernel
theorem dX2_nextDraw_12 : decode cX2_nextDraw 12 = .ok (.putfield 9, 3) := by decide +kernel
theorem dX2_nextDraw_15 : decode cX2_nextDraw 15 = .ok (.aload_n 0, 1) := by decide +kernel
theorem dX2_nextDraw_16 : decode cX2_nextDraw 16 = .ok (.getfield 9, 3) := by decide +kernel
theorem dX2_nextDraw_19 : decode cX2_nextDraw 19 = .ok (.bipush 8, 2) := by decide +kernel
theorem dX2_nextDraw_21 : decode cX2_nextDraw 21 = .ok (.iushr, 1) := by decide +kernel
theorem dX2_nextDraw_22 : decode cX2_nextDraw 22 = .ok (.ireturn, 1) := by decide +kernel
theorem dX3_init_0 : decode cX3_init 0 = .ok (.aload_n 0, 1) := by decide +kernel
theorem dX3_init_1 : decode cX3_init 1 = .ok (.invokespecial 3, 3) := by decide +kernel
theorem dX3_init_4 : decode cX3_init 4 = .ok (.aload_n 0, 1) := by decide +kernel
theorem dX3_init_5 : decode cX3_init 5 = .ok (.iconst 0, 1) := by decide +kernel
theorem dX3_init_6 : decode cX3_init 6 = .ok (.putfield 9, 3) := by decide +kernel
theorem dX3_init_9 : decode cX3_init 9 = .ok (.aload_n 0, 1) := by decide +kernel
theorem dX3_init_10 : decode cX3_init 10 = .ok (.iconst 0, 1) := by decide +kernel
theorem dX3_init_11 : decode cX3_init 11 = .ok (.putfield 15, 3) := by decide +kernel
theorem dX3_init_14 : decode cX3_init 14 = .ok (.aload_n 0, 1) := by decide +kernel
theorem dX3_init_15 : decode cX3_init 15 = .ok (.bipush 7, 2) := by decide +kernel
theorem dX3_init_17 : decode cX3_init 17 = .ok (.newarray .int, 2) := by decide +kernel
theorem dX3_init_19 : decode cX3_init 19 = .ok (.putfield 18, 3) := by decide +kernel
theorem dX3_init_22 : decode cX3_init 22 = .ok (.aload_n 0, 1) := by decide +kernel
theorem dX3_init_23 : decode cX3_init 23 = .ok (.bipush 7, 2) := by decide +kernel
theorem dX3_init_25 : decode cX3_init 25 = .ok (.newarray .int, 2) := by decide +kernel
theorem dX3_init_27 : decode cX3_init 27 = .ok (.putfield 22, 3) := by decide +kernel
theorem dX3_init_30 : decode cX3_init 30 = .ok (.aload_n 0, 1) := by decide +kernel
theorem dX3_init_31 : decode cX3_init 31 = .ok (.bipush 7, 2) := by decide +kernel
theorem dX3_init_33 : decode cX3_init 33 = .ok (.newarray .int, 2) := by decide +kernel
theorem dX3_init_35 : decode cX3_init 35 = .ok (.putfield 25, 3) := by decide +kernel
theorem dX3_init_38 : decode cX3_init 38 = .ok (.aload_n 0, 1) := by decide +kernel
theorem dX3_init_39 : decode cX3_init 39 = .ok (.bipush 7, 2) := by decide +kernel
theorem dX3_init_41 : decode cX3_init 41 = .ok (.newarray .int, 2) := by decide +kernel
theorem dX3_init_43 : decode cX3_init 43 = .ok (.putfield 28, 3) := by decide +kernel
theorem dX3_init_46 : decode cX3_init 46 = .ok (.aload_n 0, 1) := by decide +kernel
theorem dX3_init_47 : decode cX3_init 47 = .ok (.bipush 7, 2) := by decide +kernel
theorem dX3_init_49 : decode cX3_init 49 = .ok (.newarray .int, 2) := by decide +kernel
theorem dX3_init_51 : decode cX3_init 51 = .ok (.putfield 31, 3) := by decide +kernel
theorem dX3_init_54 : decode cX3_init 54 = .ok (.return_, 1) := by decide +kernel
theorem dX3_copyFrom_0 : decode cX3_copyFrom 0 = .ok (.aload_n 0, 1) := by decide +kernel
theorem dX3_copyFrom_1 : decode cX3_copyFrom 1 = .ok (.aload_n 1, 1) := by decide +kernel
theorem dX3_copyFrom_2 : decode cX3_copyFrom 2 = .ok (.getfield 9, 3) := by decide +kernel
theorem dX3_copyFrom_5 : decode cX3_copyFrom 5 = .ok (.putfield 9, 3) := by decide +kernel
theorem dX3_copyFrom_8 : decode cX3_copyFrom 8 = .ok (.aload_n 0, 1) := by decide +kernel
theorem dX3_copyFrom_9 : decode cX3_copyFrom 9 = .ok (.aload_n 1, 1) := by decide +kernel
theorem dX3_copyFrom_10 : decode cX3_copyFrom 10 = .ok (.getfield 15, 3) := by decide +kernel
theorem dX3_copyFrom_13 : decode cX3_copyFrom 13 = .ok (.putfield 15, 3) := by decide +kernel
theorem dX3_copyFrom_16 : decode cX3_copyFrom 16 = .ok (.aload_n 1, 1) := by decide +kernel
theorem dX3_copyFrom_17 : decode cX3_copyFrom 17 = .ok (.getfield 18, 3) := by decide +kernel
theorem dX3_copyFrom_20 : decode cX3_copyFrom 20 = .ok (.iconst 0, 1) := by decide +kernel
theorem dX3_copyFrom_21 : decode cX3_copyFrom 21 = .ok (.aload_n 0, 1) := by decide +kernel
theorem dX3_copyFrom_22 : decode cX3_copyFrom 22 = .ok (.getfield 18, 3) := by decide +kernel
theorem dX3_copyFrom_25 : decode cX3_copyFrom 25 = .ok (.iconst 0, 1) := by decide +kernel
theorem dX3_copyFrom_26 : decode cX3_copyFrom 26 = .ok (.bipush 7, 2) := by decide +kernel
theorem dX3_copyFrom_28 : decode cX3_copyFrom 28 = .ok (.invokestatic 34, 3) := by decide +kernel
theorem dX3_copyFrom_31 : decode cX3_copyFrom 31 = .ok (.aload_n 1, 1) := by decide +kernel
theorem dX3_copyFrom_32 : decode cX3_copyFrom 32 = .ok (.getfield 22, 3) := by decide +kernel
theorem dX3_copyFrom_35 : decode cX3_copyFrom 35 = .ok (.iconst 0, 1) := by decide +kernel
theorem dX3_copyFrom_36 : decode cX3_copyFrom 36 = .ok (.aload_n 0, 1) := by decide +kernel
theorem dX3_copyFrom_37 : decode cX3_copyFrom 37 = .ok (.getfield 22, 3) := by decide +kernel
theorem dX3_copyFrom_40 : decode cX3_copyFrom 40 = .ok (.iconst 0, 1) := by decide +kernel
theorem dX3_copyFrom_41 : decode cX3_copyFrom 41 = .ok (.bipush 7, 2) := by decide +kernel
theorem dX3_copyFrom_43 : decode cX3_copyFrom 43 = .ok (.invokestatic 34, 3) := by decide +kernel
theorem dX3_copyFrom_46 : decode cX3_copyFrom 46 = .ok (.aload_n 1, 1) := by decide +kernel
theorem dX3_copyFrom_47 : decode cX3_copyFrom 47 = .ok (.getfield 25, 3) := by decide +kernel
theorem dX3_copyFrom_50 : decode cX3_copyFrom 50 = .ok (.iconst 0, 1) := by decide +kernel
theorem dX3_copyFrom_51 : decode cX3_copyFrom 51 = .ok (.aload_n 0, 1) := by decide +kernel
theorem dX3_copyFrom_52 : decode cX3_copyFrom 52 = .ok (.getfield 25, 3) := by decide +kernel
theorem dX3_copyFrom_55 : decode cX3_copyFrom 55 = .ok (.iconst 0, 1) := by decide +kernel
theorem dX3_copyFrom_56 : decode cX3_copyFrom 56 = .ok (.bipush 7, 2) := by decide +kernel
theorem dX3_copyFrom_58 : decode cX3_copyFrom 58 = .ok (.invokestatic 34, 3) := by decide +kernel
theorem dX3_copyFrom_61 : decode cX3_copyFrom 61 = .ok (.aload_n 1, 1) := by decide +kernel
theorem dX3_copyFrom_62 : decode cX3_copyFrom 62 = .ok (.getfield 28, 3) := by decide +kernel
theorem dX3_copyFrom_65 : decode cX3_copyFrom 65 = .ok (.iconst 0, 1) := by decide +kernel
theorem dX3_copyFrom_66 : decode cX3_copyFrom 66 = .ok (.aload_n 0, 1) := by decide +kernel
theorem dX3_copyFrom_67 : decode cX3_copyFrom 67 = .ok (.getfield 28, 3) := by decide +kernel
theorem dX3_copyFrom_70 : decode cX3_copyFrom 70 = .ok (.iconst 0, 1) := by decide +kernel
theorem dX3_copyFrom_71 : decode cX3_copyFrom 71 = .ok (.bipush 7, 2) := by decide +kernel
theorem dX3_copyFrom_73 : decode cX3_copyFrom 73 = .ok (.invokestatic 34, 3) := by decide +kernel
theorem dX3_copyFrom_76 : decode cX3_copyFrom 76 = .ok (.aload_n 1, 1) := by decide +kernel
theorem dX3_copyFrom_77 : decode cX3_copyFrom 77 = .ok (.getfield 31, 3) := by decide +kernel
theorem dX3_copyFrom_80 : decode cX3_copyFrom 80 = .ok (.iconst 0, 1) := by decide +kernel
theorem dX3_copyFrom_81 : decode cX3_copyFrom 81 = .ok (.aload_n 0, 1) := by decide +kernel
theorem dX3_copyFrom_82 : decode cX3_copyFrom 82 = .ok (.getfield 31, 3) := by decide +kernel
theorem dX3_copyFrom_85 : decode cX3_copyFrom 85 = .ok (.iconst 0, 1) := by decide +kernel
theorem dX3_copyFrom_86 : decode cX3_copyFrom 86 = .ok (.bipush 7, 2) := by decide +kernel
theorem dX3_copyFrom_88 : decode cX3_copyFrom 88 = .ok (.invokestatic 34, 3) := by decide +kernel
theorem dX3_copyFrom_91 : decode cX3_copyFrom 91 = .ok (.return_, 1) := by decide +kernel
theorem dX3_setAt_0 : decode cX3_setAt 0 = .ok (.aload_n 0, 1) := by decide +kernel
theorem dX3_setAt_1 : decode cX3_setAt 1 = .ok (.aload_n 0, 1) := by decide +kernel
theorem dX3_setAt_2 : decode cX3_setAt 2 = .ok (.getfield 28, 3) := by decide +kernel
theorem dX3_setAt_5 : decode cX3_setAt 5 = .ok (.iload_n 1, 1) := by decide +kernel
theorem dX3_setAt_6 : decode cX3_setAt 6 = .ok (.invokevirtual 40, 3) := by decide +kernel
theorem dX3_setAt_9 : decode cX3_setAt 9 = .ok (.ireturn, 1) := by decide +kernel
theorem dX3_setLost_0 : decode cX3_setLost 0 = .ok (.aload_n 0, 1) := by decide +kernel
theorem dX3_setLost_1 : decode cX3_setLost 1 = .ok (.aload_n 0, 1) := by decide +kernel
theorem dX3_setLost_2 : decode cX3_setLost 2 = .ok (.getfield 31, 3) := by decide +kernel
theorem dX3_setLost_5 : decode cX3_setLost 5 = .ok (.iconst 1, 1) := by decide +kernel
theorem dX3_setLost_6 : decode cX3_setLost 6 = .ok (.invokevirtual 40, 3) := by decide +kernel
theorem dX3_setLost_9 : decode cX3_setLost 9 = .ok (.ireturn, 1) := by decide +kernel
theorem dX3_setOf_0 : decode cX3_setOf 0 = .ok (.iconst 0, 1) := by decide +kernel
theorem dX3_setOf_1 : decode cX3_setOf 1 = .ok (.istore_n 3, 1) := by decide +kernel
theorem dX3_setOf_2 : decode cX3_setOf 2 = .ok (.iconst 0, 1) := by decide +kernel
theorem dX3_setOf_3 : decode cX3_setOf 3 = .ok (.istore 4, 2) := by decide +kernel
theorem dX3_setOf_5 : decode cX3_setOf 5 = .ok (.iload 4, 2) := by decide +kernel
theorem dX3_setOf_7 : decode cX3_setOf 7 = .ok (.aload_n 0, 1) := by decide +kernel
theorem dX3_setOf_8 : decode cX3_setOf 8 = .ok (.getfield 9, 3) := by decide +kernel
theorem dX3_setOf_11 : decode cX3_setOf 11 = .ok (.if_icmp .ge 24, 3) := by decide +kernel
theorem dX3_setOf_14 : decode cX3_setOf 14 = .ok (.aload_n 1, 1) := by decide +kernel
theorem dX3_setOf_15 : decode cX3_setOf 15 = .ok (.iload 4, 2) := by decide +kernel
theorem dX3_setOf_17 : decode cX3_setOf 17 = .ok (.iaload, 1) := by decide +kernel
theorem dX3_setOf_18 : decode cX3_setOf 18 = .ok (.iload_n 2, 1) := by decide +kernel
theorem dX3_setOf_19 : decode cX3_setOf 19 = .ok (.if_icmp .ne 10, 3) := by decide +kernel
theorem dX3_setOf_22 : decode cX3_setOf 22 = .ok (.iload_n 3, 1) := by decide +kernel
theorem dX3_setOf_23 : decode cX3_setOf 23 = .ok (.iconst 1, 1) := by decide +kernel
theorem dX3_setOf_24 : decode cX3_setOf 24 = .ok (.iload 4, 2) := by decide +kernel
theorem dX3_setOf_26 : decode cX3_setOf 26 = .ok (.ishl, 1) := by decide +kernel
theorem dX3_setOf_27 : decode cX3_setOf 27 = .ok (.ior, 1) := by decide +kernel
theorem dX3_setOf_28 : decode cX3_setOf 28 = .ok (.istore_n 3, 1) := by decide +kernel
theorem dX3_setOf_29 : decode cX3_setOf 29 = .ok (.iinc 4 1, 3) := by decide +kernel
theorem dX3_setOf_32 : decode cX3_setOf 32 = .ok (.goto (-27), 3) := by decide +kernel
theorem dX3_setOf_35 : decode cX3_setOf 35 = .ok (.iload_n 3, 1) := by decide +kernel
theorem dX3_setOf_36 : decode cX3_setOf 36 = .ok (.ireturn, 1) := by decide +kernel
theorem dX3_countAt_0 : decode cX3_countAt 0 = .ok (.aload_n 0, 1) := by decide +kernel
theorem dX3_countAt_1 : decode cX3_countAt 1 = .ok (.iload_n 1, 1) := by decide +kernel
theorem dX3_countAt_2 : decode cX3_countAt 2 = .ok (.invokevirtual 44, 3) := by decide +kernel
theorem dX3_countAt_5 : decode cX3_countAt 5 = .ok (.invokestatic 48, 3) := by decide +kernel
theorem dX3_countAt_8 : decode cX3_countAt 8 = .ok (.ireturn, 1) := by decide +kernel
theorem dX3_countLost_0 : decode cX3_countLost 0 = .ok (.aload_n 0, 1) := by decide +kernel
theorem dX3_countLost_1 : decode cX3_countLost 1 = .ok (.invokevirtual 53, 3) := by decide +kernel
theorem dX3_countLost_4 : decode cX3_countLost 4 = .ok (.invokestatic 48, 3) := by decide +kernel
theorem dX3_countLost_7 : decode cX3_countLost 7 = .ok (.ireturn, 1) := by decide +kernel
theorem dX4_init_0 : decode cX4_init 0 = .ok (.aload_n 0, 1) := by decide +kernel
theorem dX4_init_1 : decode cX4_init 1 = .ok (.invokespecial 3, 3) := by decide +kernel
theorem dX4_init_4 : decode cX4_init 4 = .ok (.aload_n 0, 1) := by decide +kernel
theorem dX4_init_5 : decode cX4_init 5 = .ok (.iconst 0, 1) := by decide +kernel
theorem dX4_init_6 : decode cX4_init 6 = .ok (.putfield 9, 3) := by decide +kernel
theorem dX4_init_9 : decode cX4_init 9 = .ok (.aload_n 0, 1) := by decide +kernel
theorem dX4_init_10 : decode cX4_init 10 = .ok (.bipush 50, 2) := by decide +kernel
theorem dX4_init_12 : decode cX4_init 12 = .ok (.newarray .int, 2) := by decide +kernel
theorem dX4_init_14 : decode cX4_init 14 = .ok (.putfield 15, 3) := by decide +kernel
theorem dX4_init_17 : decode cX4_init 17 = .ok (.aload_n 0, 1) := by decide +kernel
theorem dX4_init_18 : decode cX4_init 18 = .ok (.bipush 50, 2) := by decide +kernel
theorem dX4_init_20 : decode cX4_init 20 = .ok (.newarray .int, 2) := by decide +kernel
theorem dX4_init_22 : decode cX4_init 22 = .ok (.putfield 19, 3) := by decide +kernel
theorem dX4_init_25 : decode cX4_init 25 = .ok (.return_, 1) := by decide +kernel
theorem dX4_isEmpty_0 : decode cX4_isEmpty 0 = .ok (.aload_n 0, 1) := by decide +kernel
theorem dX4_isEmpty_1 : decode cX4_isEmpty 1 = .ok (.getfield 9, 3) := by decide +kernel
theorem dX4_isEmpty_4 : decode cX4_isEmpty 4 = .ok (.ifCond .ne 7, 3) := by decide +kernel
theorem dX4_isEmpty_7 : decode cX4_isEmpty 7 = .ok (.iconst 1, 1) := by decide +kernel
theorem dX4_isEmpty_8 : decode cX4_isEmpty 8 = .ok (.goto 4, 3) := by decide +kernel
theorem dX4_isEmpty_11 : decode cX4_isEmpty 11 = .ok (.iconst 0, 1) := by decide +kernel
theorem dX4_isEmpty_12 : decode cX4_isEmpty 12 = .ok (.ireturn, 1) := by decide +kernel
theorem dX4_copyFrom_0 : decode cX4_copyFrom 0 = .ok (.aload_n 0, 1) := by decide +kernel
theorem dX4_copyFrom_1 : decode cX4_copyFrom 1 = .ok (.aload_n 1, 1) := by decide +kernel
theorem dX4_copyFrom_2 : decode cX4_copyFrom 2 = .ok (.getfield 9, 3) := by decide +kernel
theorem dX4_copyFrom_5 : decode cX4_copyFrom 5 = .ok (.putfield 9, 3) := by decide +kernel
theorem dX4_copyFrom_8 : decode cX4_copyFrom 8 = .ok (.aload_n 1, 1) := by decide +kernel
theorem dX4_copyFrom_9 : decode cX4_copyFrom 9 = .ok (.getfield 15, 3) := by decide +kernel
theorem dX4_copyFrom_12 : decode cX4_copyFrom 12 = .ok (.iconst 0, 1) := by decide +kernel
theorem dX4_copyFrom_13 : decode cX4_copyFrom 13 = .ok (.aload_n 0, 1) := by decide +kernel
theorem dX4_copyFrom_14 : decode cX4_copyFrom 14 = .ok (.getfield 15, 3) := by decide +kernel
theorem dX4_copyFrom_17 : decode cX4_copyFrom 17 = .ok (.iconst 0, 1) := by decide +kernel
theorem dX4_copyFrom_18 : decode cX4_copyFrom 18 = .ok (.bipush 50, 2) := by decide +kernel
theorem dX4_copyFrom_20 : decode cX4_copyFrom 20 = .ok (.invokestatic 22, 3) := by decide +kernel
theorem dX4_copyFrom_23 : decode cX4_copyFrom 23 = .ok (.return_, 1) := by decide +kernel
theorem dX4_add_0 : decode cX4_add 0 = .ok (.aload_n 0, 1) := by decide +kernel
theorem dX4_add_1 : decode cX4_add 1 = .ok (.getfield 9, 3) := by decide +kernel
theorem dX4_add_4 : decode cX4_add 4 = .ok (.bipush 50, 2) := by decide +kernel
theorem dX4_add_6 : decode cX4_add 6 = .ok (.if_icmp .ge 23, 3) := by decide +kernel
theorem dX4_add_9 : decode cX4_add 9 = .ok (.aload_n 0, 1) := by decide +kernel
theorem dX4_add_10 : decode cX4_add 10 = .ok (.getfield 15, 3) := by decide +kernel
theorem dX4_add_13 : decode cX4_add 13 = .ok (.aload_n 0, 1) := by decide +kernel
theorem dX4_add_14 : decode cX4_add 14 = .ok (.getfield 9, 3) := by decide +kernel
theorem dX4_add_17 : decode cX4_add 17 = .ok (.iload_n 1, 1) := by decide +kernel
theorem dX4_add_18 : decode cX4_add 18 = .ok (.iastore, 1) := by decide +kernel
theorem dX4_add_19 : decode cX4_add 19 = .ok (.aload_n 0, 1) := by decide +kernel
theorem dX4_add_20 : decode cX4_add 20 = .ok (.dup, 1) := by decide +kernel
theorem dX4_add_21 : decode cX4_add 21 = .ok (.getfield 9, 3) := by decide +kernel
theorem dX4_add_24 : decode cX4_add 24 = .ok (.iconst 1, 1) := by decide +kernel
theorem dX4_add_25 : decode cX4_add 25 = .ok (.iadd, 1) := by decide +kernel
theorem dX4_add_26 : decode cX4_add 26 = .ok (.putfield 9, 3) := by decide +kernel
theorem dX4_add_29 : decode cX4_add 29 = .ok (.return_, 1) := by decide +kernel
theorem dX4_value_0 : decode cX4_value 0 = .ok (.iconst 0, 1) := by decide +kernel
theorem dX4_value_1 : decode cX4_value 1 = .ok (.istore 4, 2) := by decide +kernel
theorem dX4_value_3 : decode cX4_value 3 = .ok (.iconst 0, 1) := by decide +kernel
theorem dX4_value_4 : decode cX4_value 4 = .ok (.istore 5, 2) := by decide +kernel
theorem dX4_value_6 : decode cX4_value 6 = .ok (.iload 5, 2) := by decide +kernel
theorem dX4_value_8 : decode cX4_value 8 = .ok (.aload_n 0, 1) := by decide +kernel
theorem dX4_value_9 : decode cX4_value 9 = .ok (.getfield 9, 3) := by decide +kernel
theorem dX4_value_12 : decode cX4_value 12 = .ok (.if_icmp .ge 158, 3) := by decide +kernel
theorem dX4_value_15 : decode cX4_value 15 = .ok (.aload_n 0, 1) := by decide +kernel
theorem dX4_value_16 : decode cX4_value 16 = .ok (.getfield 15, 3) := by decide +kernel
theorem dX4_value_19 : decode cX4_value 19 = .ok (.iload 5, 2) := by decide +kernel
theorem dX4_value_21 : decode cX4_value 21 = .ok (.iaload, 1) := by decide +kernel
theorem dX4_value_22 : decode cX4_value 22 = .ok (.istore 6, 2) := by decide +kernel
theorem dX4_value_24 : decode cX4_value 24 = .ok (.iload 6, 2) := by decide +kernel
theorem dX4_value_26 : decode cX4_value 26 = .ok (.bipush (-3), 2) := by decide +kernel
theorem dX4_value_28 : decode cX4_value 28 = .ok (.if_icmp .lt 55, 3) := by decide +kernel
theorem dX4_value_31 : decode cX4_value 31 = .ok (.iload 4, 2) := by decide +kernel
theorem dX4_value_33 : decode cX4_value 33 = .ok (.bipush 50, 2) := by decide +kernel
theorem dX4_value_35 : decode cX4_value 35 = .ok (.if_icmp .ge 129, 3) := by decide +kernel
theorem dX4_value_38 : decode cX4_value 38 = .ok (.aload_n 0, 1) := by decide +kernel
theorem dX4_value_39 : decode cX4_value 39 = .ok (.getfield 19, 3) := by decide +kernel
theorem dX4_value_42 : decode cX4_value 42 = .ok (.iload 4, 2) := by decide +kernel
theorem dX4_value_44 : decode cX4_value 44 = .ok (.iload 6, 2) := by decide +kernel
theorem dX4_value_46 : decode cX4_value 46 = .ok (.ifCond .lt 8, 3) := by decide +kernel
theorem dX4_value_49 : decode cX4_value 49 = .ok (.iload 6, 2) := by decide +kernel
theorem dX4_value_51 : decode cX4_value 51 = .ok (.goto 25, 3) := by decide +kernel
theorem dX4_value_54 : decode cX4_value 54 = .ok (.iload 6, 2) := by decide +kernel
theorem dX4_value_56 : decode cX4_value 56 = .ok (.iconst (-1), 1) := by decide +kernel
theorem dX4_value_57 : decode cX4_value 57 = .ok (.if_icmp .ne 7, 3) := by decide +kernel
theorem dX4_value_60 : decode cX4_value 60 = .ok (.iload_n 1, 1) := by decide +kernel
theorem dX4_value_61 : decode cX4_value 61 = .ok (.goto 15, 3) := by decide +kernel
theorem dX4_value_64 : decode cX4_value 64 = .ok (.iload 6, 2) := by decide +kernel
theorem dX4_value_66 : decode cX4_value 66 = .ok (.bipush (-3), 2) := by decide +kernel
theorem dX4_value_68 : decode cX4_value 68 = .ok (.if_icmp .ne 7, 3) := by decide +kernel
theorem dX4_value_71 : decode cX4_value 71 = .ok (.iload_n 3, 1) := by decide +kernel
theorem dX4_value_72 : decode cX4_value 72 = .ok (.goto 4, 3) := by decide +kernel
theorem dX4_value_75 : decode cX4_value 75 = .ok (.iload_n 2, 1) := by decide +kernel
theorem dX4_value_76 : decode cX4_value 76 = .ok (.iastore, 1) := by decide +kernel
theorem dX4_value_77 : decode cX4_value 77 = .ok (.iinc 4 1, 3) := by decide +kernel
theorem dX4_value_80 : decode cX4_value 80 = .ok (.goto 84, 3) := by decide +kernel
theorem dX4_value_83 : decode cX4_value 83 = .ok (.iload 6, 2) := by decide +kernel
theorem dX4_value_85 : decode cX4_value 85 = .ok (.bipush (-33), 2) := by decide +kernel
theorem dX4_value_87 : decode cX4_value 87 = .ok (.if_icmp .ne 37, 3) := by decide +kernel
theorem dX4_value_90 : decode cX4_value 90 = .ok (.iload 4, 2) := by decide +kernel
theorem dX4_value_92 : decode cX4_value 92 = .ok (.ifCond .le 72, 3) := by decide +kernel
theorem dX4_value_95 : decode cX4_value 95 = .ok (.aload_n 0, 1) := by decide +kernel
theorem dX4_value_96 : decode cX4_value 96 = .ok (.getfield 19, 3) := by decide +kernel
theorem dX4_value_99 : decode cX4_value 99 = .ok (.iload 4, 2) := by decide +kernel
theorem dX4_value_101 : decode cX4_value 101 = .ok (.iconst 1, 1) := by decide +kernel
theorem dX4_value_102 : decode cX4_value 102 = .ok (.isub, 1) := by decide +kernel
theorem dX4_value_103 : decode cX4_value 103 = .ok (.aload_n 0, 1) := by decide +kernel
theorem dX4_value_104 : decode cX4_value 104 = .ok (.getfield 19, 3) := by decide +kernel
theorem dX4_value_107 : decode cX4_value 107 = .ok (.iload 4, 2) := by decide +kernel
theorem dX4_value_109 : decode cX4_value 109 = .ok (.iconst 1, 1) := by decide +kernel
theorem dX4_value_110 : decode cX4_value 110 = .ok (.isub, 1) := by decide +kernel
theorem dX4_value_111 : decode cX4_value 111 = .ok (.iaload, 1) := by decide +kernel
theorem dX4_value_112 : decode cX4_value 112 = .ok (.ifCond .ne 7, 3) := by decide +kernel
theorem dX4_value_115 : decode cX4_value 115 = .ok (.iconst 1, 1) := by decide +kernel
theorem dX4_value_116 : decode cX4_value 116 = .ok (.goto 4, 3) := by decide +kernel
theorem dX4_value_119 : decode cX4_value 119 = .ok (.iconst 0, 1) := by decide +kernel
theorem dX4_value_120 : decode cX4_value 120 = .ok (.iastore, 1) := by decide +kernel
theorem dX4_value_121 : decode cX4_value 121 = .ok (.goto 43, 3) := by decide +kernel
theorem dX4_value_124 : decode cX4_value 124 = .ok (.iload 4, 2) := by decide +kernel
theorem dX4_value_126 : decode cX4_value 126 = .ok (.iconst 1, 1) := by decide +kernel
theorem dX4_value_127 : decode cX4_value 127 = .ok (.if_icmp .le 37, 3) := by decide +kernel
theorem dX4_value_130 : decode cX4_value 130 = .ok (.iinc 4 (-1), 3) := by decide +kernel
theorem dX4_value_133 : decode cX4_value 133 = .ok (.aload_n 0, 1) := by decide +kernel
theorem dX4_value_134 : decode cX4_value 134 = .ok (.getfield 19, 3) := by decide +kernel
theorem dX4_value_137 : decode cX4_value 137 = .ok (.iload 4, 2) := by decide +kernel
theorem dX4_value_139 : decode cX4_value 139 = .ok (.iconst 1, 1) := by decide +kernel
theorem dX4_value_140 : decode cX4_value 140 = .ok (.isub, 1) := by decide +kernel
theorem dX4_value_141 : decode cX4_value 141 = .ok (.iload 6, 2) := by decide +kernel
theorem dX4_value_143 : decode cX4_value 143 = .ok (.ineg, 1) := by decide +kernel
theorem dX4_value_144 : decode cX4_value 144 = .ok (.aload_n 0, 1) := by decide +kernel
theorem dX4_value_145 : decode cX4_value 145 = .ok (.getfield 19, 3) := by decide +kernel
theorem dX4_value_148 : decode cX4_value 148 = .ok (.iload 4, 2) := by decide +kernel
theorem dX4_value_150 : decode cX4_value 150 = .ok (.iconst 1, 1) := by decide +kernel
theorem dX4_value_151 : decode cX4_value 151 = .ok (.isub, 1) := by decide +kernel
theorem dX4_value_152 : decode cX4_value 152 = .ok (.iaload, 1) := by decide +kernel
theorem dX4_value_153 : decode cX4_value 153 = .ok (.aload_n 0, 1) := by decide +kernel
theorem dX4_value_154 : decode cX4_value 154 = .ok (.getfield 19, 3) := by decide +kernel
theorem dX4_value_157 : decode cX4_value 157 = .ok (.iload 4, 2) := by decide +kernel
theorem dX4_value_159 : decode cX4_value 159 = .ok (.iaload, 1) := by decide +kernel
theorem dX4_value_160 : decode cX4_value 160 = .ok (.invokestatic 28, 3) := by decide +kernel
theorem dX4_value_163 : decode cX4_value 163 = .ok (.iastore, 1) := by decide +kernel
theorem dX4_value_164 : decode cX4_value 164 = .ok (.iinc 5 1, 3) := by decide +kernel
theorem dX4_value_167 : decode cX4_value 167 = .ok (.goto (-161), 3) := by decide +kernel
theorem dX4_value_170 : decode cX4_value 170 = .ok (.iload 4, 2) := by decide +kernel
theorem dX4_value_172 : decode cX4_value 172 = .ok (.ifCond .le 12, 3) := by decide +kernel
theorem dX4_value_175 : decode cX4_value 175 = .ok (.aload_n 0, 1) := by decide +kernel
theorem dX4_value_176 : decode cX4_value 176 = .ok (.getfield 19, 3) := by decide +kernel
theorem dX4_value_179 : decode cX4_value 179 = .ok (.iconst 0, 1) := by decide +kernel
theorem dX4_value_180 : decode cX4_value 180 = .ok (.iaload, 1) := by decide +kernel
theorem dX4_value_181 : decode cX4_value 181 = .ok (.goto 4, 3) := by decide +kernel
theorem dX4_value_184 : decode cX4_value 184 = .ok (.iconst 0, 1) := by decide +kernel
theorem dX4_value_185 : decode cX4_value 185 = .ok (.ireturn, 1) := by decide +kernel
theorem dX4_joined_0 : decode cX4_joined 0 = .ok (.iload_n 0, 1) := by decide +kernel
theorem dX4_joined_1 : decode cX4_joined 1 = .ok (.lookupswitch 168 #[(38, 97), (42, 152), (43, 144), (45, 148), (47, 156), (60, 111), (61, 122), (62, 133), (124, 83)], 83) := by decide +kernel
theorem dX4_joined_84 : decode cX4_joined 84 = .ok (.iload_n 1, 1) := by decide +kernel
theorem dX4_joined_85 : decode cX4_joined 85 = .ok (.ifCond .ne 7, 3) := by decide +kernel
theorem dX4_joined_88 : decode cX4_joined 88 = .ok (.iload_n 2, 1) := by decide +kernel
theorem dX4_joined_89 : decode cX4_joined 89 = .ok (.ifCond .eq 7, 3) := by decide +kernel
theorem dX4_joined_92 : decode cX4_joined 92 = .ok (.iconst 1, 1) := by decide +kernel
theorem dX4_joined_93 : decode cX4_joined 93 = .ok (.goto 4, 3) := by decide +kernel
theorem dX4_joined_96 : decode cX4_joined 96 = .ok (.iconst 0, 1) := by decide +kernel
theorem dX4_joined_97 : decode cX4_joined 97 = .ok (.ireturn, 1) := by decide +kernel
theorem dX4_joined_98 : decode cX4_joined 98 = .ok (.iload_n 1, 1) := by decide +kernel
theorem dX4_joined_99 : decode cX4_joined 99 = .ok (.ifCond .eq 11, 3) := by decide +kernel
theorem dX4_joined_102 : decode cX4_joined 102 = .ok (.iload_n 2, 1) := by decide +kernel
theorem dX4_joined_103 : decode cX4_joined 103 = .ok (.ifCond .eq 7, 3) := by decide +kernel
theorem dX4_joined_106 : decode cX4_joined 106 = .ok (.iconst 1, 1) := by decide +kernel
theorem dX4_joined_107 : decode cX4_joined 107 = .ok (.goto 4, 3) := by decide +kernel
theorem dX4_joined_110 : decode cX4_joined 110 = .ok (.iconst 0, 1) := by decide +kernel
theorem dX4_joined_111 : decode cX4_joined 111 = .ok (.ireturn, 1) := by decide +kernel
theorem dX4_joined_112 : decode cX4_joined 112 = .ok (.iload_n 1, 1) := by decide +kernel
theorem dX4_joined_113 : decode cX4_joined 113 = .ok (.iload_n 2, 1) := by decide +kernel
theorem dX4_joined_114 : decode cX4_joined 114 = .ok (.if_icmp .ge 7, 3) := by decide +kernel
theorem dX4_joined_117 : decode cX4_joined 117 = .ok (.iconst 1, 1) := by decide +kernel
theorem dX4_joined_118 : decode cX4_joined 118 = .ok (.goto 4, 3) := by decide +kernel
theorem dX4_joined_121 : decode cX4_joined 121 = .ok (.iconst 0, 1) := by decide +kernel
theorem dX4_joined_122 : decode cX4_joined 122 = .ok (.ireturn, 1) := by decide +kernel
theorem dX4_joined_123 : decode cX4_joined 123 = .ok (.iload_n 1, 1) := by decide +kernel
theorem dX4_joined_124 : decode cX4_joined 124 = .ok (.iload_n 2, 1) := by decide +kernel
theorem dX4_joined_125 : decode cX4_joined 125 = .ok (.if_icmp .ne 7, 3) := by decide +kernel
theorem dX4_joined_128 : decode cX4_joined 128 = .ok (.iconst 1, 1) := by decide +kernel
theorem dX4_joined_129 : decode cX4_joined 129 = .ok (.goto 4, 3) := by decide +kernel
theorem dX4_joined_132 : decode cX4_joined 132 = .ok (.iconst 0, 1) := by decide +kernel
theorem dX4_joined_133 : decode cX4_joined 133 = .ok (.ireturn, 1) := by decide +kernel
theorem dX4_joined_134 : decode cX4_joined 134 = .ok (.iload_n 1, 1) := by decide +kernel
theorem dX4_joined_135 : decode cX4_joined 135 = .ok (.iload_n 2, 1) := by decide +kernel
theorem dX4_joined_136 : decode cX4_joined 136 = .ok (.if_icmp .le 7, 3) := by decide +kernel
theorem dX4_joined_139 : decode cX4_joined 139 = .ok (.iconst 1, 1) := by decide +kernel
theorem dX4_joined_140 : decode cX4_joined 140 = .ok (.goto 4, 3) := by decide +kernel
theorem dX4_joined_143 : decode cX4_joined 143 = .ok (.iconst 0, 1) := by decide +kernel
theorem dX4_joined_144 : decode cX4_joined 144 = .ok (.ireturn, 1) := by decide +kernel
theorem dX4_joined_145 : decode cX4_joined 145 = .ok (.iload_n 1, 1) := by decide +kernel
theorem dX4_joined_146 : decode cX4_joined 146 = .ok (.iload_n 2, 1) := by decide +kernel
theorem dX4_joined_147 : decode cX4_joined 147 = .ok (.iadd, 1) := by decide +kernel
theorem dX4_joined_148 : decode cX4_joined 148 = .ok (.ireturn, 1) := by decide +kernel
theorem dX4_joined_149 : decode cX4_joined 149 = .ok (.iload_n 1, 1) := by decide +kernel
theorem dX4_joined_150 : decode cX4_joined 150 = .ok (.iload_n 2, 1) := by decide +kernel
theorem dX4_joined_151 : decode cX4_joined 151 = .ok (.isub, 1) := by decide +kernel
theorem dX4_joined_152 : decode cX4_joined 152 = .ok (.ireturn, 1) := by decide +kernel
theorem dX4_joined_153 : decode cX4_joined 153 = .ok (.iload_n 1, 1) := by decide +kernel
theorem dX4_joined_154 : decode cX4_joined 154 = .ok (.iload_n 2, 1) := by decide +kernel
theorem dX4_joined_155 : decode cX4_joined 155 = .ok (.imul, 1) := by decide +kernel
theorem dX4_joined_156 : decode cX4_joined 156 = .ok (.ireturn, 1) := by decide +kernel
theorem dX4_joined_157 : decode cX4_joined 157 = .ok (.iload_n 2, 1) := by decide +kernel
theorem dX4_joined_158 : decode cX4_joined 158 = .ok (.ifCond .ne 7, 3) := by decide +kernel
theorem dX4_joined_161 : decode cX4_joined 161 = .ok (.iconst 0, 1) := by decide +kernel
theorem dX4_joined_162 : decode cX4_joined 162 = .ok (.goto 6, 3) := by decide +kernel
theorem dX4_joined_165 : decode cX4_joined 165 = .ok (.iload_n 1, 1) := by decide +kernel
theorem dX4_joined_166 : decode cX4_joined 166 = .ok (.iload_n 2, 1) := by decide +kernel
theorem dX4_joined_167 : decode cX4_joined 167 = .ok (.idiv, 1) := by decide +kernel
theorem dX4_joined_168 : decode cX4_joined 168 = .ok (.ireturn, 1) := by decide +kernel
theorem dX4_joined_169 : decode cX4_joined 169 = .ok (.iload_n 2, 1) := by decide +kernel
theorem dX4_joined_170 : decode cX4_joined 170 = .ok (.ifCond .ne 7, 3) := by decide +kernel
theorem dX4_joined_173 : decode cX4_joined 173 = .ok (.iconst 0, 1) := by decide +kernel
theorem dX4_joined_174 : decode cX4_joined 174 = .ok (.goto 6, 3) := by decide +kernel
theorem dX4_joined_177 : decode cX4_joined 177 = .ok (.iload_n 1, 1) := by decide +kernel
theorem dX4_joined_178 : decode cX4_joined 178 = .ok (.iload_n 2, 1) := by decide +kernel
theorem dX4_joined_179 : decode cX4_joined 179 = .ok (.irem, 1) := by decide +kernel
theorem dX4_joined_180 : decode cX4_joined 180 = .ok (.ireturn, 1) := by decide +kernel
theorem dX5_init_0 : decode cX5_init 0 = .ok (.aload_n 0, 1) := by decide +kernel
theorem dX5_init_1 : decode cX5_init 1 = .ok (.invokespecial 3, 3) := by decide +kernel
theorem dX5_init_4 : decode cX5_init 4 = .ok (.aload_n 0, 1) := by decide +kernel
theorem dX5_init_5 : decode cX5_init 5 = .ok (.bipush 50, 2) := by decide +kernel
theorem dX5_init_7 : decode cX5_init 7 = .ok (.newarray .int, 2) := by decide +kernel
theorem dX5_init_9 : decode cX5_init 9 = .ok (.putfield 9, 3) := by decide +kernel
theorem dX5_init_12 : decode cX5_init 12 = .ok (.aload_n 0, 1) := by decide +kernel
theorem dX5_init_13 : decode cX5_init 13 = .ok (.iconst 0, 1) := by decide +kernel
theorem dX5_init_14 : decode cX5_init 14 = .ok (.putfield 15, 3) := by decide +kernel
theorem dX5_init_17 : decode cX5_init 17 = .ok (.aload_n 0, 1) := by decide +kernel
theorem dX5_init_18 : decode cX5_init 18 = .ok (.iconst 0, 1) := by decide +kernel
theorem dX5_init_19 : decode cX5_init 19 = .ok (.putfield 19, 3) := by decide +kernel
theorem dX5_init_22 : decode cX5_init 22 = .ok (.aload_n 0, 1) := by decide +kernel
theorem dX5_init_23 : decode cX5_init 23 = .ok (.iconst 0, 1) := by decide +kernel
theorem dX5_init_24 : decode cX5_init 24 = .ok (.putfield 22, 3) := by decide +kernel
theorem dX5_init_27 : decode cX5_init 27 = .ok (.aload_n 0, 1) := by decide +kernel
theorem dX5_init_28 : decode cX5_init 28 = .ok (.new 25, 3) := by decide +kernel
theorem dX5_init_31 : decode cX5_init 31 = .ok (.dup, 1) := by decide +kernel
theorem dX5_init_32 : decode cX5_init 32 = .ok (.invokespecial 27, 3) := by decide +kernel
theorem dX5_init_35 : decode cX5_init 35 = .ok (.putfield 28, 3) := by decide +kernel
theorem dX5_init_38 : decode cX5_init 38 = .ok (.return_, 1) := by decide +kernel
theorem dX5_faultOf_0 : decode cX5_faultOf 0 = .ok (.aload_n 1, 1) := by decide +kernel
theorem dX5_faultOf_1 : decode cX5_faultOf 1 = .ok (.iconst 0, 1) := by decide +kernel
theorem dX5_faultOf_2 : decode cX5_faultOf 2 = .ok (.aload_n 0, 1) := by decide +kernel
theorem dX5_faultOf_3 : decode cX5_faultOf 3 = .ok (.getfield 9, 3) := by decide +kernel
theorem dX5_faultOf_6 : decode cX5_faultOf 6 = .ok (.iconst 0, 1) := by decide +kernel
theorem dX5_faultOf_7 : decode cX5_faultOf 7 = .ok (.bipush 50, 2) := by decide +kernel
theorem dX5_faultOf_9 : decode cX5_faultOf 9 = .ok (.invokestatic 32, 3) := by decide +kernel
theorem dX5_faultOf_12 : decode cX5_faultOf 12 = .ok (.aload_n 0, 1) := by decide +kernel
theorem dX5_faultOf_13 : decode cX5_faultOf 13 = .ok (.iload_n 2, 1) := by decide +kernel
theorem dX5_faultOf_14 : decode cX5_faultOf 14 = .ok (.putfield 15, 3) := by decide +kernel
theorem dX5_faultOf_17 : decode cX5_faultOf 17 = .ok (.aload_n 0, 1) := by decide +kernel
theorem dX5_faultOf_18 : decode cX5_faultOf 18 = .ok (.iload_n 3, 1) := by decide +kernel
theorem dX5_faultOf_19 : decode cX5_faultOf 19 = .ok (.putfield 19, 3) := by decide +kernel
theorem dX5_faultOf_22 : decode cX5_faultOf 22 = .ok (.aload_n 0, 1) := by decide +kernel
theorem dX5_faultOf_23 : decode cX5_faultOf 23 = .ok (.iconst 0, 1) := by decide +kernel
theorem dX5_faultOf_24 : decode cX5_faultOf 24 = .ok (.putfield 22, 3) := by decide +kernel
theorem dX5_faultOf_27 : decode cX5_faultOf 27 = .ok (.aload_n 0, 1) := by decide +kernel
theorem dX5_faultOf_28 : decode cX5_faultOf 28 = .ok (.getfield 28, 3) := by decide +kernel
theorem dX5_faultOf_31 : decode cX5_faultOf 31 = .ok (.iconst 0, 1) := by decide +kernel
theorem dX5_faultOf_32 : decode cX5_faultOf 32 = .ok (.putfield 38, 3) := by decide +kernel
theorem dX5_faultOf_35 : decode cX5_faultOf 35 = .ok (.aload_n 0, 1) := by decide +kernel
theorem dX5_faultOf_36 : decode cX5_faultOf 36 = .ok (.iconst 0, 1) := by decide +kernel
theorem dX5_faultOf_37 : decode cX5_faultOf 37 = .ok (.invokevirtual 39, 3) := by decide +kernel
theorem dX5_faultOf_40 : decode cX5_faultOf 40 = .ok (.ifCond .eq 18, 3) := by decide +kernel
theorem dX5_faultOf_43 : decode cX5_faultOf 43 = .ok (.aload_n 0, 1) := by decide +kernel
theorem dX5_faultOf_44 : decode cX5_faultOf 44 = .ok (.getfield 22, 3) := by decide +kernel
theorem dX5_faultOf_47 : decode cX5_faultOf 47 = .ok (.aload_n 0, 1) := by decide +kernel
theorem dX5_faultOf_48 : decode cX5_faultOf 48 = .ok (.getfield 15, 3) := by decide +kernel
theorem dX5_faultOf_51 : decode cX5_faultOf 51 = .ok (.if_icmp .ne 7, 3) := by decide +kernel
theorem dX5_faultOf_54 : decode cX5_faultOf 54 = .ok (.iconst 1, 1) := by decide +kernel
theorem dX5_faultOf_55 : decode cX5_faultOf 55 = .ok (.goto 4, 3) := by decide +kernel
theorem dX5_faultOf_58 : decode cX5_faultOf 58 = .ok (.iconst 0, 1) := by decide +kernel
theorem dX5_faultOf_59 : decode cX5_faultOf 59 = .ok (.istore 4, 2) := by decide +kernel
theorem dX5_faultOf_61 : decode cX5_faultOf 61 = .ok (.iload 4, 2) := by decide +kernel
theorem dX5_faultOf_63 : decode cX5_faultOf 63 = .ok (.ifCond .eq 7, 3) := by decide +kernel
theorem dX5_faultOf_66 : decode cX5_faultOf 66 = .ok (.iconst (-1), 1) := by decide +kernel
theorem dX5_faultOf_67 : decode cX5_faultOf 67 = .ok (.goto 7, 3) := by decide +kernel
theorem dX5_faultOf_70 : decode cX5_faultOf 70 = .ok (.aload_n 0, 1) := by decide +kernel
theorem dX5_faultOf_71 : decode cX5_faultOf 71 = .ok (.getfield 22, 3) := by decide +kernel
theorem dX5_faultOf_74 : decode cX5_faultOf 74 = .ok (.ireturn, 1) := by decide +kernel
theorem dX5_readEither_0 : decode cX5_readEither 0 = .ok (.aload_n 0, 1) := by decide +kernel
theorem dX5_readEither_1 : decode cX5_readEither 1 = .ok (.iload_n 1, 1) := by decide +kernel
theorem dX5_readEither_2 : decode cX5_readEither 2 = .ok (.invokevirtual 43, 3) := by decide +kernel
theorem dX5_readEither_5 : decode cX5_readEither 5 = .ok (.ifCond .ne 5, 3) := by decide +kernel
theorem dX5_readEither_8 : decode cX5_readEither 8 = .ok (.iconst 0, 1) := by decide +kernel
theorem dX5_readEither_9 : decode cX5_readEither 9 = .ok (.ireturn, 1) := by decide +kernel
theorem dX5_readEither_10 : decode cX5_readEither 10 = .ok (.aload_n 0, 1) := by decide +kernel
theorem dX5_readEither_11 : decode cX5_readEither 11 = .ok (.getfield 22, 3) := by decide +kernel
theorem dX5_readEither_14 : decode cX5_readEither 14 = .ok (.aload_n 0, 1) := by decide +kernel
theorem dX5_readEither_15 : decode cX5_readEither 15 = .ok (.getfield 15, 3) := by decide +kernel
theorem dX5_readEither_18 : decode cX5_readEither 18 = .ok (.if_icmp .ge 49, 3) := by decide +kernel
theorem dX5_readEither_21 : decode cX5_readEither 21 = .ok (.aload_n 0, 1) := by decide +kernel
theorem dX5_readEither_22 : decode cX5_readEither 22 = .ok (.getfield 9, 3) := by decide +kernel
theorem dX5_readEither_25 : decode cX5_readEither 25 = .ok (.aload_n 0, 1) := by decide +kernel
theorem dX5_readEither_26 : decode cX5_readEither 26 = .ok (.getfield 22, 3) := by decide +kernel
theorem dX5_readEither_29 : decode cX5_readEither 29 = .ok (.iaload, 1) := by decide +kernel
theorem dX5_readEither_30 : decode cX5_readEither 30 = .ok (.bipush 124, 2) := by decide +kernel
theorem dX5_readEither_32 : decode cX5_readEither 32 = .ok (.if_icmp .ne 35, 3) := by decide +kernel
theorem dX5_readEither_35 : decode cX5_readEither 35 = .ok (.aload_n 0, 1) := by decide +kernel
theorem dX5_readEither_36 : decode cX5_readEither 36 = .ok (.dup, 1) := by decide +kernel
theorem dX5_readEither_37 : decode cX5_readEither 37 = .ok (.getfield 22, 3) := by decide +kernel
theorem dX5_readEither_40 : decode cX5_readEither 40 = .ok (.iconst 1, 1) := by decide +kernel
theorem dX5_readEither_41 : decode cX5_readEither 41 = .ok (.iadd, 1) := by decide +kernel
theorem dX5_readEither_42 : decode cX5_readEither 42 = .ok (.putfield 22, 3) := by decide +kernel
theorem dX5_readEither_45 : decode cX5_readEither 45 = .ok (.aload_n 0, 1) := by decide +kernel
theorem dX5_readEither_46 : decode cX5_readEither 46 = .ok (.iload_n 1, 1) := by decide +kernel
theorem dX5_readEither_47 : decode cX5_readEither 47 = .ok (.invokevirtual 43, 3) := by decide +kernel
theorem dX5_readEither_50 : decode cX5_readEither 50 = .ok (.ifCond .ne 5, 3) := by decide +kernel
theorem dX5_readEither_53 : decode cX5_readEither 53 = .ok (.iconst 0, 1) := by decide +kernel
theorem dX5_readEither_54 : decode cX5_readEither 54 = .ok (.ireturn, 1) := by decide +kernel
theorem dX5_readEither_55 : decode cX5_readEither 55 = .ok (.aload_n 0, 1) := by decide +kernel
theorem dX5_readEither_56 : decode cX5_readEither 56 = .ok (.getfield 28, 3) := by decide +kernel
theorem dX5_readEither_59 : decode cX5_readEither 59 = .ok (.bipush (-124), 2) := by decide +kernel
theorem dX5_readEither_61 : decode cX5_readEither 61 = .ok (.invokevirtual 46, 3) := by decide +kernel
theorem dX5_readEither_64 : decode cX5_readEither 64 = .ok (.goto (-54), 3) := by decide +kernel
theorem dX5_readEither_67 : decode cX5_readEither 67 = .ok (.iconst 1, 1) := by decide +kernel
theorem dX5_readEither_68 : decode cX5_readEither 68 = .ok (.ireturn, 1) := by decide +kernel
theorem dX5_readBoth_0 : decode cX5_readBoth 0 = .ok (.aload_n 0, 1) := by decide +kernel
theorem dX5_readBoth_1 : decode cX5_readBoth 1 = .ok (.iload_n 1, 1) := by decide +kernel
theorem dX5_readBoth_2 : decode cX5_readBoth 2 = .ok (.invokevirtual 50, 3) := by decide +kernel
theorem dX5_readBoth_5 : decode cX5_readBoth 5 = .ok (.ifCond .ne 5, 3) := by decide +kernel
theorem dX5_readBoth_8 : decode cX5_readBoth 8 = .ok (.iconst 0, 1) := by decide +kernel
theorem dX5_readBoth_9 : decode cX5_readBoth 9 = .ok (.ireturn, 1) := by decide +kernel
theorem dX5_readBoth_10 : decode cX5_readBoth 10 = .ok (.aload_n 0, 1) := by decide +kernel
theorem dX5_readBoth_11 : decode cX5_readBoth 11 = .ok (.getfield 22, 3) := by decide +kernel
theorem dX5_readBoth_14 : decode cX5_readBoth 14 = .ok (.aload_n 0, 1) := by decide +kernel
theorem dX5_readBoth_15 : decode cX5_readBoth 15 = .ok (.getfield 15, 3) := by decide +kernel
theorem dX5_readBoth_18 : decode cX5_readBoth 18 = .ok (.if_icmp .ge 49, 3) := by decide +kernel
theorem dX5_readBoth_21 : decode cX5_readBoth 21 = .ok (.aload_n 0, 1) := by decide +kernel
theorem dX5_readBoth_22 : decode cX5_readBoth 22 = .ok (.getfield 9, 3) := by decide +kernel
theorem dX5_readBoth_25 : decode cX5_readBoth 25 = .ok (.aload_n 0, 1) := by decide +kernel
theorem dX5_readBoth_26 : decode cX5_readBoth 26 = .ok (.getfield 22, 3) := by decide +kernel
theorem dX5_readBoth_29 : decode cX5_readBoth 29 = .ok (.iaload, 1) := by decide +kernel
theorem dX5_readBoth_30 : decode cX5_readBoth 30 = .ok (.bipush 38, 2) := by decide +kernel
theorem dX5_readBoth_32 : decode cX5_readBoth 32 = .ok (.if_icmp .ne 35, 3) := by decide +kernel
theorem dX5_readBoth_35 : decode cX5_readBoth 35 = .ok (.aload_n 0, 1) := by decide +kernel
theorem dX5_readBoth_36 : decode cX5_readBoth 36 = .ok (.dup, 1) := by decide +kernel
theorem dX5_readBoth_37 : decode cX5_readBoth 37 = .ok (.getfield 22, 3) := by decide +kernel
theorem dX5_readBoth_40 : decode cX5_readBoth 40 = .ok (.iconst 1, 1) := by decide +kernel
theorem dX5_readBoth_41 : decode cX5_readBoth 41 = .ok (.iadd, 1) := by decide +kernel
theorem dX5_readBoth_42 : decode cX5_readBoth 42 = .ok (.putfield 22, 3) := by decide +kernel
theorem dX5_readBoth_45 : decode cX5_readBoth 45 = .ok (.aload_n 0, 1) := by decide +kernel
theorem dX5_readBoth_46 : decode cX5_readBoth 46 = .ok (.iload_n 1, 1) := by decide +kernel
theorem dX5_readBoth_47 : decode cX5_readBoth 47 = .ok (.invokevirtual 50, 3) := by decide +kernel
theorem dX5_readBoth_50 : decode cX5_readBoth 50 = .ok (.ifCond .ne 5, 3) := by decide +kernel
theorem dX5_readBoth_53 : decode cX5_readBoth 53 = .ok (.iconst 0, 1) := by decide +kernel
theorem dX5_readBoth_54 : decode cX5_readBoth 54 = .ok (.ireturn, 1) := by decide +kernel
theorem dX5_readBoth_55 : decode cX5_readBoth 55 = .ok (.aload_n 0, 1) := by decide +kernel
theorem dX5_readBoth_56 : decode cX5_readBoth 56 = .ok (.getfield 28, 3) := by decide +kernel
theorem dX5_readBoth_59 : decode cX5_readBoth 59 = .ok (.bipush (-38), 2) := by decide +kernel
theorem dX5_readBoth_61 : decode cX5_readBoth 61 = .ok (.invokevirtual 46, 3) := by decide +kernel
theorem dX5_readBoth_64 : decode cX5_readBoth 64 = .ok (.goto (-54), 3) := by decide +kernel
theorem dX5_readBoth_67 : decode cX5_readBoth 67 = .ok (.iconst 1, 1) := by decide +kernel
theorem dX5_readBoth_68 : decode cX5_readBoth 68 = .ok (.ireturn, 1) := by decide +kernel
theorem dX5_readCompared_0 : decode cX5_readCompared 0 = .ok (.aload_n 0, 1) := by decide +kernel
theorem dX5_readCompared_1 : decode cX5_readCompared 1 = .ok (.iload_n 1, 1) := by decide +kernel
theorem dX5_readCompared_2 : decode cX5_readCompared 2 = .ok (.invokevirtual 53, 3) := by decide +kernel
theorem dX5_readCompared_5 : decode cX5_readCompared 5 = .ok (.ifCond .ne 5, 3) := by decide +kernel
theorem dX5_readCompared_8 : decode cX5_readCompared 8 = .ok (.iconst 0, 1) := by decide +kernel
theorem dX5_readCompared_9 : decode cX5_readCompared 9 = .ok (.ireturn, 1) := by decide +kernel
theorem dX5_readCompared_10 : decode cX5_readCompared 10 = .ok (.aload_n 0, 1) := by decide +kernel
theorem dX5_readCompared_11 : decode cX5_readCompared 11 = .ok (.invokevirtual 56, 3) := by decide +kernel
theorem dX5_readCompared_14 : decode cX5_readCompared 14 = .ok (.istore_n 2, 1) := by decide +kernel
theorem dX5_readCompared_15 : decode cX5_readCompared 15 = .ok (.iload_n 2, 1) := by decide +kernel
theorem dX5_readCompared_16 : decode cX5_readCompared 16 = .ok (.bipush 60, 2) := by decide +kernel
theorem dX5_readCompared_18 : decode cX5_readCompared 18 = .ok (.if_icmp .eq 17, 3) := by decide +kernel
theorem dX5_readCompared_21 : decode cX5_readCompared 21 = .ok (.iload_n 2, 1) := by decide +kernel
theorem dX5_readCompared_22 : decode cX5_readCompared 22 = .ok (.bipush 61, 2) := by decide +kernel
theorem dX5_readCompared_24 : decode cX5_readCompared 24 = .ok (.if_icmp .eq 11, 3) := by decide +kernel
theorem dX5_readCompared_27 : decode cX5_readCompared 27 = .ok (.iload_n 2, 1) := by decide +kernel
theorem dX5_readCompared_28 : decode cX5_readCompared 28 = .ok (.bipush 62, 2) := by decide +kernel
theorem dX5_readCompared_30 : decode cX5_readCompared 30 = .ok (.if_icmp .eq 5, 3) := by decide +kernel
theorem dX5_readCompared_33 : decode cX5_readCompared 33 = .ok (.iconst 1, 1) := by decide +kernel
theorem dX5_readCompared_34 : decode cX5_readCompared 34 = .ok (.ireturn, 1) := by decide +kernel
theorem dX5_readCompared_35 : decode cX5_readCompared 35 = .ok (.aload_n 0, 1) := by decide +kernel
theorem dX5_readCompared_36 : decode cX5_readCompared 36 = .ok (.dup, 1) := by decide +kernel
theorem dX5_readCompared_37 : decode cX5_readCompared 37 = .ok (.getfield 22, 3) := by decide +kernel
theorem dX5_readCompared_40 : decode cX5_readCompared 40 = .ok (.iconst 1, 1) := by decide +kernel
theorem dX5_readCompared_41 : decode cX5_readCompared 41 = .ok (.iadd, 1) := by decide +kernel
theorem dX5_readCompared_42 : decode cX5_readCompared 42 = .ok (.putfield 22, 3) := by decide +kernel
theorem dX5_readCompared_45 : decode cX5_readCompared 45 = .ok (.aload_n 0, 1) := by decide +kernel
theorem dX5_readCompared_46 : decode cX5_readCompared 46 = .ok (.iload_n 1, 1) := by decide +kernel
theorem dX5_readCompared_47 : decode cX5_readCompared 47 = .ok (.invokevirtual 53, 3) := by decide +kernel
theorem dX5_readCompared_50 : decode cX5_readCompared 50 = .ok (.ifCond .ne 5, 3) := by decide +kernel
theorem dX5_readCompared_53 : decode cX5_readCompared 53 = .ok (.iconst 0, 1) := by decide +kernel
theorem dX5_readCompared_54 : decode cX5_readCompared 54 = .ok (.ireturn, 1) := by decide +kernel
theorem dX5_readCompared_55 : decode cX5_readCompared 55 = .ok (.aload_n 0, 1) := by decide +kernel
theorem dX5_readCompared_56 : decode cX5_readCompared 56 = .ok (.getfield 28, 3) := by decide +kernel
theorem dX5_readCompared_59 : decode cX5_readCompared 59 = .ok (.iload_n 2, 1) := by decide +kernel
theorem dX5_readCompared_60 : decode cX5_readCompared 60 = .ok (.ineg, 1) := by decide +kernel
theorem dX5_readCompared_61 : decode cX5_readCompared 61 = .ok (.invokevirtual 46, 3) := by decide +kernel
theorem dX5_readCompared_64 : decode cX5_readCompared 64 = .ok (.iconst 1, 1) := by decide +kernel
theorem dX5_readCompared_65 : decode cX5_readCompared 65 = .ok (.ireturn, 1) := by decide +kernel
theorem dX5_readSum_0 : decode cX5_readSum 0 = .ok (.aload_n 0, 1) := by decide +kernel
theorem dX5_readSum_1 : decode cX5_readSum 1 = .ok (.iload_n 1, 1) := by decide +kernel
theorem dX5_readSum_2 : decode cX5_readSum 2 = .ok (.invokevirtual 60, 3) := by decide +kernel
theorem dX5_readSum_5 : decode cX5_readSum 5 = .ok (.ifCond .ne 5, 3) := by decide +kernel
theorem dX5_readSum_8 : decode cX5_readSum 8 = .ok (.iconst 0, 1) := by decide +kernel
theorem dX5_readSum_9 : decode cX5_readSum 9 = .ok (.ireturn, 1) := by decide +kernel
theorem dX5_readSum_10 : decode cX5_readSum 10 = .ok (.aload_n 0, 1) := by decide +kernel
theorem dX5_readSum_11 : decode cX5_readSum 11 = .ok (.getfield 22, 3) := by decide +kernel
theorem dX5_readSum_14 : decode cX5_readSum 14 = .ok (.aload_n 0, 1) := by decide +kernel
theorem dX5_readSum_15 : decode cX5_readSum 15 = .ok (.getfield 15, 3) := by decide +kernel
theorem dX5_readSum_18 : decode cX5_readSum 18 = .ok (.if_icmp .ge 73, 3) := by decide +kernel
theorem dX5_readSum_21 : decode cX5_readSum 21 = .ok (.aload_n 0, 1) := by decide +kernel
theorem dX5_readSum_22 : decode cX5_readSum 22 = .ok (.getfield 9, 3) := by decide +kernel
theorem dX5_readSum_25 : decode cX5_readSum 25 = .ok (.aload_n 0, 1) := by decide +kernel
theorem dX5_readSum_26 : decode cX5_readSum 26 = .ok (.getfield 22, 3) := by decide +kernel
theorem dX5_readSum_29 : decode cX5_readSum 29 = .ok (.iaload, 1) := by decide +kernel
theorem dX5_readSum_30 : decode cX5_readSum 30 = .ok (.bipush 43, 2) := by decide +kernel
theorem dX5_readSum_32 : decode cX5_readSum 32 = .ok (.if_icmp .eq 17, 3) := by decide +kernel
theorem dX5_readSum_35 : decode cX5_readSum 35 = .ok (.aload_n 0, 1) := by decide +kernel
theorem dX5_readSum_36 : decode cX5_readSum 36 = .ok (.getfield 9, 3) := by decide +kernel
theorem dX5_readSum_39 : decode cX5_readSum 39 = .ok (.aload_n 0, 1) := by decide +kernel
theorem dX5_readSum_40 : decode cX5_readSum 40 = .ok (.getfield 22, 3) := by decide +kernel
theorem dX5_readSum_43 : decode cX5_readSum 43 = .ok (.iaload, 1) := by decide +kernel
theorem dX5_readSum_44 : decode cX5_readSum 44 = .ok (.bipush 45, 2) := by decide +kernel
theorem dX5_readSum_46 : decode cX5_readSum 46 = .ok (.if_icmp .ne 45, 3) := by decide +kernel
theorem dX5_readSum_49 : decode cX5_readSum 49 = .ok (.aload_n 0, 1) := by decide +kernel
theorem dX5_readSum_50 : decode cX5_readSum 50 = .ok (.getfield 9, 3) := by decide +kernel
theorem dX5_readSum_53 : decode cX5_readSum 53 = .ok (.aload_n 0, 1) := by decide +kernel
theorem dX5_readSum_54 : decode cX5_readSum 54 = .ok (.getfield 22, 3) := by decide +kernel
theorem dX5_readSum_57 : decode cX5_readSum 57 = .ok (.iaload, 1) := by decide +kernel
theorem dX5_readSum_58 : decode cX5_readSum 58 = .ok (.istore_n 2, 1) := by decide +kernel
theorem dX5_readSum_59 : decode cX5_readSum 59 = .ok (.aload_n 0, 1) := by decide +kernel
theorem dX5_readSum_60 : decode cX5_readSum 60 = .ok (.dup, 1) := by decide +kernel
theorem dX5_readSum_61 : decode cX5_readSum 61 = .ok (.getfield 22, 3) := by decide +kernel
theorem dX5_readSum_64 : decode cX5_readSum 64 = .ok (.iconst 1, 1) := by decide +kernel
theorem dX5_readSum_65 : decode cX5_readSum 65 = .ok (.iadd, 1) := by decide +kernel
theorem dX5_readSum_66 : decode cX5_readSum 66 = .ok (.putfield 22, 3) := by decide +kernel
theorem dX5_readSum_69 : decode cX5_readSum 69 = .ok (.aload_n 0, 1) := by decide +kernel
theorem dX5_readSum_70 : decode cX5_readSum 70 = .ok (.iload_n 1, 1) := by decide +kernel
theorem dX5_readSum_71 : decode cX5_readSum 71 = .ok (.invokevirtual 60, 3) := by decide +kernel
theorem dX5_readSum_74 : decode cX5_readSum 74 = .ok (.ifCond .ne 5, 3) := by decide +kernel
theorem dX5_readSum_77 : decode cX5_readSum 77 = .ok (.iconst 0, 1) := by decide +kernel
theorem dX5_readSum_78 : decode cX5_readSum 78 = .ok (.ireturn, 1) := by decide +kernel
theorem dX5_readSum_79 : decode cX5_readSum 79 = .ok (.aload_n 0, 1) := by decide +kernel
theorem dX5_readSum_80 : decode cX5_readSum 80 = .ok (.getfield 28, 3) := by decide +kernel
theorem dX5_readSum_83 : decode cX5_readSum 83 = .ok (.iload_n 2, 1) := by decide +kernel
theorem dX5_readSum_84 : decode cX5_readSum 84 = .ok (.ineg, 1) := by decide +kernel
theorem dX5_readSum_85 : decode cX5_readSum 85 = .ok (.invokevirtual 46, 3) := by decide +kernel
theorem dX5_readSum_88 : decode cX5_readSum 88 = .ok (.goto (-78), 3) := by decide +kernel
theorem dX5_readSum_91 : decode cX5_readSum 91 = .ok (.iconst 1, 1) := by decide +kernel
theorem dX5_readSum_92 : decode cX5_readSum 92 = .ok (.ireturn, 1) := by decide +kernel
theorem dX5_readProduct_0 : decode cX5_readProduct 0 = .ok (.aload_n 0, 1) := by decide +kernel
theorem dX5_readProduct_1 : decode cX5_readProduct 1 = .ok (.iload_n 1, 1) := by decide +kernel
theorem dX5_readProduct_2 : decode cX5_readProduct 2 = .ok (.invokevirtual 63, 3) := by decide +kernel
theorem dX5_readProduct_5 : decode cX5_readProduct 5 = .ok (.ifCond .ne 5, 3) := by decide +kernel
theorem dX5_readProduct_8 : decode cX5_readProduct 8 = .ok (.iconst 0, 1) := by decide +kernel
theorem dX5_readProduct_9 : decode cX5_readProduct 9 = .ok (.ireturn, 1) := by decide +kernel
theorem dX5_readProduct_10 : decode cX5_readProduct 10 = .ok (.aload_n 0, 1) := by decide +kernel
theorem dX5_readProduct_11 : decode cX5_readProduct 11 = .ok (.getfield 22, 3) := by decide +kernel
theorem dX5_readProduct_14 : decode cX5_readProduct 14 = .ok (.aload_n 0, 1) := by decide +kernel
theorem dX5_readProduct_15 : decode cX5_readProduct 15 = .ok (.getfield 15, 3) := by decide +kernel
theorem dX5_readProduct_18 : decode cX5_readProduct 18 = .ok (.if_icmp .ge 87, 3) := by decide +kernel
theorem dX5_readProduct_21 : decode cX5_readProduct 21 = .ok (.aload_n 0, 1) := by decide +kernel
theorem dX5_readProduct_22 : decode cX5_readProduct 22 = .ok (.getfield 9, 3) := by decide +kernel
theorem dX5_readProduct_25 : decode cX5_readProduct 25 = .ok (.aload_n 0, 1) := by decide +kernel
theorem dX5_readProduct_26 : decode cX5_readProduct 26 = .ok (.getfield 22, 3) := by decide +kernel
theorem dX5_readProduct_29 : decode cX5_readProduct 29 = .ok (.iaload, 1) := by decide +kernel
theorem dX5_readProduct_30 : decode cX5_readProduct 30 = .ok (.bipush 42, 2) := by decide +kernel
theorem dX5_readProduct_32 : decode cX5_readProduct 32 = .ok (.if_icmp .eq 31, 3) := by decide +kernel
theorem dX5_readProduct_35 : decode cX5_readProduct 35 = .ok (.aload_n 0, 1) := by decide +kernel
theorem dX5_readProduct_36 : decode cX5_readProduct 36 = .ok (.getfield 9, 3) := by decide +kernel
theorem dX5_readProduct_39 : decode cX5_readProduct 39 = .ok (.aload_n 0, 1) := by decide +kernel
theorem dX5_readProduct_40 : decode cX5_readProduct 40 = .ok (.getfield 22, 3) := by decide +kernel
theorem dX5_readProduct_43 : decode cX5_readProduct 43 = .ok (.iaload, 1) := by decide +kernel
theorem dX5_readProduct_44 : decode cX5_readProduct 44 = .ok (.bipush 47, 2) := by decide +kernel
theorem dX5_readProduct_46 : decode cX5_readProduct 46 = .ok (.if_icmp .eq 17, 3) := by decide +kernel
theorem dX5_readProduct_49 : decode cX5_readProduct 49 = .ok (.aload_n 0, 1) := by decide +kernel
theorem dX5_readProduct_50 : decode cX5_readProduct 50 = .ok (.getfield 9, 3) := by decide +kernel
theorem dX5_readProduct_53 : decode cX5_readProduct 53 = .ok (.aload_n 0, 1) := by decide +kernel
theorem dX5_readProduct_54 : decode cX5_readProduct 54 = .ok (.getfield 22, 3) := by decide +kernel
theorem dX5_readProduct_57 : decode cX5_readProduct 57 = .ok (.iaload, 1) := by decide +kernel
theorem dX5_readProduct_58 : decode cX5_readProduct 58 = .ok (.bipush 37, 2) := by decide +kernel
theorem dX5_readProduct_60 : decode cX5_readProduct 60 = .ok (.if_icmp .ne 45, 3) := by decide +kernel
theorem dX5_readProduct_63 : decode cX5_readProduct 63 = .ok (.aload_n 0, 1) := by decide +kernel
theorem dX5_readProduct_64 : decode cX5_readProduct 64 = .ok (.getfield 9, 3) := by decide +kernel
theorem dX5_readProduct_67 : decode cX5_readProduct 67 = .ok (.aload_n 0, 1) := by decide +kernel
theorem dX5_readProduct_68 : decode cX5_readProduct 68 = .ok (.getfield 22, 3) := by decide +kernel
theorem dX5_readProduct_71 : decode cX5_readProduct 71 = .ok (.iaload, 1) := by decide +kernel
theorem dX5_readProduct_72 : decode cX5_readProduct 72 = .ok (.istore_n 2, 1) := by decide +kernel
theorem dX5_readProduct_73 : decode cX5_readProduct 73 = .ok (.aload_n 0, 1) := by decide +kernel
theorem dX5_readProduct_74 : decode cX5_readProduct 74 = .ok (.dup, 1) := by decide +kernel
theorem dX5_readProduct_75 : decode cX5_readProduct 75 = .ok (.getfield 22, 3) := by decide +kernel
theorem dX5_readProduct_78 : decode cX5_readProduct 78 = .ok (.iconst 1, 1) := by decide +kernel
theorem dX5_readProduct_79 : decode cX5_readProduct 79 = .ok (.iadd, 1) := by decide +kernel
theorem dX5_readProduct_80 : decode cX5_readProduct 80 = .ok (.putfield 22, 3) := by decide +kernel
theorem dX5_readProduct_83 : decode cX5_readProduct 83 = .ok (.aload_n 0, 1) := by decide +kernel
theorem dX5_readProduct_84 : decode cX5_readProduct 84 = .ok (.iload_n 1, 1) := by decide +kernel
theorem dX5_readProduct_85 : decode cX5_readProduct 85 = .ok (.invokevirtual 63, 3) := by decide +kernel
theorem dX5_readProduct_88 : decode cX5_readProduct 88 = .ok (.ifCond .ne 5, 3) := by decide +kernel
theorem dX5_readProduct_91 : decode cX5_readProduct 91 = .ok (.iconst 0, 1) := by decide +kernel
theorem dX5_readProduct_92 : decode cX5_readProduct 92 = .ok (.ireturn, 1) := by decide +kernel
theorem dX5_readProduct_93 : decode cX5_readProduct 93 = .ok (.aload_n 0, 1) := by decide +kernel
theorem dX5_readProduct_94 : decode cX5_readProduct 94 = .ok (.getfield 28, 3) := by decide +kernel
theorem dX5_readProduct_97 : decode cX5_readProduct 97 = .ok (.iload_n 2, 1) := by decide +kernel
theorem dX5_readProduct_98 : decode cX5_readProduct 98 = .ok (.ineg, 1) := by decide +kernel
theorem dX5_readProduct_99 : decode cX5_readProduct 99 = .ok (.invokevirtual 46, 3) := by decide +kernel
theorem dX5_readProduct_102 : decode cX5_readProduct 102 = .ok (.goto (-92), 3) := by decide +kernel
theorem dX5_readProduct_105 : decode cX5_readProduct 105 = .ok (.iconst 1, 1) := by decide +kernel
theorem dX5_readProduct_106 : decode cX5_readProduct 106 = .ok (.ireturn, 1) := by decide +kernel
theorem dX5_readSingle_0 : decode cX5_readSingle 0 = .ok (.aload_n 0, 1) := by decide +kernel
theorem dX5_readSingle_1 : decode cX5_readSingle 1 = .ok (.invokevirtual 56, 3) := by decide +kernel
theorem dX5_readSingle_4 : decode cX5_readSingle 4 = .ok (.istore_n 2, 1) := by decide +kernel
theorem dX5_readSingle_5 : decode cX5_readSingle 5 = .ok (.iload_n 2, 1) := by decide +kernel
theorem dX5_readSingle_6 : decode cX5_readSingle 6 = .ok (.invokestatic 66, 3) := by decide +kernel
theorem dX5_readSingle_9 : decode cX5_readSingle 9 = .ok (.ifCond .eq 9, 3) := by decide +kernel
theorem dX5_readSingle_12 : decode cX5_readSingle 12 = .ok (.aload_n 0, 1) := by decide +kernel
theorem dX5_readSingle_13 : decode cX5_readSingle 13 = .ok (.invokevirtual 69, 3) := by decide +kernel
theorem dX5_readSingle_16 : decode cX5_readSingle 16 = .ok (.iconst 1, 1) := by decide +kernel
theorem dX5_readSingle_17 : decode cX5_readSingle 17 = .ok (.ireturn, 1) := by decide +kernel
theorem dX5_readSingle_18 : decode cX5_readSingle 18 = .ok (.iload_n 2, 1) := by decide +kernel
theorem dX5_readSingle_19 : decode cX5_readSingle 19 = .ok (.bipush 33, 2) := by decide +kernel
theorem dX5_readSingle_21 : decode cX5_readSingle 21 = .ok (.if_icmp .eq 9, 3) := by decide +kernel
theorem dX5_readSingle_24 : decode cX5_readSingle 24 = .ok (.iload_n 2, 1) := by decide +kernel
theorem dX5_readSingle_25 : decode cX5_readSingle 25 = .ok (.bipush 40, 2) := by decide +kernel
theorem dX5_readSingle_27 : decode cX5_readSingle 27 = .ok (.if_icmp .ne 25, 3) := by decide +kernel
theorem dX5_readSingle_30 : decode cX5_readSingle 30 = .ok (.iload_n 1, 1) := by decide +kernel
theorem dX5_readSingle_31 : decode cX5_readSingle 31 = .ok (.iconst 5, 1) := by decide +kernel
theorem dX5_readSingle_32 : decode cX5_readSingle 32 = .ok (.if_icmp .ge 18, 3) := by decide +kernel
theorem dX5_readSingle_35 : decode cX5_readSingle 35 = .ok (.aload_n 0, 1) := by decide +kernel
theorem dX5_readSingle_36 : decode cX5_readSingle 36 = .ok (.iload_n 2, 1) := by decide +kernel
theorem dX5_readSingle_37 : decode cX5_readSingle 37 = .ok (.iload_n 1, 1) := by decide +kernel
theorem dX5_readSingle_38 : decode cX5_readSingle 38 = .ok (.iconst 1, 1) := by decide +kernel
theorem dX5_readSingle_39 : decode cX5_readSingle 39 = .ok (.iadd, 1) := by decide +kernel
theorem dX5_readSingle_40 : decode cX5_readSingle 40 = .ok (.invokevirtual 72, 3) := by decide +kernel
theorem dX5_readSingle_43 : decode cX5_readSingle 43 = .ok (.ifCond .eq 7, 3) := by decide +kernel
theorem dX5_readSingle_46 : decode cX5_readSingle 46 = .ok (.iconst 1, 1) := by decide +kernel
theorem dX5_readSingle_47 : decode cX5_readSingle 47 = .ok (.goto 4, 3) := by decide +kernel
theorem dX5_readSingle_50 : decode cX5_readSingle 50 = .ok (.iconst 0, 1) := by decide +kernel
theorem dX5_readSingle_51 : decode cX5_readSingle 51 = .ok (.ireturn, 1) := by decide +kernel
theorem dX5_readSingle_52 : decode cX5_readSingle 52 = .ok (.aload_n 0, 1) := by decide +kernel
theorem dX5_readSingle_53 : decode cX5_readSingle 53 = .ok (.iload_n 2, 1) := by decide +kernel
theorem dX5_readSingle_54 : decode cX5_readSingle 54 = .ok (.invokevirtual 76, 3) := by decide +kernel
theorem dX5_readSingle_57 : decode cX5_readSingle 57 = .ok (.ireturn, 1) := by decide +kernel
theorem dX5_readOpened_0 : decode cX5_readOpened 0 = .ok (.aload_n 0, 1) := by decide +kernel
theorem dX5_readOpened_1 : decode cX5_readOpened 1 = .ok (.dup, 1) := by decide +kernel
theorem dX5_readOpened_2 : decode cX5_readOpened 2 = .ok (.getfield 22, 3) := by decide +kernel
theorem dX5_readOpened_5 : decode cX5_readOpened 5 = .ok (.iconst 1, 1) := by decide +kernel
theorem dX5_readOpened_6 : decode cX5_readOpened 6 = .ok (.iadd, 1) := by decide +kernel
theorem dX5_readOpened_7 : decode cX5_readOpened 7 = .ok (.putfield 22, 3) := by decide +kernel
theorem dX5_readOpened_10 : decode cX5_readOpened 10 = .ok (.iload_n 1, 1) := by decide +kernel
theorem dX5_readOpened_11 : decode cX5_readOpened 11 = .ok (.bipush 33, 2) := by decide +kernel
theorem dX5_readOpened_13 : decode cX5_readOpened 13 = .ok (.if_icmp .ne 24, 3) := by decide +kernel
theorem dX5_readOpened_16 : decode cX5_readOpened 16 = .ok (.aload_n 0, 1) := by decide +kernel
theorem dX5_readOpened_17 : decode cX5_readOpened 17 = .ok (.iload_n 2, 1) := by decide +kernel
theorem dX5_readOpened_18 : decode cX5_readOpened 18 = .ok (.invokevirtual 63, 3) := by decide +kernel
theorem dX5_readOpened_21 : decode cX5_readOpened 21 = .ok (.ifCond .ne 5, 3) := by decide +kernel
theorem dX5_readOpened_24 : decode cX5_readOpened 24 = .ok (.iconst 0, 1) := by decide +kernel
theorem dX5_readOpened_25 : decode cX5_readOpened 25 = .ok (.ireturn, 1) := by decide +kernel
theorem dX5_readOpened_26 : decode cX5_readOpened 26 = .ok (.aload_n 0, 1) := by decide +kernel
theorem dX5_readOpened_27 : decode cX5_readOpened 27 = .ok (.getfield 28, 3) := by decide +kernel
theorem dX5_readOpened_30 : decode cX5_readOpened 30 = .ok (.bipush (-33), 2) := by decide +kernel
theorem dX5_readOpened_32 : decode cX5_readOpened 32 = .ok (.invokevirtual 46, 3) := by decide +kernel
theorem dX5_readOpened_35 : decode cX5_readOpened 35 = .ok (.iconst 1, 1) := by decide +kernel
theorem dX5_readOpened_36 : decode cX5_readOpened 36 = .ok (.ireturn, 1) := by decide +kernel
theorem dX5_readOpened_37 : decode cX5_readOpened 37 = .ok (.aload_n 0, 1) := by decide +kernel
theorem dX5_readOpened_38 : decode cX5_readOpened 38 = .ok (.iload_n 2, 1) := by decide +kernel
theorem dX5_readOpened_39 : decode cX5_readOpened 39 = .ok (.invokevirtual 39, 3) := by decide +kernel
theorem dX5_readOpened_42 : decode cX5_readOpened 42 = .ok (.ifCond .eq 12, 3) := by decide +kernel
theorem dX5_readOpened_45 : decode cX5_readOpened 45 = .ok (.aload_n 0, 1) := by decide +kernel
theorem dX5_readOpened_46 : decode cX5_readOpened 46 = .ok (.invokevirtual 56, 3) := by decide +kernel
theorem dX5_readOpened_49 : decode cX5_readOpened 49 = .ok (.bipush 41, 2) := by decide +kernel
theorem dX5_readOpened_51 : decode cX5_readOpened 51 = .ok (.if_icmp .eq 5, 3) := by decide +kernel
theorem dX5_readOpened_54 : decode cX5_readOpened 54 = .ok (.iconst 0, 1) := by decide +kernel
theorem dX5_readOpened_55 : decode cX5_readOpened 55 = .ok (.ireturn, 1) := by decide +kernel
theorem dX5_readOpened_56 : decode cX5_readOpened 56 = .ok (.aload_n 0, 1) := by decide +kernel
theorem dX5_readOpened_57 : decode cX5_readOpened 57 = .ok (.dup, 1) := by decide +kernel
theorem dX5_readOpened_58 : decode cX5_readOpened 58 = .ok (.getfield 22, 3) := by decide +kernel
theorem dX5_readOpened_61 : decode cX5_readOpened 61 = .ok (.iconst 1, 1) := by decide +kernel
theorem dX5_readOpened_62 : decode cX5_readOpened 62 = .ok (.iadd, 1) := by decide +kernel
theorem dX5_readOpened_63 : decode cX5_readOpened 63 = .ok (.putfield 22, 3) := by decide +kernel
theorem dX5_readOpened_66 : decode cX5_readOpened 66 = .ok (.iconst 1, 1) := by decide +kernel
theorem dX5_readOpened_67 : decode cX5_readOpened 67 = .ok (.ireturn, 1) := by decide +kernel
theorem dX5_readNumber_0 : decode cX5_readNumber 0 = .ok (.iconst 0, 1) := by decide +kernel
theorem dX5_readNumber_1 : decode cX5_readNumber 1 = .ok (.istore_n 1, 1) := by decide +kernel
theorem dX5_readNumber_2 : decode cX5_readNumber 2 = .ok (.iconst 0, 1) := by decide +kernel
theorem dX5_readNumber_3 : decode cX5_readNumber 3 = .ok (.istore_n 2, 1) := by decide +kernel
theorem dX5_readNumber_4 : decode cX5_readNumber 4 = .ok (.iload_n 2, 1) := by decide +kernel
theorem dX5_readNumber_5 : decode cX5_readNumber 5 = .ok (.iconst 4, 1) := by decide +kernel
theorem dX5_readNumber_6 : decode cX5_readNumber 6 = .ok (.if_icmp .ge 42, 3) := by decide +kernel
theorem dX5_readNumber_9 : decode cX5_readNumber 9 = .ok (.aload_n 0, 1) := by decide +kernel
theorem dX5_readNumber_10 : decode cX5_readNumber 10 = .ok (.invokevirtual 56, 3) := by decide +kernel
theorem dX5_readNumber_13 : decode cX5_readNumber 13 = .ok (.invokestatic 66, 3) := by decide +kernel
theorem dX5_readNumber_16 : decode cX5_readNumber 16 = .ok (.ifCond .eq 32, 3) := by decide +kernel
theorem dX5_readNumber_19 : decode cX5_readNumber 19 = .ok (.bipush 10, 2) := by decide +kernel
theorem dX5_readNumber_21 : decode cX5_readNumber 21 = .ok (.iload_n 1, 1) := by decide +kernel
theorem dX5_readNumber_22 : decode cX5_readNumber 22 = .ok (.imul, 1) := by decide +kernel
theorem dX5_readNumber_23 : decode cX5_readNumber 23 = .ok (.aload_n 0, 1) := by decide +kernel
theorem dX5_readNumber_24 : decode cX5_readNumber 24 = .ok (.invokevirtual 56, 3) := by decide +kernel
theorem dX5_readNumber_27 : decode cX5_readNumber 27 = .ok (.iadd, 1) := by decide +kernel
theorem dX5_readNumber_28 : decode cX5_readNumber 28 = .ok (.bipush 48, 2) := by decide +kernel
theorem dX5_readNumber_30 : decode cX5_readNumber 30 = .ok (.isub, 1) := by decide +kernel
theorem dX5_readNumber_31 : decode cX5_readNumber 31 = .ok (.istore_n 1, 1) := by decide +kernel
theorem dX5_readNumber_32 : decode cX5_readNumber 32 = .ok (.aload_n 0, 1) := by decide +kernel
theorem dX5_readNumber_33 : decode cX5_readNumber 33 = .ok (.dup, 1) := by decide +kernel
theorem dX5_readNumber_34 : decode cX5_readNumber 34 = .ok (.getfield 22, 3) := by decide +kernel
theorem dX5_readNumber_37 : decode cX5_readNumber 37 = .ok (.iconst 1, 1) := by decide +kernel
theorem dX5_readNumber_38 : decode cX5_readNumber 38 = .ok (.iadd, 1) := by decide +kernel
theorem dX5_readNumber_39 : decode cX5_readNumber 39 = .ok (.putfield 22, 3) := by decide +kernel
theorem dX5_readNumber_42 : decode cX5_readNumber 42 = .ok (.iinc 2 1, 3) := by decide +kernel
theorem dX5_readNumber_45 : decode cX5_readNumber 45 = .ok (.goto (-41), 3) := by decide +kernel
theorem dX5_readNumber_48 : decode cX5_readNumber 48 = .ok (.aload_n 0, 1) := by decide +kernel
theorem dX5_readNumber_49 : decode cX5_readNumber 49 = .ok (.getfield 28, 3) := by decide +kernel
theorem dX5_readNumber_52 : decode cX5_readNumber 52 = .ok (.iload_n 1, 1) := by decide +kernel
theorem dX5_readNumber_53 : decode cX5_readNumber 53 = .ok (.invokevirtual 46, 3) := by decide +kernel
theorem dX5_readNumber_56 : decode cX5_readNumber 56 = .ok (.return_, 1) := by decide +kernel
theorem dX5_readName_0 : decode cX5_readName 0 = .ok (.iconst 0, 1) := by decide +kernel
theorem dX5_readName_1 : decode cX5_readName 1 = .ok (.istore_n 2, 1) := by decide +kernel
theorem dX5_readName_2 : decode cX5_readName 2 = .ok (.iload_n 2, 1) := by decide +kernel
theorem dX5_readName_3 : decode cX5_readName 3 = .ok (.iconst 3, 1) := by decide +kernel
theorem dX5_readName_4 : decode cX5_readName 4 = .ok (.if_icmp .ge 47, 3) := by decide +kernel
theorem dX5_readName_7 : decode cX5_readName 7 = .ok (.iload_n 1, 1) := by decide +kernel
theorem dX5_readName_8 : decode cX5_readName 8 = .ok (.getstatic 79, 3) := by decide +kernel
theorem dX5_readName_11 : decode cX5_readName 11 = .ok (.iconst 3, 1) := by decide +kernel
theorem dX5_readName_12 : decode cX5_readName 12 = .ok (.aload_n 0, 1) := by decide +kernel
theorem dX5_readName_13 : decode cX5_readName 13 = .ok (.getfield 19, 3) := by decide +kernel
theorem dX5_readName_16 : decode cX5_readName 16 = .ok (.imul, 1) := by decide +kernel
theorem dX5_readName_17 : decode cX5_readName 17 = .ok (.iload_n 2, 1) := by decide +kernel
theorem dX5_readName_18 : decode cX5_readName 18 = .ok (.iadd, 1) := by decide +kernel
theorem dX5_readName_19 : decode cX5_readName 19 = .ok (.caload, 1) := by decide +kernel
theorem dX5_readName_20 : decode cX5_readName 20 = .ok (.if_icmp .ne 25, 3) := by decide +kernel
theorem dX5_readName_23 : decode cX5_readName 23 = .ok (.aload_n 0, 1) := by decide +kernel
theorem dX5_readName_24 : decode cX5_readName 24 = .ok (.dup, 1) := by decide +kernel
theorem dX5_readName_25 : decode cX5_readName 25 = .ok (.getfield 22, 3) := by decide +kernel
theorem dX5_readName_28 : decode cX5_readName 28 = .ok (.iconst 1, 1) := by decide +kernel
theorem dX5_readName_29 : decode cX5_readName 29 = .ok (.iadd, 1) := by decide +kernel
theorem dX5_readName_30 : decode cX5_readName 30 = .ok (.putfield 22, 3) := by decide +kernel
theorem dX5_readName_33 : decode cX5_readName 33 = .ok (.aload_n 0, 1) := by decide +kernel
theorem dX5_readName_34 : decode cX5_readName 34 = .ok (.getfield 28, 3) := by decide +kernel
theorem dX5_readName_37 : decode cX5_readName 37 = .ok (.iconst (-1), 1) := by decide +kernel
theorem dX5_readName_38 : decode cX5_readName 38 = .ok (.iload_n 2, 1) := by decide +kernel
theorem dX5_readName_39 : decode cX5_readName 39 = .ok (.isub, 1) := by decide +kernel
theorem dX5_readName_40 : decode cX5_readName 40 = .ok (.invokevirtual 46, 3) := by decide +kernel
theorem dX5_readName_43 : decode cX5_readName 43 = .ok (.iconst 1, 1) := by decide +kernel
theorem dX5_readName_44 : decode cX5_readName 44 = .ok (.ireturn, 1) := by decide +kernel
theorem dX5_readName_45 : decode cX5_readName 45 = .ok (.iinc 2 1, 3) := by decide +kernel
theorem dX5_readName_48 : decode cX5_readName 48 = .ok (.goto (-46), 3) := by decide +kernel
theorem dX5_readName_51 : decode cX5_readName 51 = .ok (.iconst 0, 1) := by decide +kernel
theorem dX5_readName_52 : decode cX5_readName 52 = .ok (.ireturn, 1) := by decide +kernel
theorem dX5_upcoming_0 : decode cX5_upcoming 0 = .ok (.aload_n 0, 1) := by decide +kernel
theorem dX5_upcoming_1 : decode cX5_upcoming 1 = .ok (.getfield 22, 3) := by decide +kernel
theorem dX5_upcoming_4 : decode cX5_upcoming 4 = .ok (.aload_n 0, 1) := by decide +kernel
theorem dX5_upcoming_5 : decode cX5_upcoming 5 = .ok (.getfield 15, 3) := by decide +kernel
theorem dX5_upcoming_8 : decode cX5_upcoming 8 = .ok (.if_icmp .ge 15, 3) := by decide +kernel
theorem dX5_upcoming_11 : decode cX5_upcoming 11 = .ok (.aload_n 0, 1) := by decide +kernel
theorem dX5_upcoming_12 : decode cX5_upcoming 12 = .ok (.getfield 9, 3) := by decide +kernel
theorem dX5_upcoming_15 : decode cX5_upcoming 15 = .ok (.aload_n 0, 1) := by decide +kernel
theorem dX5_upcoming_16 : decode cX5_upcoming 16 = .ok (.getfield 22, 3) := by decide +kernel
theorem dX5_upcoming_19 : decode cX5_upcoming 19 = .ok (.iaload, 1) := by decide +kernel
theorem dX5_upcoming_20 : decode cX5_upcoming 20 = .ok (.goto 4, 3) := by decide +kernel
theorem dX5_upcoming_23 : decode cX5_upcoming 23 = .ok (.iconst (-1), 1) := by decide +kernel
theorem dX5_upcoming_24 : decode cX5_upcoming 24 = .ok (.ireturn, 1) := by decide +kernel
theorem dX5_isDigit_0 : decode cX5_isDigit 0 = .ok (.iload_n 0, 1) := by decide +kernel
theorem dX5_isDigit_1 : decode cX5_isDigit 1 = .ok (.bipush 48, 2) := by decide +kernel
theorem dX5_isDigit_3 : decode cX5_isDigit 3 = .ok (.if_icmp .lt 13, 3) := by decide +kernel
theorem dX5_isDigit_6 : decode cX5_isDigit 6 = .ok (.iload_n 0, 1) := by decide +kernel
theorem dX5_isDigit_7 : decode cX5_isDigit 7 = .ok (.bipush 57, 2) := by decide +kernel
theorem dX5_isDigit_9 : decode cX5_isDigit 9 = .ok (.if_icmp .gt 7, 3) := by decide +kernel
theorem dX5_isDigit_12 : decode cX5_isDigit 12 = .ok (.iconst 1, 1) := by decide +kernel
theorem dX5_isDigit_13 : decode cX5_isDigit 13 = .ok (.goto 4, 3) := by decide +kernel
theorem dX5_isDigit_16 : decode cX5_isDigit 16 = .ok (.iconst 0, 1) := by decide +kernel
theorem dX5_isDigit_17 : decode cX5_isDigit 17 = .ok (.ireturn, 1) := by decide +kernel
theorem dX6_init_0 : decode cX6_init 0 = .ok (.aload_n 0, 1) := by decide +kernel
theorem dX6_init_1 : decode cX6_init 1 = .ok (.invokespecial 3, 3) := by decide +kernel
theorem dX6_init_4 : decode cX6_init 4 = .ok (.aload_n 0, 1) := by decide +kernel
theorem dX6_init_5 : decode cX6_init 5 = .ok (.iconst 0, 1) := by decide +kernel
theorem dX6_init_6 : decode cX6_init 6 = .ok (.putfield 9, 3) := by decide +kernel
theorem dX6_init_9 : decode cX6_init 9 = .ok (.aload_n 0, 1) := by decide +kernel
theorem dX6_init_10 : decode cX6_init 10 = .ok (.iconst 0, 1) := by decide +kernel
theorem dX6_init_11 : decode cX6_init 11 = .ok (.putfield 15, 3) := by decide +kernel
theorem dX6_init_14 : decode cX6_init 14 = .ok (.aload_n 0, 1) := by decide +kernel
theorem dX6_init_15 : decode cX6_init 15 = .ok (.bipush 40, 2) := by decide +kernel
theorem dX6_init_17 : decode cX6_init 17 = .ok (.newarray .int, 2) := by decide +kernel
theorem dX6_init_19 : decode cX6_init 19 = .ok (.putfield 18, 3) := by decide +kernel
theorem dX6_init_22 : decode cX6_init 22 = .ok (.return_, 1) := by decide +kernel
theorem dX6_renew_0 : decode cX6_renew 0 = .ok (.aload_n 0, 1) := by decide +kernel
theorem dX6_renew_1 : decode cX6_renew 1 = .ok (.iload_n 1, 1) := by decide +kernel
theorem dX6_renew_2 : decode cX6_renew 2 = .ok (.putfield 9, 3) := by decide +kernel
theorem dX6_renew_5 : decode cX6_renew 5 = .ok (.aload_n 0, 1) := by decide +kernel
theorem dX6_renew_6 : decode cX6_renew 6 = .ok (.iload_n 2, 1) := by decide +kernel
theorem dX6_renew_7 : decode cX6_renew 7 = .ok (.putfield 15, 3) := by decide +kernel
theorem dX6_renew_10 : decode cX6_renew 10 = .ok (.iconst 0, 1) := by decide +kernel
theorem dX6_renew_11 : decode cX6_renew 11 = .ok (.istore_n 3, 1) := by decide +kernel
theorem dX6_renew_12 : decode cX6_renew 12 = .ok (.iload_n 3, 1) := by decide +kernel
theorem dX6_renew_13 : decode cX6_renew 13 = .ok (.bipush 40, 2) := by decide +kernel
theorem dX6_renew_15 : decode cX6_renew 15 = .ok (.if_icmp .ge 16, 3) := by decide +kernel
theorem dX6_renew_18 : decode cX6_renew 18 = .ok (.aload_n 0, 1) := by decide +kernel
theorem dX6_renew_19 : decode cX6_renew 19 = .ok (.getfield 18, 3) := by decide +kernel
theorem dX6_renew_22 : decode cX6_renew 22 = .ok (.iload_n 3, 1) := by decide +kernel
theorem dX6_renew_23 : decode cX6_renew 23 = .ok (.iconst 0, 1) := by decide +kernel
theorem dX6_renew_24 : decode cX6_renew 24 = .ok (.iastore, 1) := by decide +kernel
theorem dX6_renew_25 : decode cX6_renew 25 = .ok (.iinc 3 1, 3) := by decide +kernel
theorem dX6_renew_28 : decode cX6_renew 28 = .ok (.goto (-16), 3) := by decide +kernel
theorem dX6_renew_31 : decode cX6_renew 31 = .ok (.return_, 1) := by decide +kernel
theorem dX6_isMissing_0 : decode cX6_isMissing 0 = .ok (.aload_n 0, 1) := by decide +kernel
theorem dX6_isMissing_1 : decode cX6_isMissing 1 = .ok (.getfield 9, 3) := by decide +kernel
theorem dX6_isMissing_4 : decode cX6_isMissing 4 = .ok (.ifCond .ne 7, 3) := by decide +kernel
theorem dX6_isMissing_7 : decode cX6_isMissing 7 = .ok (.iconst 1, 1) := by decide +kernel
theorem dX6_isMissing_8 : decode cX6_isMissing 8 = .ok (.goto 4, 3) := by decide +kernel
theorem dX6_isMissing_11 : decode cX6_isMissing 11 = .ok (.iconst 0, 1) := by decide +kernel
theorem dX6_isMissing_12 : decode cX6_isMissing 12 = .ok (.ireturn, 1) := by decide +kernel
theorem dX6_lowest_0 : decode cX6_lowest 0 = .ok (.aload_n 0, 1) := by decide +kernel
theorem dX6_lowest_1 : decode cX6_lowest 1 = .ok (.getfield 9, 3) := by decide +kernel
theorem dX6_lowest_4 : decode cX6_lowest 4 = .ok (.bipush 8, 2) := by decide +kernel
theorem dX6_lowest_6 : decode cX6_lowest 6 = .ok (.if_icmp .ne 6, 3) := by decide +kernel
theorem dX6_lowest_9 : decode cX6_lowest 9 = .ok (.iload_n 1, 1) := by decide +kernel
theorem dX6_lowest_10 : decode cX6_lowest 10 = .ok (.i2b, 1) := by decide +kernel
theorem dX6_lowest_11 : decode cX6_lowest 11 = .ok (.ireturn, 1) := by decide +kernel
theorem dX6_lowest_12 : decode cX6_lowest 12 = .ok (.aload_n 0, 1) := by decide +kernel
theorem dX6_lowest_13 : decode cX6_lowest 13 = .ok (.getfield 9, 3) := by decide +kernel
theorem dX6_lowest_16 : decode cX6_lowest 16 = .ok (.bipush 16, 2) := by decide +kernel
theorem dX6_lowest_18 : decode cX6_lowest 18 = .ok (.if_icmp .ne 8, 3) := by decide +kernel
theorem dX6_lowest_21 : decode cX6_lowest 21 = .ok (.iload_n 1, 1) := by decide +kernel
theorem dX6_lowest_22 : decode cX6_lowest 22 = .ok (.i2s, 1) := by decide +kernel
theorem dX6_lowest_23 : decode cX6_lowest 23 = .ok (.goto 4, 3) := by decide +kernel
theorem dX6_lowest_26 : decode cX6_lowest 26 = .ok (.iload_n 1, 1) := by decide +kernel
theorem dX6_lowest_27 : decode cX6_lowest 27 = .ok (.ireturn, 1) := by decide +kernel
theorem dX6_holds_0 : decode cX6_holds 0 = .ok (.iload_n 1, 1) := by decide +kernel
theorem dX6_holds_1 : decode cX6_holds 1 = .ok (.ifCond .lt 29, 3) := by decide +kernel
theorem dX6_holds_4 : decode cX6_holds 4 = .ok (.iload_n 2, 1) := by decide +kernel
theorem dX6_holds_5 : decode cX6_holds 5 = .ok (.ifCond .lt 25, 3) := by decide +kernel
theorem dX6_holds_8 : decode cX6_holds 8 = .ok (.iload_n 1, 1) := by decide +kernel
theorem dX6_holds_9 : decode cX6_holds 9 = .ok (.aload_n 0, 1) := by decide +kernel
theorem dX6_holds_10 : decode cX6_holds 10 = .ok (.getfield 15, 3) := by decide +kernel
theorem dX6_holds_13 : decode cX6_holds 13 = .ok (.if_icmp .gt 17, 3) := by decide +kernel
theorem dX6_holds_16 : decode cX6_holds 16 = .ok (.iload_n 2, 1) := by decide +kernel
theorem dX6_holds_17 : decode cX6_holds 17 = .ok (.aload_n 0, 1) := by decide +kernel
theorem dX6_holds_18 : decode cX6_holds 18 = .ok (.getfield 15, 3) := by decide +kernel
theorem dX6_holds_21 : decode cX6_holds 21 = .ok (.iload_n 1, 1) := by decide +kernel
theorem dX6_holds_22 : decode cX6_holds 22 = .ok (.isub, 1) := by decide +kernel
theorem dX6_holds_23 : decode cX6_holds 23 = .ok (.if_icmp .gt 7, 3) := by decide +kernel
theorem dX6_holds_26 : decode cX6_holds 26 = .ok (.iconst 1, 1) := by decide +kernel
theorem dX6_holds_27 : decode cX6_holds 27 = .ok (.goto 4, 3) := by decide +kernel
theorem dX6_holds_30 : decode cX6_holds 30 = .ok (.iconst 0, 1) := by decide +kernel
theorem dX6_holds_31 : decode cX6_holds 31 = .ok (.ireturn, 1) := by decide +kernel
theorem dX7_init_0 : decode cX7_init 0 = .ok (.aload_n 0, 1) := by decide +kernel
theorem dX7_init_1 : decode cX7_init 1 = .ok (.invokespecial 3, 3) := by decide +kernel
theorem dX7_init_4 : decode cX7_init 4 = .ok (.aload_n 0, 1) := by decide +kernel
theorem dX7_init_5 : decode cX7_init 5 = .ok (.iconst 0, 1) := by decide +kernel
theorem dX7_init_6 : decode cX7_init 6 = .ok (.putfield 9, 3) := by decide +kernel
theorem dX7_init_9 : decode cX7_init 9 = .ok (.aload_n 0, 1) := by decide +kernel
theorem dX7_init_10 : decode cX7_init 10 = .ok (.bipush 40, 2) := by decide +kernel
theorem dX7_init_12 : decode cX7_init 12 = .ok (.newarray .int, 2) := by decide +kernel
theorem dX7_init_14 : decode cX7_init 14 = .ok (.putfield 15, 3) := by decide +kernel
theorem dX7_init_17 : decode cX7_init 17 = .ok (.aload_n 0, 1) := by decide +kernel
theorem dX7_init_18 : decode cX7_init 18 = .ok (.iconst 0, 1) := by decide +kernel
theorem dX7_init_19 : decode cX7_init 19 = .ok (.putfield 19, 3) := by decide +kernel
theorem dX7_init_22 : decode cX7_init 22 = .ok (.aload_n 0, 1) := by decide +kernel
theorem dX7_init_23 : decode cX7_init 23 = .ok (.iconst 0, 1) := by decide +kernel
theorem dX7_init_24 : decode cX7_init 24 = .ok (.putfield 22, 3) := by decide +kernel
theorem dX7_init_27 : decode cX7_init 27 = .ok (.aload_n 0, 1) := by decide +kernel
theorem dX7_init_28 : decode cX7_init 28 = .ok (.iconst 0, 1) := by decide +kernel
theorem dX7_init_29 : decode cX7_init 29 = .ok (.putfield 25, 3) := by decide +kernel
theorem dX7_init_32 : decode cX7_init 32 = .ok (.return_, 1) := by decide +kernel
theorem dX7_speak_0 : decode cX7_speak 0 = .ok (.aload_n 0, 1) := by decide +kernel
theorem dX7_speak_1 : decode cX7_speak 1 = .ok (.iload_n 1, 1) := by decide +kernel
theorem dX7_speak_2 : decode cX7_speak 2 = .ok (.putfield 19, 3) := by decide +kernel
theorem dX7_speak_5 : decode cX7_speak 5 = .ok (.aload_n 0, 1) := by decide +kernel
theorem dX7_speak_6 : decode cX7_speak 6 = .ok (.iload_n 2, 1) := by decide +kernel
theorem dX7_speak_7 : decode cX7_speak 7 = .ok (.putfield 22, 3) := by decide +kernel
theorem dX7_speak_10 : decode cX7_speak 10 = .ok (.aload_n 0, 1) := by decide +kernel
theorem dX7_speak_11 : decode cX7_speak 11 = .ok (.iload_n 3, 1) := by decide +kernel
theorem dX7_speak_12 : decode cX7_speak 12 = .ok (.putfield 25, 3) := by decide +kernel
theorem dX7_speak_15 : decode cX7_speak 15 = .ok (.aload_n 0, 1) := by decide +kernel
theorem dX7_speak_16 : decode cX7_speak 16 = .ok (.iconst 0, 1) := by decide +kernel
theorem dX7_speak_17 : decode cX7_speak 17 = .ok (.putfield 9, 3) := by decide +kernel
theorem dX7_speak_20 : decode cX7_speak 20 = .ok (.aload_n 0, 1) := by decide +kernel
theorem dX7_speak_21 : decode cX7_speak 21 = .ok (.iload 4, 2) := by decide +kernel
theorem dX7_speak_23 : decode cX7_speak 23 = .ok (.iload 5, 2) := by decide +kernel
theorem dX7_speak_25 : decode cX7_speak 25 = .ok (.iconst 0, 1) := by decide +kernel
theorem dX7_speak_26 : decode cX7_speak 26 = .ok (.invokevirtual 28, 3) := by decide +kernel
theorem dX7_speak_29 : decode cX7_speak 29 = .ok (.ireturn, 1) := by decide +kernel
theorem dX7_own_0 : decode cX7_own 0 = .ok (.aload_n 0, 1) := by decide +kernel
theorem dX7_own_1 : decode cX7_own 1 = .ok (.aload_n 0, 1) := by decide +kernel
theorem dX7_own_2 : decode cX7_own 2 = .ok (.getfield 19, 3) := by decide +kernel
theorem dX7_own_5 : decode cX7_own 5 = .ok (.iload_n 1, 1) := by decide +kernel
theorem dX7_own_6 : decode cX7_own 6 = .ok (.iload_n 2, 1) := by decide +kernel
theorem dX7_own_7 : decode cX7_own 7 = .ok (.iload_n 3, 1) := by decide +kernel
theorem dX7_own_8 : decode cX7_own 8 = .ok (.iconst 1, 1) := by decide +kernel
theorem dX7_own_9 : decode cX7_own 9 = .ok (.iadd, 1) := by decide +kernel
theorem dX7_own_10 : decode cX7_own 10 = .ok (.invokevirtual 32, 3) := by decide +kernel
theorem dX7_own_13 : decode cX7_own 13 = .ok (.ireturn, 1) := by decide +kernel
theorem dX7_above_0 : decode cX7_above 0 = .ok (.aload_n 0, 1) := by decide +kernel
theorem dX7_above_1 : decode cX7_above 1 = .ok (.getstatic 36, 3) := by decide +kernel
theorem dX7_above_4 : decode cX7_above 4 = .ok (.iload_n 1, 1) := by decide +kernel
theorem dX7_above_5 : decode cX7_above 5 = .ok (.bipush 10, 2) := by decide +kernel
theorem dX7_above_7 : decode cX7_above 7 = .ok (.idiv, 1) := by decide +kernel
theorem dX7_above_8 : decode cX7_above 8 = .ok (.iconst 1, 1) := by decide +kernel
theorem dX7_above_9 : decode cX7_above 9 = .ok (.isub, 1) := by decide +kernel
theorem dX7_above_10 : decode cX7_above 10 = .ok (.iaload, 1) := by decide +kernel
theorem dX7_above_11 : decode cX7_above 11 = .ok (.iload_n 2, 1) := by decide +kernel
theorem dX7_above_12 : decode cX7_above 12 = .ok (.iload_n 3, 1) := by decide +kernel
theorem dX7_above_13 : decode cX7_above 13 = .ok (.iload 4, 2) := by decide +kernel
theorem dX7_above_15 : decode cX7_above 15 = .ok (.iconst 1, 1) := by decide +kernel
theorem dX7_above_16 : decode cX7_above 16 = .ok (.iadd, 1) := by decide +kernel
theorem dX7_above_17 : decode cX7_above 17 = .ok (.invokevirtual 32, 3) := by decide +kernel
theorem dX7_above_20 : decode cX7_above 20 = .ok (.ireturn, 1) := by decide +kernel
theorem dX7_sayFrom_0 : decode cX7_sayFrom 0 = .ok (.iload 4, 2) := by decide +kernel
theorem dX7_sayFrom_2 : decode cX7_sayFrom 2 = .ok (.bipush 20, 2) := by decide +kernel
theorem dX7_sayFrom_4 : decode cX7_sayFrom 4 = .ok (.if_icmp .le 5, 3) := by decide +kernel
theorem dX7_sayFrom_7 : decode cX7_sayFrom 7 = .ok (.iconst 0, 1) := by decide +kernel
theorem dX7_sayFrom_8 : decode cX7_sayFrom 8 = .ok (.ireturn, 1) := by decide +kernel
theorem dX7_sayFrom_9 : decode cX7_sayFrom 9 = .ok (.iload_n 1, 1) := by decide +kernel
theorem dX7_sayFrom_10 : decode cX7_sayFrom 10 = .ok (.istore 5, 2) := by decide +kernel
theorem dX7_sayFrom_12 : decode cX7_sayFrom 12 = .ok (.iconst 0, 1) := by decide +kernel
theorem dX7_sayFrom_13 : decode cX7_sayFrom 13 = .ok (.istore 6, 2) := by decide +kernel
theorem dX7_sayFrom_15 : decode cX7_sayFrom 15 = .ok (.iload 6, 2) := by decide +kernel
theorem dX7_sayFrom_17 : decode cX7_sayFrom 17 = .ok (.bipush 6, 2) := by decide +kernel
theorem dX7_sayFrom_19 : decode cX7_sayFrom 19 = .ok (.if_icmp .ge 30, 3) := by decide +kernel
theorem dX7_sayFrom_22 : decode cX7_sayFrom 22 = .ok (.getstatic 39, 3) := by decide +kernel
theorem dX7_sayFrom_25 : decode cX7_sayFrom 25 = .ok (.iconst 4, 1) := by decide +kernel
theorem dX7_sayFrom_26 : decode cX7_sayFrom 26 = .ok (.iload 5, 2) := by decide +kernel
theorem dX7_sayFrom_28 : decode cX7_sayFrom 28 = .ok (.imul, 1) := by decide +kernel
theorem dX7_sayFrom_29 : decode cX7_sayFrom 29 = .ok (.iload_n 2, 1) := by decide +kernel
theorem dX7_sayFrom_30 : decode cX7_sayFrom 30 = .ok (.iadd, 1) := by decide +kernel
theorem dX7_sayFrom_31 : decode cX7_sayFrom 31 = .ok (.iaload, 1) := by decide +kernel
theorem dX7_sayFrom_32 : decode cX7_sayFrom 32 = .ok (.ifCond .ne 17, 3) := by decide +kernel
theorem dX7_sayFrom_35 : decode cX7_sayFrom 35 = .ok (.getstatic 36, 3) := by decide +kernel
theorem dX7_sayFrom_38 : decode cX7_sayFrom 38 = .ok (.iload 5, 2) := by decide +kernel
theorem dX7_sayFrom_40 : decode cX7_sayFrom 40 = .ok (.iaload, 1) := by decide +kernel
theorem dX7_sayFrom_41 : decode cX7_sayFrom 41 = .ok (.istore 5, 2) := by decide +kernel
theorem dX7_sayFrom_43 : decode cX7_sayFrom 43 = .ok (.iinc 6 1, 3) := by decide +kernel
theorem dX7_sayFrom_46 : decode cX7_sayFrom 46 = .ok (.goto (-31), 3) := by decide +kernel
theorem dX7_sayFrom_49 : decode cX7_sayFrom 49 = .ok (.getstatic 39, 3) := by decide +kernel
theorem dX7_sayFrom_52 : decode cX7_sayFrom 52 = .ok (.iconst 4, 1) := by decide +kernel
theorem dX7_sayFrom_53 : decode cX7_sayFrom 53 = .ok (.iload 5, 2) := by decide +kernel
theorem dX7_sayFrom_55 : decode cX7_sayFrom 55 = .ok (.imul, 1) := by decide +kernel
theorem dX7_sayFrom_56 : decode cX7_sayFrom 56 = .ok (.iload_n 2, 1) := by decide +kernel
theorem dX7_sayFrom_57 : decode cX7_sayFrom 57 = .ok (.iadd, 1) := by decide +kernel
theorem dX7_sayFrom_58 : decode cX7_sayFrom 58 = .ok (.iaload, 1) := by decide +kernel
theorem dX7_sayFrom_59 : decode cX7_sayFrom 59 = .ok (.istore 6, 2) := by decide +kernel
theorem dX7_sayFrom_61 : decode cX7_sayFrom 61 = .ok (.aload_n 0, 1) := by decide +kernel
theorem dX7_sayFrom_62 : decode cX7_sayFrom 62 = .ok (.getfield 9, 3) := by decide +kernel
theorem dX7_sayFrom_65 : decode cX7_sayFrom 65 = .ok (.bipush 40, 2) := by decide +kernel
theorem dX7_sayFrom_67 : decode cX7_sayFrom 67 = .ok (.if_icmp .ge 24, 3) := by decide +kernel
theorem dX7_sayFrom_70 : decode cX7_sayFrom 70 = .ok (.aload_n 0, 1) := by decide +kernel
theorem dX7_sayFrom_71 : decode cX7_sayFrom 71 = .ok (.getfield 15, 3) := by decide +kernel
theorem dX7_sayFrom_74 : decode cX7_sayFrom 74 = .ok (.aload_n 0, 1) := by decide +kernel
theorem dX7_sayFrom_75 : decode cX7_sayFrom 75 = .ok (.getfield 9, 3) := by decide +kernel
theorem dX7_sayFrom_78 : decode cX7_sayFrom 78 = .ok (.iload 6, 2) := by decide +kernel
theorem dX7_sayFrom_80 : decode cX7_sayFrom 80 = .ok (.iastore, 1) := by decide +kernel
theorem dX7_sayFrom_81 : decode cX7_sayFrom 81 = .ok (.aload_n 0, 1) := by decide +kernel
theorem dX7_sayFrom_82 : decode cX7_sayFrom 82 = .ok (.dup, 1) := by decide +kernel
theorem dX7_sayFrom_83 : decode cX7_sayFrom 83 = .ok (.getfield 9, 3) := by decide +kernel
theorem dX7_sayFrom_86 : decode cX7_sayFrom 86 = .ok (.iconst 1, 1) := by decide +kernel
theorem dX7_sayFrom_87 : decode cX7_sayFrom 87 = .ok (.iadd, 1) := by decide +kernel
theorem dX7_sayFrom_88 : decode cX7_sayFrom 88 = .ok (.putfield 9, 3) := by decide +kernel
theorem dX7_sayFrom_91 : decode cX7_sayFrom 91 = .ok (.aload_n 0, 1) := by decide +kernel
theorem dX7_sayFrom_92 : decode cX7_sayFrom 92 = .ok (.iload 6, 2) := by decide +kernel
theorem dX7_sayFrom_94 : decode cX7_sayFrom 94 = .ok (.iload_n 3, 1) := by decide +kernel
theorem dX7_sayFrom_95 : decode cX7_sayFrom 95 = .ok (.iload 4, 2) := by decide +kernel
theorem dX7_sayFrom_97 : decode cX7_sayFrom 97 = .ok (.invokevirtual 42, 3) := by decide +kernel
theorem dX7_sayFrom_100 : decode cX7_sayFrom 100 = .ok (.ireturn, 1) := by decide +kernel
theorem dX7_say_0 : decode cX7_say 0 = .ok (.iload_n 1, 1) := by decide +kernel
theorem dX7_say_1 : decode cX7_say 1 = .ok (.lookupswitch 211 #[(10, 91), (11, 98), (12, 108), (13, 115), (20, 131), (30, 142), (40, 159), (50, 169), (60, 186), (70, 197)], 91) := by decide +kernel
theorem dX7_say_92 : decode cX7_say 92 = .ok (.iload_n 2, 1) := by decide +kernel
theorem dX7_say_93 : decode cX7_say 93 = .ok (.aload_n 0, 1) := by decide +kernel
theorem dX7_say_94 : decode cX7_say 94 = .ok (.getfield 22, 3) := by decide +kernel
theorem dX7_say_97 : decode cX7_say 97 = .ok (.iadd, 1) := by decide +kernel
theorem dX7_say_98 : decode cX7_say 98 = .ok (.ireturn, 1) := by decide +kernel
theorem dX7_say_99 : decode cX7_say 99 = .ok (.aload_n 0, 1) := by decide +kernel
theorem dX7_say_100 : decode cX7_say 100 = .ok (.iconst 0, 1) := by decide +kernel
theorem dX7_say_101 : decode cX7_say 101 = .ok (.iload_n 2, 1) := by decide +kernel
theorem dX7_say_102 : decode cX7_say 102 = .ok (.iload_n 3, 1) := by decide +kernel
theorem dX7_say_103 : decode cX7_say 103 = .ok (.invokevirtual 28, 3) := by decide +kernel
theorem dX7_say_106 : decode cX7_say 106 = .ok (.iconst 2, 1) := by decide +kernel
theorem dX7_say_107 : decode cX7_say 107 = .ok (.imul, 1) := by decide +kernel
theorem dX7_say_108 : decode cX7_say 108 = .ok (.ireturn, 1) := by decide +kernel
theorem dX7_say_109 : decode cX7_say 109 = .ok (.iload_n 2, 1) := by decide +kernel
theorem dX7_say_110 : decode cX7_say 110 = .ok (.aload_n 0, 1) := by decide +kernel
theorem dX7_say_111 : decode cX7_say 111 = .ok (.getfield 25, 3) := by decide +kernel
theorem dX7_say_114 : decode cX7_say 114 = .ok (.isub, 1) := by decide +kernel
theorem dX7_say_115 : decode cX7_say 115 = .ok (.ireturn, 1) := by decide +kernel
theorem dX7_say_116 : decode cX7_say 116 = .ok (.aload_n 0, 1) := by decide +kernel
theorem dX7_say_117 : decode cX7_say 117 = .ok (.iconst 1, 1) := by decide +kernel
theorem dX7_say_118 : decode cX7_say 118 = .ok (.iload_n 2, 1) := by decide +kernel
theorem dX7_say_119 : decode cX7_say 119 = .ok (.iload_n 3, 1) := by decide +kernel
theorem dX7_say_120 : decode cX7_say 120 = .ok (.invokevirtual 28, 3) := by decide +kernel
theorem dX7_say_123 : decode cX7_say 123 = .ok (.aload_n 0, 1) := by decide +kernel
theorem dX7_say_124 : decode cX7_say 124 = .ok (.iconst 2, 1) := by decide +kernel
theorem dX7_say_125 : decode cX7_say 125 = .ok (.iload_n 2, 1) := by decide +kernel
theorem dX7_say_126 : decode cX7_say 126 = .ok (.iload_n 3, 1) := by decide +kernel
theorem dX7_say_127 : decode cX7_say 127 = .ok (.invokevirtual 28, 3) := by decide +kernel
theorem dX7_say_130 : decode cX7_say 130 = .ok (.ixor, 1) := by decide +kernel
theorem dX7_say_131 : decode cX7_say 131 = .ok (.ireturn, 1) := by decide +kernel
theorem dX7_say_132 : decode cX7_say 132 = .ok (.aload_n 0, 1) := by decide +kernel
theorem dX7_say_133 : decode cX7_say 133 = .ok (.iload_n 1, 1) := by decide +kernel
theorem dX7_say_134 : decode cX7_say 134 = .ok (.iconst 0, 1) := by decide +kernel
theorem dX7_say_135 : decode cX7_say 135 = .ok (.iload_n 2, 1) := by decide +kernel
theorem dX7_say_136 : decode cX7_say 136 = .ok (.iload_n 3, 1) := by decide +kernel
theorem dX7_say_137 : decode cX7_say 137 = .ok (.invokevirtual 45, 3) := by decide +kernel
theorem dX7_say_140 : decode cX7_say 140 = .ok (.iconst 3, 1) := by decide +kernel
theorem dX7_say_141 : decode cX7_say 141 = .ok (.imul, 1) := by decide +kernel
theorem dX7_say_142 : decode cX7_say 142 = .ok (.ireturn, 1) := by decide +kernel
theorem dX7_say_143 : decode cX7_say 143 = .ok (.aload_n 0, 1) := by decide +kernel
theorem dX7_say_144 : decode cX7_say 144 = .ok (.iload_n 1, 1) := by decide +kernel
theorem dX7_say_145 : decode cX7_say 145 = .ok (.iconst 1, 1) := by decide +kernel
theorem dX7_say_146 : decode cX7_say 146 = .ok (.iload_n 2, 1) := by decide +kernel
theorem dX7_say_147 : decode cX7_say 147 = .ok (.iload_n 3, 1) := by decide +kernel
theorem dX7_say_148 : decode cX7_say 148 = .ok (.invokevirtual 45, 3) := by decide +kernel
theorem dX7_say_151 : decode cX7_say 151 = .ok (.aload_n 0, 1) := by decide +kernel
theorem dX7_say_152 : decode cX7_say 152 = .ok (.iconst 2, 1) := by decide +kernel
theorem dX7_say_153 : decode cX7_say 153 = .ok (.iconst 1, 1) := by decide +kernel
theorem dX7_say_154 : decode cX7_say 154 = .ok (.iload_n 3, 1) := by decide +kernel
theorem dX7_say_155 : decode cX7_say 155 = .ok (.invokevirtual 28, 3) := by decide +kernel
theorem dX7_say_158 : decode cX7_say 158 = .ok (.isub, 1) := by decide +kernel
theorem dX7_say_159 : decode cX7_say 159 = .ok (.ireturn, 1) := by decide +kernel
theorem dX7_say_160 : decode cX7_say 160 = .ok (.aload_n 0, 1) := by decide +kernel
theorem dX7_say_161 : decode cX7_say 161 = .ok (.iload_n 1, 1) := by decide +kernel
theorem dX7_say_162 : decode cX7_say 162 = .ok (.iconst 2, 1) := by decide +kernel
theorem dX7_say_163 : decode cX7_say 163 = .ok (.iload_n 2, 1) := by decide +kernel
theorem dX7_say_164 : decode cX7_say 164 = .ok (.iload_n 3, 1) := by decide +kernel
theorem dX7_say_165 : decode cX7_say 165 = .ok (.invokevirtual 45, 3) := by decide +kernel
theorem dX7_say_168 : decode cX7_say 168 = .ok (.ineg, 1) := by decide +kernel
theorem dX7_say_169 : decode cX7_say 169 = .ok (.ireturn, 1) := by decide +kernel
theorem dX7_say_170 : decode cX7_say 170 = .ok (.aload_n 0, 1) := by decide +kernel
theorem dX7_say_171 : decode cX7_say 171 = .ok (.iload_n 1, 1) := by decide +kernel
theorem dX7_say_172 : decode cX7_say 172 = .ok (.iconst 3, 1) := by decide +kernel
theorem dX7_say_173 : decode cX7_say 173 = .ok (.iload_n 2, 1) := by decide +kernel
theorem dX7_say_174 : decode cX7_say 174 = .ok (.iload_n 3, 1) := by decide +kernel
theorem dX7_say_175 : decode cX7_say 175 = .ok (.invokevirtual 45, 3) := by decide +kernel
theorem dX7_say_178 : decode cX7_say 178 = .ok (.aload_n 0, 1) := by decide +kernel
theorem dX7_say_179 : decode cX7_say 179 = .ok (.iconst 0, 1) := by decide +kernel
theorem dX7_say_180 : decode cX7_say 180 = .ok (.iconst 2, 1) := by decide +kernel
theorem dX7_say_181 : decode cX7_say 181 = .ok (.iload_n 3, 1) := by decide +kernel
theorem dX7_say_182 : decode cX7_say 182 = .ok (.invokevirtual 28, 3) := by decide +kernel
theorem dX7_say_185 : decode cX7_say 185 = .ok (.isub, 1) := by decide +kernel
theorem dX7_say_186 : decode cX7_say 186 = .ok (.ireturn, 1) := by decide +kernel
theorem dX7_say_187 : decode cX7_say 187 = .ok (.aload_n 0, 1) := by decide +kernel
theorem dX7_say_188 : decode cX7_say 188 = .ok (.iload_n 1, 1) := by decide +kernel
theorem dX7_say_189 : decode cX7_say 189 = .ok (.iconst 1, 1) := by decide +kernel
theorem dX7_say_190 : decode cX7_say 190 = .ok (.iload_n 2, 1) := by decide +kernel
theorem dX7_say_191 : decode cX7_say 191 = .ok (.iconst 1, 1) := by decide +kernel
theorem dX7_say_192 : decode cX7_say 192 = .ok (.iadd, 1) := by decide +kernel
theorem dX7_say_193 : decode cX7_say 193 = .ok (.iload_n 3, 1) := by decide +kernel
theorem dX7_say_194 : decode cX7_say 194 = .ok (.invokevirtual 45, 3) := by decide +kernel
theorem dX7_say_197 : decode cX7_say 197 = .ok (.ireturn, 1) := by decide +kernel
theorem dX7_say_198 : decode cX7_say 198 = .ok (.aload_n 0, 1) := by decide +kernel
theorem dX7_say_199 : decode cX7_say 199 = .ok (.iload_n 1, 1) := by decide +kernel
theorem dX7_say_200 : decode cX7_say 200 = .ok (.iconst 2, 1) := by decide +kernel
theorem dX7_say_201 : decode cX7_say 201 = .ok (.iload_n 2, 1) := by decide +kernel
theorem dX7_say_202 : decode cX7_say 202 = .ok (.iload_n 3, 1) := by decide +kernel
theorem dX7_say_203 : decode cX7_say 203 = .ok (.invokevirtual 45, 3) := by decide +kernel
theorem dX7_say_206 : decode cX7_say 206 = .ok (.aload_n 0, 1) := by decide +kernel
theorem dX7_say_207 : decode cX7_say 207 = .ok (.getfield 22, 3) := by decide +kernel
theorem dX7_say_210 : decode cX7_say 210 = .ok (.ixor, 1) := by decide +kernel
theorem dX7_say_211 : decode cX7_say 211 = .ok (.ireturn, 1) := by decide +kernel
theorem dX7_say_212 : decode cX7_say 212 = .ok (.aload_n 0, 1) := by decide +kernel
theorem dX7_say_213 : decode cX7_say 213 = .ok (.iconst 1, 1) := by decide +kernel
theorem dX7_say_214 : decode cX7_say 214 = .ok (.iload_n 2, 1) := by decide +kernel
theorem dX7_say_215 : decode cX7_say 215 = .ok (.iload_n 3, 1) := by decide +kernel
theorem dX7_say_216 : decode cX7_say 216 = .ok (.invokevirtual 28, 3) := by decide +kernel
theorem dX7_say_219 : decode cX7_say 219 = .ok (.aload_n 0, 1) := by decide +kernel
theorem dX7_say_220 : decode cX7_say 220 = .ok (.iload_n 1, 1) := by decide +kernel
theorem dX7_say_221 : decode cX7_say 221 = .ok (.iconst 3, 1) := by decide +kernel
theorem dX7_say_222 : decode cX7_say 222 = .ok (.iload_n 2, 1) := by decide +kernel
theorem dX7_say_223 : decode cX7_say 223 = .ok (.iload_n 3, 1) := by decide +kernel
theorem dX7_say_224 : decode cX7_say 224 = .ok (.invokevirtual 45, 3) := by decide +kernel
theorem dX7_say_227 : decode cX7_say 227 = .ok (.isub, 1) := by decide +kernel
theorem dX7_say_228 : decode cX7_say 228 = .ok (.ireturn, 1) := by decide +kernel
theorem dJ6_bitCount_0f7a4_0 : decode cJ6_bitCount_0f7a4 0 = .ok (.iload_n 0, 1) := by decide +kernel
theorem dJ6_bitCount_0f7a4_1 : decode cJ6_bitCount_0f7a4 1 = .ok (.iload_n 0, 1) := by decide +kernel
theorem dJ6_bitCount_0f7a4_2 : decode cJ6_bitCount_0f7a4 2 = .ok (.iconst 1, 1) := by decide +kernel
theorem dJ6_bitCount_0f7a4_3 : decode cJ6_bitCount_0f7a4 3 = .ok (.iushr, 1) := by decide +kernel
theorem dJ6_bitCount_0f7a4_4 : decode cJ6_bitCount_0f7a4 4 = .ok (.ldc_w 265, 3) := by decide +kernel
theorem dJ6_bitCount_0f7a4_7 : decode cJ6_bitCount_0f7a4 7 = .ok (.iand, 1) := by decide +kernel
theorem dJ6_bitCount_0f7a4_8 : decode cJ6_bitCount_0f7a4 8 = .ok (.isub, 1) := by decide +kernel
theorem dJ6_bitCount_0f7a4_9 : decode cJ6_bitCount_0f7a4 9 = .ok (.istore_n 0, 1) := by decide +kernel
theorem dJ6_bitCount_0f7a4_10 : decode cJ6_bitCount_0f7a4 10 = .ok (.iload_n 0, 1) := by decide +kernel
theorem dJ6_bitCount_0f7a4_11 : decode cJ6_bitCount_0f7a4 11 = .ok (.ldc_w 266, 3) := by decide +kernel
theorem dJ6_bitCount_0f7a4_14 : decode cJ6_bitCount_0f7a4 14 = .ok (.iand, 1) := by decide +kernel
theorem dJ6_bitCount_0f7a4_15 : decode cJ6_bitCount_0f7a4 15 = .ok (.iload_n 0, 1) := by decide +kernel
theorem dJ6_bitCount_0f7a4_16 : decode cJ6_bitCount_0f7a4 16 = .ok (.iconst 2, 1) := by decide +kernel
theorem dJ6_bitCount_0f7a4_17 : decode cJ6_bitCount_0f7a4 17 = .ok (.iushr, 1) := by decide +kernel
theorem dJ6_bitCount_0f7a4_18 : decode cJ6_bitCount_0f7a4 18 = .ok (.ldc_w 266, 3) := by decide +kernel
theorem dJ6_bitCount_0f7a4_21 : decode cJ6_bitCount_0f7a4 21 = .ok (.iand, 1) := by decide +kernel
theorem dJ6_bitCount_0f7a4_22 : decode cJ6_bitCount_0f7a4 22 = .ok (.iadd, 1) := by decide +kernel
theorem dJ6_bitCount_0f7a4_23 : decode cJ6_bitCount_0f7a4 23 = .ok (.istore_n 0, 1) := by decide +kernel
theorem dJ6_bitCount_0f7a4_24 : decode cJ6_bitCount_0f7a4 24 = .ok (.iload_n 0, 1) := by decide +kernel
theorem dJ6_bitCount_0f7a4_25 : decode cJ6_bitCount_0f7a4 25 = .ok (.iload_n 0, 1) := by decide +kernel
theorem dJ6_bitCount_0f7a4_26 : decode cJ6_bitCount_0f7a4 26 = .ok (.iconst 4, 1) := by decide +kernel
theorem dJ6_bitCount_0f7a4_27 : decode cJ6_bitCount_0f7a4 27 = .ok (.iushr, 1) := by decide +kernel
theorem dJ6_bitCount_0f7a4_28 : decode cJ6_bitCount_0f7a4 28 = .ok (.iadd, 1) := by decide +kernel
theorem dJ6_bitCount_0f7a4_29 : decode cJ6_bitCount_0f7a4 29 = .ok (.ldc_w 267, 3) := by decide +kernel
theorem dJ6_bitCount_0f7a4_32 : decode cJ6_bitCount_0f7a4 32 = .ok (.iand, 1) := by decide +kernel
theorem dJ6_bitCount_0f7a4_33 : decode cJ6_bitCount_0f7a4 33 = .ok (.istore_n 0, 1) := by decide +kernel
theorem dJ6_bitCount_0f7a4_34 : decode cJ6_bitCount_0f7a4 34 = .ok (.iload_n 0, 1) := by decide +kernel
theorem dJ6_bitCount_0f7a4_35 : decode cJ6_bitCount_0f7a4 35 = .ok (.iload_n 0, 1) := by decide +kernel
theorem dJ6_bitCount_0f7a4_36 : decode cJ6_bitCount_0f7a4 36 = .ok (.bipush 8, 2) := by decide +kernel
theorem dJ6_bitCount_0f7a4_38 : decode cJ6_bitCount_0f7a4 38 = .ok (.iushr, 1) := by decide +kernel
theorem dJ6_bitCount_0f7a4_39 : decode cJ6_bitCount_0f7a4 39 = .ok (.iadd, 1) := by decide +kernel
theorem dJ6_bitCount_0f7a4_40 : decode cJ6_bitCount_0f7a4 40 = .ok (.istore_n 0, 1) := by decide +kernel
theorem dJ6_bitCount_0f7a4_41 : decode cJ6_bitCount_0f7a4 41 = .ok (.iload_n 0, 1) := by decide +kernel
theorem dJ6_bitCount_0f7a4_42 : decode cJ6_bitCount_0f7a4 42 = .ok (.iload_n 0, 1) := by decide +kernel
theorem dJ6_bitCount_0f7a4_43 : decode cJ6_bitCount_0f7a4 43 = .ok (.bipush 16, 2) := by decide +kernel
theorem dJ6_bitCount_0f7a4_45 : decode cJ6_bitCount_0f7a4 45 = .ok (.iushr, 1) := by decide +kernel
theorem dJ6_bitCount_0f7a4_46 : decode cJ6_bitCount_0f7a4 46 = .ok (.iadd, 1) := by decide +kernel
theorem dJ6_bitCount_0f7a4_47 : decode cJ6_bitCount_0f7a4 47 = .ok (.istore_n 0, 1) := by decide +kernel
theorem dJ6_bitCount_0f7a4_48 : decode cJ6_bitCount_0f7a4 48 = .ok (.iload_n 0, 1) := by decide +kernel
theorem dJ6_bitCount_0f7a4_49 : decode cJ6_bitCount_0f7a4 49 = .ok (.bipush 63, 2) := by decide +kernel
theorem dJ6_bitCount_0f7a4_51 : decode cJ6_bitCount_0f7a4 51 = .ok (.iand, 1) := by decide +kernel
theorem dJ6_bitCount_0f7a4_52 : decode cJ6_bitCount_0f7a4 52 = .ok (.ireturn, 1) := by decide +kernel
theorem dJ9_max_7cf53_0 : decode cJ9_max_7cf53 0 = .ok (.iload_n 0, 1) := by decide +kernel
theorem dJ9_max_7cf53_1 : decode cJ9_max_7cf53 1 = .ok (.iload_n 1, 1) := by decide +kernel
theorem dJ9_max_7cf53_2 : decode cJ9_max_7cf53 2 = .ok (.if_icmp .lt 7, 3) := by decide +kernel
theorem dJ9_max_7cf53_5 : decode cJ9_max_7cf53 5 = .ok (.iload_n 0, 1) := by decide +kernel
theorem dJ9_max_7cf53_6 : decode cJ9_max_7cf53 6 = .ok (.goto 4, 3) := by decide +kernel
theorem dJ9_max_7cf53_9 : decode cJ9_max_7cf53 9 = .ok (.iload_n 1, 1) := by decide +kernel
theorem dJ9_max_7cf53_10 : decode cJ9_max_7cf53 10 = .ok (.ireturn, 1) := by decide +kernel
theorem dJ9_min_7cf53_0 : decode cJ9_min_7cf53 0 = .ok (.iload_n 0, 1) := by decide +kernel
theorem dJ9_min_7cf53_1 : decode cJ9_min_7cf53 1 = .ok (.iload_n 1, 1) := by decide +kernel
theorem dJ9_min_7cf53_2 : decode cJ9_min_7cf53 2 = .ok (.if_icmp .gt 7, 3) := by decide +kernel
theorem dJ9_min_7cf53_5 : decode cJ9_min_7cf53 5 = .ok (.iload_n 0, 1) := by decide +kernel
theorem dJ9_min_7cf53_6 : decode cJ9_min_7cf53 6 = .ok (.goto 4, 3) := by decide +kernel
theorem dJ9_min_7cf53_9 : decode cJ9_min_7cf53 9 = .ok (.iload_n 1, 1) := by decide +kernel
theorem dJ9_min_7cf53_10 : decode cJ9_min_7cf53 10 = .ok (.ireturn, 1) := by decide +kernel
theorem dJ0_length_8abf5_0 : decode cJ0_length_8abf5 0 = .ok (.aload_n 0, 1) := by decide +kernel
theorem dJ0_length_8abf5_1 : decode cJ0_length_8abf5 1 = .ok (.getfield 9, 3) := by decide +kernel
theorem dJ0_length_8abf5_4 : decode cJ0_length_8abf5 4 = .ok (.arraylength, 1) := by decide +kernel
theorem dJ0_length_8abf5_5 : decode cJ0_length_8abf5 5 = .ok (.aload_n 0, 1) := by decide +kernel
theorem dJ0_length_8abf5_6 : decode cJ0_length_8abf5 6 = .ok (.invokevirtual 335, 3) := by decide +kernel
theorem dJ0_length_8abf5_9 : decode cJ0_length_8abf5 9 = .ok (.ishr, 1) := by decide +kernel
theorem dJ0_length_8abf5_10 : decode cJ0_length_8abf5 10 = .ok (.ireturn, 1) := by decide +kernel
theorem dJ0_charAt_5068e_0 : decode cJ0_charAt_5068e 0 = .ok (.aload_n 0, 1) := by decide +kernel
theorem dJ0_charAt_5068e_1 : decode cJ0_charAt_5068e 1 = .ok (.invokevirtual 492, 3) := by decide +kernel
theorem dJ0_charAt_5068e_4 : decode cJ0_charAt_5068e 4 = .ok (.ifCond .eq 12, 3) := by decide +kernel
theorem dJ0_charAt_5068e_7 : decode cJ0_charAt_5068e 7 = .ok (.aload_n 0, 1) := by decide +kernel
theorem dJ0_charAt_5068e_8 : decode cJ0_charAt_5068e 8 = .ok (.getfield 9, 3) := by decide +kernel
theorem dJ0_charAt_5068e_11 : decode cJ0_charAt_5068e 11 = .ok (.iload_n 1, 1) := by decide +kernel
theorem dJ0_charAt_5068e_12 : decode cJ0_charAt_5068e 12 = .ok (.invokestatic 495, 3) := by decide +kernel
theorem dJ0_charAt_5068e_15 : decode cJ0_charAt_5068e 15 = .ok (.ireturn, 1) := by decide +kernel
theorem dJ0_charAt_5068e_16 : decode cJ0_charAt_5068e 16 = .ok (.aload_n 0, 1) := by decide +kernel
theorem dJ0_charAt_5068e_17 : decode cJ0_charAt_5068e 17 = .ok (.getfield 9, 3) := by decide +kernel
theorem dJ0_charAt_5068e_20 : decode cJ0_charAt_5068e 20 = .ok (.iload_n 1, 1) := by decide +kernel
theorem dJ0_charAt_5068e_21 : decode cJ0_charAt_5068e 21 = .ok (.invokestatic 498, 3) := by decide +kernel
theorem dJ0_charAt_5068e_24 : decode cJ0_charAt_5068e 24 = .ok (.ireturn, 1) := by decide +kernel
theorem dJ0_coder_7d493_0 : decode cJ0_coder_7d493 0 = .ok (.getstatic 38, 3) := by decide +kernel
theorem dJ0_coder_7d493_3 : decode cJ0_coder_7d493 3 = .ok (.ifCond .eq 10, 3) := by decide +kernel
theorem dJ0_coder_7d493_6 : decode cJ0_coder_7d493 6 = .ok (.aload_n 0, 1) := by decide +kernel
theorem dJ0_coder_7d493_7 : decode cJ0_coder_7d493 7 = .ok (.getfield 15, 3) := by decide +kernel
theorem dJ0_coder_7d493_10 : decode cJ0_coder_7d493 10 = .ok (.goto 4, 3) := by decide +kernel
theorem dJ0_coder_7d493_13 : decode cJ0_coder_7d493 13 = .ok (.iconst 1, 1) := by decide +kernel
theorem dJ0_coder_7d493_14 : decode cJ0_coder_7d493 14 = .ok (.ireturn, 1) := by decide +kernel
theorem dJ0_isLatin1_aae02_0 : decode cJ0_isLatin1_aae02 0 = .ok (.getstatic 38, 3) := by decide +kernel
theorem dJ0_isLatin1_aae02_3 : decode cJ0_isLatin1_aae02 3 = .ok (.ifCond .eq 14, 3) := by decide +kernel
theorem dJ0_isLatin1_aae02_6 : decode cJ0_isLatin1_aae02 6 = .ok (.aload_n 0, 1) := by decide +kernel
theorem dJ0_isLatin1_aae02_7 : decode cJ0_isLatin1_aae02 7 = .ok (.getfield 15, 3) := by decide +kernel
theorem dJ0_isLatin1_aae02_10 : decode cJ0_isLatin1_aae02 10 = .ok (.ifCond .ne 7, 3) := by decide +kernel
theorem dJ0_isLatin1_aae02_13 : decode cJ0_isLatin1_aae02 13 = .ok (.iconst 1, 1) := by decide +kernel
theorem dJ0_isLatin1_aae02_14 : decode cJ0_isLatin1_aae02 14 = .ok (.goto 4, 3) := by decide +kernel
theorem dJ0_isLatin1_aae02_17 : decode cJ0_isLatin1_aae02 17 = .ok (.iconst 0, 1) := by decide +kernel
theorem dJ0_isLatin1_aae02_18 : decode cJ0_isLatin1_aae02 18 = .ok (.ireturn, 1) := by decide +kernel
theorem dJ0_checkIndex_df160_0 : decode cJ0_checkIndex_df160 0 = .ok (.iload_n 0, 1) := by decide +kernel
theorem dJ0_checkIndex_df160_1 : decode cJ0_checkIndex_df160 1 = .ok (.iload_n 1, 1) := by decide +kernel
theorem dJ0_checkIndex_df160_2 : decode cJ0_checkIndex_df160 2 = .ok (.getstatic 1053, 3) := by decide +kernel
theorem dJ0_checkIndex_df160_5 : decode cJ0_checkIndex_df160 5 = .ok (.invokestatic 1059, 3) := by decide +kernel
theorem dJ0_checkIndex_df160_8 : decode cJ0_checkIndex_df160 8 = .ok (.pop, 1) := by decide +kernel
theorem dJ0_checkIndex_df160_9 : decode cJ0_checkIndex_df160 9 = .ok (.return_, 1) := by decide +kernel
theorem dJ1_charAt_3b067_0 : decode cJ1_charAt_3b067 0 = .ok (.iload_n 1, 1) := by decide +kernel
theorem dJ1_charAt_3b067_1 : decode cJ1_charAt_3b067 1 = .ok (.aload_n 0, 1) := by decide +kernel
theorem dJ1_charAt_3b067_2 : decode cJ1_charAt_3b067 2 = .ok (.arraylength, 1) := by decide +kernel
theorem dJ1_charAt_3b067_3 : decode cJ1_charAt_3b067 3 = .ok (.invokestatic 9, 3) := by decide +kernel
theorem dJ1_charAt_3b067_6 : decode cJ1_charAt_3b067 6 = .ok (.aload_n 0, 1) := by decide +kernel
theorem dJ1_charAt_3b067_7 : decode cJ1_charAt_3b067 7 = .ok (.iload_n 1, 1) := by decide +kernel
theorem dJ1_charAt_3b067_8 : decode cJ1_charAt_3b067 8 = .ok (.baload, 1) := by decide +kernel
theorem dJ1_charAt_3b067_9 : decode cJ1_charAt_3b067 9 = .ok (.sipush 255, 3) := by decide +kernel
theorem dJ1_charAt_3b067_12 : decode cJ1_charAt_3b067 12 = .ok (.iand, 1) := by decide +kernel
theorem dJ1_charAt_3b067_13 : decode cJ1_charAt_3b067 13 = .ok (.i2c, 1) := by decide +kernel
theorem dJ1_charAt_3b067_14 : decode cJ1_charAt_3b067 14 = .ok (.ireturn, 1) := by decide +kernel
theorem dJ2_getChar_3b067_0 : decode cJ2_getChar_3b067 0 = .ok (.getstatic 44, 3) := by decide +kernel
theorem dJ2_getChar_3b067_3 : decode cJ2_getChar_3b067 3 = .ok (.ifCond .ne 25, 3) := by decide +kernel
theorem dJ2_getChar_3b067_6 : decode cJ2_getChar_3b067 6 = .ok (.iload_n 1, 1) := by decide +kernel
theorem dJ2_getChar_3b067_7 : decode cJ2_getChar_3b067 7 = .ok (.ifCond .lt 11, 3) := by decide +kernel
theorem dJ2_getChar_3b067_10 : decode cJ2_getChar_3b067 10 = .ok (.iload_n 1, 1) := by decide +kernel
theorem dJ2_getChar_3b067_11 : decode cJ2_getChar_3b067 11 = .ok (.aload_n 0, 1) := by decide +kernel
theorem dJ2_getChar_3b067_12 : decode cJ2_getChar_3b067 12 = .ok (.invokestatic 48, 3) := by decide +kernel
theorem dJ2_getChar_3b067_15 : decode cJ2_getChar_3b067 15 = .ok (.if_icmp .lt 13, 3) := by decide +kernel
theorem dJ2_getChar_3b067_18 : decode cJ2_getChar_3b067 18 = .ok (.new 52, 3) := by decide +kernel
theorem dJ2_getChar_3b067_21 : decode cJ2_getChar_3b067 21 = .ok (.dup, 1) := by decide +kernel
theorem dJ2_getChar_3b067_22 : decode cJ2_getChar_3b067 22 = .ok (.ldc 54, 2) := by decide +kernel
theorem dJ2_getChar_3b067_24 : decode cJ2_getChar_3b067 24 = .ok (.invokespecial 56, 3) := by decide +kernel
theorem dJ2_getChar_3b067_27 : decode cJ2_getChar_3b067 27 = .ok (.athrow, 1) := by decide +kernel
theorem dJ2_getChar_3b067_28 : decode cJ2_getChar_3b067 28 = .ok (.iload_n 1, 1) := by decide +kernel
theorem dJ2_getChar_3b067_29 : decode cJ2_getChar_3b067 29 = .ok (.iconst 1, 1) := by decide +kernel
theorem dJ2_getChar_3b067_30 : decode cJ2_getChar_3b067 30 = .ok (.ishl, 1) := by decide +kernel
theorem dJ2_getChar_3b067_31 : decode cJ2_getChar_3b067 31 = .ok (.istore_n 1, 1) := by decide +kernel
theorem dJ2_getChar_3b067_32 : decode cJ2_getChar_3b067 32 = .ok (.aload_n 0, 1) := by decide +kernel
theorem dJ2_getChar_3b067_33 : decode cJ2_getChar_3b067 33 = .ok (.iload_n 1, 1) := by decide +kernel
theorem dJ2_getChar_3b067_34 : decode cJ2_getChar_3b067 34 = .ok (.iinc 1 1, 3) := by decide +kernel
theorem dJ2_getChar_3b067_37 : decode cJ2_getChar_3b067 37 = .ok (.baload, 1) := by decide +kernel
theorem dJ2_getChar_3b067_38 : decode cJ2_getChar_3b067 38 = .ok (.sipush 255, 3) := by decide +kernel
theorem dJ2_getChar_3b067_41 : decode cJ2_getChar_3b067 41 = .ok (.iand, 1) := by decide +kernel
theorem dJ2_getChar_3b067_42 : decode cJ2_getChar_3b067 42 = .ok (.getstatic 59, 3) := by decide +kernel
theorem dJ2_getChar_3b067_45 : decode cJ2_getChar_3b067 45 = .ok (.ishl, 1) := by decide +kernel
theorem dJ2_getChar_3b067_46 : decode cJ2_getChar_3b067 46 = .ok (.aload_n 0, 1) := by decide +kernel
theorem dJ2_getChar_3b067_47 : decode cJ2_getChar_3b067 47 = .ok (.iload_n 1, 1) := by decide +kernel
theorem dJ2_getChar_3b067_48 : decode cJ2_getChar_3b067 48 = .ok (.baload, 1) := by decide +kernel
theorem dJ2_getChar_3b067_49 : decode cJ2_getChar_3b067 49 = .ok (.sipush 255, 3) := by decide +kernel
theorem dJ2_getChar_3b067_52 : decode cJ2_getChar_3b067 52 = .ok (.iand, 1) := by decide +kernel
theorem dJ2_getChar_3b067_53 : decode cJ2_getChar_3b067 53 = .ok (.getstatic 63, 3) := by decide +kernel
theorem dJ2_getChar_3b067_56 : decode cJ2_getChar_3b067 56 = .ok (.ishl, 1) := by decide +kernel
theorem dJ2_getChar_3b067_57 : decode cJ2_getChar_3b067 57 = .ok (.ior, 1) := by decide +kernel
theorem dJ2_getChar_3b067_58 : decode cJ2_getChar_3b067 58 = .ok (.i2c, 1) := by decide +kernel
theorem dJ2_getChar_3b067_59 : decode cJ2_getChar_3b067 59 = .ok (.ireturn, 1) := by decide +kernel
theorem dJ2_length_9d52b_0 : decode cJ2_length_9d52b 0 = .ok (.aload_n 0, 1) := by decide +kernel
theorem dJ2_length_9d52b_1 : decode cJ2_length_9d52b 1 = .ok (.arraylength, 1) := by decide +kernel
theorem dJ2_length_9d52b_2 : decode cJ2_length_9d52b 2 = .ok (.iconst 1, 1) := by decide +kernel
theorem dJ2_length_9d52b_3 : decode cJ2_length_9d52b 3 = .ok (.ishr, 1) := by decide +kernel
theorem dJ2_length_9d52b_4 : decode cJ2_length_9d52b 4 = .ok (.ireturn, 1) := by decide +kernel
theorem dJ2_charAt_3b067_0 : decode cJ2_charAt_3b067 0 = .ok (.iload_n 1, 1) := by decide +kernel
theorem dJ2_charAt_3b067_1 : decode cJ2_charAt_3b067 1 = .ok (.aload_n 0, 1) := by decide +kernel
theorem dJ2_charAt_3b067_2 : decode cJ2_charAt_3b067 2 = .ok (.invokestatic 67, 3) := by decide +kernel
theorem dJ2_charAt_3b067_5 : decode cJ2_charAt_3b067 5 = .ok (.aload_n 0, 1) := by decide +kernel
theorem dJ2_charAt_3b067_6 : decode cJ2_charAt_3b067 6 = .ok (.iload_n 1, 1) := by decide +kernel
theorem dJ2_charAt_3b067_7 : decode cJ2_charAt_3b067 7 = .ok (.invokestatic 71, 3) := by decide +kernel
theorem dJ2_charAt_3b067_10 : decode cJ2_charAt_3b067 10 = .ok (.ireturn, 1) := by decide +kernel
theorem dJ2_checkIndex_2214a_0 : decode cJ2_checkIndex_2214a 0 = .ok (.iload_n 0, 1) := by decide +kernel
theorem dJ2_checkIndex_2214a_1 : decode cJ2_checkIndex_2214a 1 = .ok (.aload_n 1, 1) := by decide +kernel
theorem dJ2_checkIndex_2214a_2 : decode cJ2_checkIndex_2214a 2 = .ok (.invokestatic 48, 3) := by decide +kernel
theorem dJ2_checkIndex_2214a_5 : decode cJ2_checkIndex_2214a 5 = .ok (.invokestatic 414, 3) := by decide +kernel
theorem dJ2_checkIndex_2214a_8 : decode cJ2_checkIndex_2214a 8 = .ok (.return_, 1) := by decide +kernel
theorem dJ3_checkIndex_8e157_0 : decode cJ3_checkIndex_8e157 0 = .ok (.iload_n 0, 1) := by decide +kernel
theorem dJ3_checkIndex_8e157_1 : decode cJ3_checkIndex_8e157 1 = .ok (.ifCond .lt 8, 3) := by decide +kernel
theorem dJ3_checkIndex_8e157_4 : decode cJ3_checkIndex_8e157 4 = .ok (.iload_n 0, 1) := by decide +kernel
theorem dJ3_checkIndex_8e157_5 : decode cJ3_checkIndex_8e157 5 = .ok (.iload_n 1, 1) := by decide +kernel
theorem dJ3_checkIndex_8e157_6 : decode cJ3_checkIndex_8e157 6 = .ok (.if_icmp .lt 10, 3) := by decide +kernel
theorem dJ3_checkIndex_8e157_9 : decode cJ3_checkIndex_8e157 9 = .ok (.aload_n 2, 1) := by decide +kernel
theorem dJ3_checkIndex_8e157_10 : decode cJ3_checkIndex_8e157 10 = .ok (.iload_n 0, 1) := by decide +kernel
theorem dJ3_checkIndex_8e157_11 : decode cJ3_checkIndex_8e157 11 = .ok (.iload_n 1, 1) := by decide +kernel
theorem dJ3_checkIndex_8e157_12 : decode cJ3_checkIndex_8e157 12 = .ok (.invokestatic 95, 3) := by decide +kernel
theorem dJ3_checkIndex_8e157_15 : decode cJ3_checkIndex_8e157 15 = .ok (.athrow, 1) := by decide +kernel
theorem dJ3_checkIndex_8e157_16 : decode cJ3_checkIndex_8e157 16 = .ok (.iload_n 0, 1) := by decide +kernel
theorem dJ3_checkIndex_8e157_17 : decode cJ3_checkIndex_8e157 17 = .ok (.ireturn, 1) := by decide +kernel
end
section
theorem dX8_init_0 : decode cX8_init 0 = .ok (.aload_n 0, 1) := by decide +kernel
theorem dX8_init_1 : decode cX8_init 1 = .ok (.invokespecial 1, 3) := by decide +kernel
theorem dX8_init_4 : decode cX8_init 4 = .ok (.aload_n 0, 1) := by decide +kernel
theorem dX8_init_5 : decode cX8_init 5 = .ok (.new 7, 3) := by decide +kernel
theorem dX8_init_8 : decode cX8_init 8 = .ok (.dup, 1) := by decide +kernel
theorem dX8_init_9 : decode cX8_init 9 = .ok (.invokespecial 9, 3) := by decide +kernel
theorem dX8_init_12 : decode cX8_init 12 = .ok (.putfield 10, 3) := by decide +kernel
theorem dX8_init_15 : decode cX8_init 15 = .ok (.aload_n 0, 1) := by decide +kernel
theorem dX8_init_16 : decode cX8_init 16 = .ok (.new 16, 3) := by decide +kernel
theorem dX8_init_19 : decode cX8_init 19 = .ok (.dup, 1) := by decide +kernel
theorem dX8_init_20 : decode cX8_init 20 = .ok (.invokespecial 18, 3) := by decide +kernel
theorem dX8_init_23 : decode cX8_init 23 = .ok (.putfield 19, 3) := by decide +kernel
theorem dX8_init_26 : decode cX8_init 26 = .ok (.aload_n 0, 1) := by decide +kernel
theorem dX8_init_27 : decode cX8_init 27 = .ok (.new 23, 3) := by decide +kernel
theorem dX8_init_30 : decode cX8_init 30 = .ok (.dup, 1) := by decide +kernel
theorem dX8_init_31 : decode cX8_init 31 = .ok (.invokespecial 25, 3) := by decide +kernel
theorem dX8_init_34 : decode cX8_init 34 = .ok (.putfield 26, 3) := by decide +kernel
theorem dX8_init_37 : decode cX8_init 37 = .ok (.aload_n 0, 1) := by decide +kernel
theorem dX8_init_38 : decode cX8_init 38 = .ok (.new 7, 3) := by decide +kernel
theorem dX8_init_41 : decode cX8_init 41 = .ok (.dup, 1) := by decide +kernel
theorem dX8_init_42 : decode cX8_init 42 = .ok (.invokespecial 9, 3) := by decide +kernel
theorem dX8_init_45 : decode cX8_init 45 = .ok (.putfield 30, 3) := by decide +kernel
theorem dX8_init_48 : decode cX8_init 48 = .ok (.aload_n 0, 1) := by decide +kernel
theorem dX8_init_49 : decode cX8_init 49 = .ok (.new 16, 3) := by decide +kernel
theorem dX8_init_52 : decode cX8_init 52 = .ok (.dup, 1) := by decide +kernel
theorem dX8_init_53 : decode cX8_init 53 = .ok (.invokespecial 18, 3) := by decide +kernel
theorem dX8_init_56 : decode cX8_init 56 = .ok (.putfield 33, 3) := by decide +kernel
theorem dX8_init_59 : decode cX8_init 59 = .ok (.aload_n 0, 1) := by decide +kernel
theorem dX8_init_60 : decode cX8_init 60 = .ok (.new 23, 3) := by decide +kernel
theorem dX8_init_63 : decode cX8_init 63 = .ok (.dup, 1) := by decide +kernel
theorem dX8_init_64 : decode cX8_init 64 = .ok (.invokespecial 25, 3) := by decide +kernel
theorem dX8_init_67 : decode cX8_init 67 = .ok (.putfield 36, 3) := by decide +kernel
theorem dX8_init_70 : decode cX8_init 70 = .ok (.aload_n 0, 1) := by decide +kernel
theorem dX8_init_71 : decode cX8_init 71 = .ok (.iconst 0, 1) := by decide +kernel
theorem dX8_init_72 : decode cX8_init 72 = .ok (.putfield 39, 3) := by decide +kernel
theorem dX8_init_75 : decode cX8_init 75 = .ok (.aload_n 0, 1) := by decide +kernel
theorem dX8_init_76 : decode cX8_init 76 = .ok (.new 16, 3) := by decide +kernel
theorem dX8_init_79 : decode cX8_init 79 = .ok (.dup, 1) := by decide +kernel
theorem dX8_init_80 : decode cX8_init 80 = .ok (.invokespecial 18, 3) := by decide +kernel
theorem dX8_init_83 : decode cX8_init 83 = .ok (.putfield 43, 3) := by decide +kernel
theorem dX8_init_86 : decode cX8_init 86 = .ok (.aload_n 0, 1) := by decide +kernel
theorem dX8_init_87 : decode cX8_init 87 = .ok (.new 46, 3) := by decide +kernel
theorem dX8_init_90 : decode cX8_init 90 = .ok (.dup, 1) := by decide +kernel
theorem dX8_init_91 : decode cX8_init 91 = .ok (.invokespecial 48, 3) := by decide +kernel
theorem dX8_init_94 : decode cX8_init 94 = .ok (.putfield 49, 3) := by decide +kernel
theorem dX8_init_97 : decode cX8_init 97 = .ok (.aload_n 0, 1) := by decide +kernel
theorem dX8_init_98 : decode cX8_init 98 = .ok (.new 53, 3) := by decide +kernel
theorem dX8_init_101 : decode cX8_init 101 = .ok (.dup, 1) := by decide +kernel
theorem dX8_init_102 : decode cX8_init 102 = .ok (.invokespecial 55, 3) := by decide +kernel
theorem dX8_init_105 : decode cX8_init 105 = .ok (.putfield 56, 3) := by decide +kernel
theorem dX8_init_108 : decode cX8_init 108 = .ok (.aload_n 0, 1) := by decide +kernel
theorem dX8_init_109 : decode cX8_init 109 = .ok (.new 60, 3) := by decide +kernel
theorem dX8_init_112 : decode cX8_init 112 = .ok (.dup, 1) := by decide +kernel
theorem dX8_init_113 : decode cX8_init 113 = .ok (.invokespecial 62, 3) := by decide +kernel
theorem dX8_init_116 : decode cX8_init 116 = .ok (.putfield 63, 3) := by decide +kernel
theorem dX8_init_119 : decode cX8_init 119 = .ok (.aload_n 0, 1) := by decide +kernel
theorem dX8_init_120 : decode cX8_init 120 = .ok (.iconst 4, 1) := by decide +kernel
theorem dX8_init_121 : decode cX8_init 121 = .ok (.anewarray 67, 3) := by decide +kernel
theorem dX8_init_124 : decode cX8_init 124 = .ok (.dup, 1) := by decide +kernel
theorem dX8_init_125 : decode cX8_init 125 = .ok (.iconst 0, 1) := by decide +kernel
theorem dX8_init_126 : decode cX8_init 126 = .ok (.new 67, 3) := by decide +kernel
theorem dX8_init_129 : decode cX8_init 129 = .ok (.dup, 1) := by decide +kernel
theorem dX8_init_130 : decode cX8_init 130 = .ok (.invokespecial 69, 3) := by decide +kernel
theorem dX8_init_133 : decode cX8_init 133 = .ok (.aastore, 1) := by decide +kernel
theorem dX8_init_134 : decode cX8_init 134 = .ok (.dup, 1) := by decide +kernel
theorem dX8_init_135 : decode cX8_init 135 = .ok (.iconst 1, 1) := by decide +kernel
theorem dX8_init_136 : decode cX8_init 136 = .ok (.new 67, 3) := by decide +kernel
theorem dX8_init_139 : decode cX8_init 139 = .ok (.dup, 1) := by decide +kernel
theorem dX8_init_140 : decode cX8_init 140 = .ok (.invokespecial 69, 3) := by decide +kernel
theorem dX8_init_143 : decode cX8_init 143 = .ok (.aastore, 1) := by decide +kernel
theorem dX8_init_144 : decode cX8_init 144 = .ok (.dup, 1) := by decide +kernel
theorem dX8_init_145 : decode cX8_init 145 = .ok (.iconst 2, 1) := by decide +kernel
theorem dX8_init_146 : decode cX8_init 146 = .ok (.new 67, 3) := by decide +kernel
theorem dX8_init_149 : decode cX8_init 149 = .ok (.dup, 1) := by decide +kernel
theorem dX8_init_150 : decode cX8_init 150 = .ok (.invokespecial 69, 3) := by decide +kernel
theorem dX8_init_153 : decode cX8_init 153 = .ok (.aastore, 1) := by decide +kernel
theorem dX8_init_154 : decode cX8_init 154 = .ok (.dup, 1) := by decide +kernel
theorem dX8_init_155 : decode cX8_init 155 = .ok (.iconst 3, 1) := by decide +kernel
theorem dX8_init_156 : decode cX8_init 156 = .ok (.new 67, 3) := by decide +kernel
theorem dX8_init_159 : decode cX8_init 159 = .ok (.dup, 1) := by decide +kernel
theorem dX8_init_160 : decode cX8_init 160 = .ok (.invokespecial 69, 3) := by decide +kernel
theorem dX8_init_163 : decode cX8_init 163 = .ok (.aastore, 1) := by decide +kernel
theorem dX8_init_164 : decode cX8_init 164 = .ok (.putfield 70, 3) := by decide +kernel
theorem dX8_init_167 : decode cX8_init 167 = .ok (.aload_n 0, 1) := by decide +kernel
theorem dX8_init_168 : decode cX8_init 168 = .ok (.bipush 6, 2) := by decide +kernel
theorem dX8_init_170 : decode cX8_init 170 = .ok (.newarray .int, 2) := by decide +kernel
theorem dX8_init_172 : decode cX8_init 172 = .ok (.putfield 74, 3) := by decide +kernel
theorem dX8_init_175 : decode cX8_init 175 = .ok (.aload_n 0, 1) := by decide +kernel
theorem dX8_init_176 : decode cX8_init 176 = .ok (.getfield 10, 3) := by decide +kernel
theorem dX8_init_179 : decode cX8_init 179 = .ok (.bipush 8, 2) := by decide +kernel
theorem dX8_init_181 : decode cX8_init 181 = .ok (.invokevirtual 78, 3) := by decide +kernel
theorem dX8_init_184 : decode cX8_init 184 = .ok (.return_, 1) := by decide +kernel
theorem dX8_bay_0 : decode cX8_bay 0 = .ok (.iload_n 1, 1) := by decide +kernel
theorem dX8_bay_1 : decode cX8_bay 1 = .ok (.iconst 3, 1) := by decide +kernel
theorem dX8_bay_2 : decode cX8_bay 2 = .ok (.bipush 8, 2) := by decide +kernel
theorem dX8_bay_4 : decode cX8_bay 4 = .ok (.invokestatic 82, 3) := by decide +kernel
theorem dX8_bay_7 : decode cX8_bay 7 = .ok (.ifCond .ne 9, 3) := by decide +kernel
theorem dX8_bay_10 : decode cX8_bay 10 = .ok (.aload_n 0, 1) := by decide +kernel
theorem dX8_bay_11 : decode cX8_bay 11 = .ok (.iconst 1, 1) := by decide +kernel
theorem dX8_bay_12 : decode cX8_bay 12 = .ok (.invokevirtual 86, 3) := by decide +kernel
theorem dX8_bay_15 : decode cX8_bay 15 = .ok (.ireturn, 1) := by decide +kernel
theorem dX8_bay_16 : decode cX8_bay 16 = .ok (.aload_n 0, 1) := by decide +kernel
theorem dX8_bay_17 : decode cX8_bay 17 = .ok (.getfield 19, 3) := by decide +kernel
theorem dX8_bay_20 : decode cX8_bay 20 = .ok (.getfield 90, 3) := by decide +kernel
theorem dX8_bay_23 : decode cX8_bay 23 = .ok (.ifCond .le 9, 3) := by decide +kernel
theorem dX8_bay_26 : decode cX8_bay 26 = .ok (.aload_n 0, 1) := by decide +kernel
theorem dX8_bay_27 : decode cX8_bay 27 = .ok (.iconst 3, 1) := by decide +kernel
theorem dX8_bay_28 : decode cX8_bay 28 = .ok (.invokevirtual 86, 3) := by decide +kernel
theorem dX8_bay_31 : decode cX8_bay 31 = .ok (.ireturn, 1) := by decide +kernel
theorem dX8_bay_32 : decode cX8_bay 32 = .ok (.aload_n 0, 1) := by decide +kernel
theorem dX8_bay_33 : decode cX8_bay 33 = .ok (.getfield 10, 3) := by decide +kernel
theorem dX8_bay_36 : decode cX8_bay 36 = .ok (.getfield 93, 3) := by decide +kernel
theorem dX8_bay_39 : decode cX8_bay 39 = .ok (.istore_n 2, 1) := by decide +kernel
theorem dX8_bay_40 : decode cX8_bay 40 = .ok (.aload_n 0, 1) := by decide +kernel
theorem dX8_bay_41 : decode cX8_bay 41 = .ok (.getfield 10, 3) := by decide +kernel
theorem dX8_bay_44 : decode cX8_bay 44 = .ok (.iload_n 1, 1) := by decide +kernel
theorem dX8_bay_45 : decode cX8_bay 45 = .ok (.invokevirtual 78, 3) := by decide +kernel
theorem dX8_bay_48 : decode cX8_bay 48 = .ok (.iload_n 2, 1) := by decide +kernel
theorem dX8_bay_49 : decode cX8_bay 49 = .ok (.ireturn, 1) := by decide +kernel
theorem dX8_lay_0 : decode cX8_lay 0 = .ok (.aload_n 0, 1) := by decide +kernel
theorem dX8_lay_1 : decode cX8_lay 1 = .ok (.iload_n 1, 1) := by decide +kernel
theorem dX8_lay_2 : decode cX8_lay 2 = .ok (.invokevirtual 96, 3) := by decide +kernel
theorem dX8_lay_5 : decode cX8_lay 5 = .ok (.ifCond .eq 32, 3) := by decide +kernel
theorem dX8_lay_8 : decode cX8_lay 8 = .ok (.iload_n 2, 1) := by decide +kernel
theorem dX8_lay_9 : decode cX8_lay 9 = .ok (.iconst 0, 1) := by decide +kernel
theorem dX8_lay_10 : decode cX8_lay 10 = .ok (.iconst 2, 1) := by decide +kernel
theorem dX8_lay_11 : decode cX8_lay 11 = .ok (.invokestatic 82, 3) := by decide +kernel
theorem dX8_lay_14 : decode cX8_lay 14 = .ok (.ifCond .eq 23, 3) := by decide +kernel
theorem dX8_lay_17 : decode cX8_lay 17 = .ok (.iload_n 3, 1) := by decide +kernel
theorem dX8_lay_18 : decode cX8_lay 18 = .ok (.iconst 0, 1) := by decide +kernel
theorem dX8_lay_19 : decode cX8_lay 19 = .ok (.iload_n 2, 1) := by decide +kernel
theorem dX8_lay_20 : decode cX8_lay 20 = .ok (.ifCond .ne 8, 3) := by decide +kernel
theorem dX8_lay_23 : decode cX8_lay 23 = .ok (.bipush 9, 2) := by decide +kernel
theorem dX8_lay_25 : decode cX8_lay 25 = .ok (.goto 6, 3) := by decide +kernel
theorem dX8_lay_28 : decode cX8_lay 28 = .ok (.sipush 999, 3) := by decide +kernel
theorem dX8_lay_31 : decode cX8_lay 31 = .ok (.invokestatic 82, 3) := by decide +kernel
theorem dX8_lay_34 : decode cX8_lay 34 = .ok (.ifCond .ne 9, 3) := by decide +kernel
theorem dX8_lay_37 : decode cX8_lay 37 = .ok (.aload_n 0, 1) := by decide +kernel
theorem dX8_lay_38 : decode cX8_lay 38 = .ok (.iconst 1, 1) := by decide +kernel
theorem dX8_lay_39 : decode cX8_lay 39 = .ok (.invokevirtual 86, 3) := by decide +kernel
theorem dX8_lay_42 : decode cX8_lay 42 = .ok (.ireturn, 1) := by decide +kernel
theorem dX8_lay_43 : decode cX8_lay 43 = .ok (.iload_n 2, 1) := by decide +kernel
theorem dX8_lay_44 : decode cX8_lay 44 = .ok (.ifCond .ne 13, 3) := by decide +kernel
theorem dX8_lay_47 : decode cX8_lay 47 = .ok (.aload_n 0, 1) := by decide +kernel
theorem dX8_lay_48 : decode cX8_lay 48 = .ok (.getfield 10, 3) := by decide +kernel
theorem dX8_lay_51 : decode cX8_lay 51 = .ok (.getfield 100, 3) := by decide +kernel
theorem dX8_lay_54 : decode cX8_lay 54 = .ok (.goto 25, 3) := by decide +kernel
theorem dX8_lay_57 : decode cX8_lay 57 = .ok (.iload_n 2, 1) := by decide +kernel
theorem dX8_lay_58 : decode cX8_lay 58 = .ok (.iconst 1, 1) := by decide +kernel
theorem dX8_lay_59 : decode cX8_lay 59 = .ok (.if_icmp .ne 13, 3) := by decide +kernel
theorem dX8_lay_62 : decode cX8_lay 62 = .ok (.aload_n 0, 1) := by decide +kernel
theorem dX8_lay_63 : decode cX8_lay 63 = .ok (.getfield 10, 3) := by decide +kernel
theorem dX8_lay_66 : decode cX8_lay 66 = .ok (.getfield 103, 3) := by decide +kernel
theorem dX8_lay_69 : decode cX8_lay 69 = .ok (.goto 10, 3) := by decide +kernel
theorem dX8_lay_72 : decode cX8_lay 72 = .ok (.aload_n 0, 1) := by decide +kernel
theorem dX8_lay_73 : decode cX8_lay 73 = .ok (.getfield 10, 3) := by decide +kernel
theorem dX8_lay_76 : decode cX8_lay 76 = .ok (.getfield 106, 3) := by decide +kernel
theorem dX8_lay_79 : decode cX8_lay 79 = .ok (.astore 4, 2) := by decide +kernel
theorem dX8_lay_81 : decode cX8_lay 81 = .ok (.aload 4, 2) := by decide +kernel
theorem dX8_lay_83 : decode cX8_lay 83 = .ok (.iload_n 1, 1) := by decide +kernel
theorem dX8_lay_84 : decode cX8_lay 84 = .ok (.iaload, 1) := by decide +kernel
theorem dX8_lay_85 : decode cX8_lay 85 = .ok (.istore 5, 2) := by decide +kernel
theorem dX8_lay_87 : decode cX8_lay 87 = .ok (.aload 4, 2) := by decide +kernel
theorem dX8_lay_89 : decode cX8_lay 89 = .ok (.iload_n 1, 1) := by decide +kernel
theorem dX8_lay_90 : decode cX8_lay 90 = .ok (.iload_n 3, 1) := by decide +kernel
theorem dX8_lay_91 : decode cX8_lay 91 = .ok (.iastore, 1) := by decide +kernel
theorem dX8_lay_92 : decode cX8_lay 92 = .ok (.iload 5, 2) := by decide +kernel
theorem dX8_lay_94 : decode cX8_lay 94 = .ok (.ireturn, 1) := by decide +kernel
theorem dX8_ofCell_0 : decode cX8_ofCell 0 = .ok (.aload_n 0, 1) := by decide +kernel
theorem dX8_ofCell_1 : decode cX8_ofCell 1 = .ok (.iload_n 1, 1) := by decide +kernel
theorem dX8_ofCell_2 : decode cX8_ofCell 2 = .ok (.invokevirtual 96, 3) := by decide +kernel
theorem dX8_ofCell_5 : decode cX8_ofCell 5 = .ok (.ifCond .eq 12, 3) := by decide +kernel
theorem dX8_ofCell_8 : decode cX8_ofCell 8 = .ok (.iload_n 2, 1) := by decide +kernel
theorem dX8_ofCell_9 : decode cX8_ofCell 9 = .ok (.iconst 0, 1) := by decide +kernel
theorem dX8_ofCell_10 : decode cX8_ofCell 10 = .ok (.iconst 5, 1) := by decide +kernel
theorem dX8_ofCell_11 : decode cX8_ofCell 11 = .ok (.invokestatic 82, 3) := by decide +kernel
theorem dX8_ofCell_14 : decode cX8_ofCell 14 = .ok (.ifCond .ne 9, 3) := by decide +kernel
theorem dX8_ofCell_17 : decode cX8_ofCell 17 = .ok (.aload_n 0, 1) := by decide +kernel
theorem dX8_ofCell_18 : decode cX8_ofCell 18 = .ok (.iconst 1, 1) := by decide +kernel
theorem dX8_ofCell_19 : decode cX8_ofCell 19 = .ok (.invokevirtual 86, 3) := by decide +kernel
theorem dX8_ofCell_22 : decode cX8_ofCell 22 = .ok (.ireturn, 1) := by decide +kernel
theorem dX8_ofCell_23 : decode cX8_ofCell 23 = .ok (.iload_n 2, 1) := by decide +kernel
theorem dX8_ofCell_24 : decode cX8_ofCell 24 = .ok (.tableswitch 98 0 4 #[36, 46, 56, 66, 82], 36) := by decide +kernel
theorem dX8_ofCell_60 : decode cX8_ofCell 60 = .ok (.aload_n 0, 1) := by decide +kernel
theorem dX8_ofCell_61 : decode cX8_ofCell 61 = .ok (.getfield 10, 3) := by decide +kernel
theorem dX8_ofCell_64 : decode cX8_ofCell 64 = .ok (.getfield 100, 3) := by decide +kernel
theorem dX8_ofCell_67 : decode cX8_ofCell 67 = .ok (.iload_n 1, 1) := by decide +kernel
theorem dX8_ofCell_68 : decode cX8_ofCell 68 = .ok (.iaload, 1) := by decide +kernel
theorem dX8_ofCell_69 : decode cX8_ofCell 69 = .ok (.ireturn, 1) := by decide +kernel
theorem dX8_ofCell_70 : decode cX8_ofCell 70 = .ok (.aload_n 0, 1) := by decide +kernel
theorem dX8_ofCell_71 : decode cX8_ofCell 71 = .ok (.getfield 10, 3) := by decide +kernel
theorem dX8_ofCell_74 : decode cX8_ofCell 74 = .ok (.getfield 103, 3) := by decide +kernel
theorem dX8_ofCell_77 : decode cX8_ofCell 77 = .ok (.iload_n 1, 1) := by decide +kernel
theorem dX8_ofCell_78 : decode cX8_ofCell 78 = .ok (.iaload, 1) := by decide +kernel
theorem dX8_ofCell_79 : decode cX8_ofCell 79 = .ok (.ireturn, 1) := by decide +kernel
theorem dX8_ofCell_80 : decode cX8_ofCell 80 = .ok (.aload_n 0, 1) := by decide +kernel
theorem dX8_ofCell_81 : decode cX8_ofCell 81 = .ok (.getfield 10, 3) := by decide +kernel
theorem dX8_ofCell_84 : decode cX8_ofCell 84 = .ok (.getfield 106, 3) := by decide +kernel
theorem dX8_ofCell_87 : decode cX8_ofCell 87 = .ok (.iload_n 1, 1) := by decide +kernel
theorem dX8_ofCell_88 : decode cX8_ofCell 88 = .ok (.iaload, 1) := by decide +kernel
theorem dX8_ofCell_89 : decode cX8_ofCell 89 = .ok (.ireturn, 1) := by decide +kernel
theorem dX8_ofCell_90 : decode cX8_ofCell 90 = .ok (.aload_n 0, 1) := by decide +kernel
theorem dX8_ofCell_91 : decode cX8_ofCell 91 = .ok (.getfield 10, 3) := by decide +kernel
theorem dX8_ofCell_94 : decode cX8_ofCell 94 = .ok (.iload_n 1, 1) := by decide +kernel
theorem dX8_ofCell_95 : decode cX8_ofCell 95 = .ok (.aload_n 0, 1) := by decide +kernel
theorem dX8_ofCell_96 : decode cX8_ofCell 96 = .ok (.getfield 10, 3) := by decide +kernel
theorem dX8_ofCell_99 : decode cX8_ofCell 99 = .ok (.getfield 109, 3) := by decide +kernel
theorem dX8_ofCell_102 : decode cX8_ofCell 102 = .ok (.invokevirtual 112, 3) := by decide +kernel
theorem dX8_ofCell_105 : decode cX8_ofCell 105 = .ok (.ireturn, 1) := by decide +kernel
theorem dX8_ofCell_106 : decode cX8_ofCell 106 = .ok (.aload_n 0, 1) := by decide +kernel
theorem dX8_ofCell_107 : decode cX8_ofCell 107 = .ok (.getfield 10, 3) := by decide +kernel
theorem dX8_ofCell_110 : decode cX8_ofCell 110 = .ok (.aload_n 0, 1) := by decide +kernel
theorem dX8_ofCell_111 : decode cX8_ofCell 111 = .ok (.getfield 10, 3) := by decide +kernel
theorem dX8_ofCell_114 : decode cX8_ofCell 114 = .ok (.getfield 116, 3) := by decide +kernel
theorem dX8_ofCell_117 : decode cX8_ofCell 117 = .ok (.iload_n 1, 1) := by decide +kernel
theorem dX8_ofCell_118 : decode cX8_ofCell 118 = .ok (.invokevirtual 119, 3) := by decide +kernel
theorem dX8_ofCell_121 : decode cX8_ofCell 121 = .ok (.ireturn, 1) := by decide +kernel
theorem dX8_ofCell_122 : decode cX8_ofCell 122 = .ok (.aload_n 0, 1) := by decide +kernel
theorem dX8_ofCell_123 : decode cX8_ofCell 123 = .ok (.getfield 19, 3) := by decide +kernel
theorem dX8_ofCell_126 : decode cX8_ofCell 126 = .ok (.iload_n 1, 1) := by decide +kernel
theorem dX8_ofCell_127 : decode cX8_ofCell 127 = .ok (.invokevirtual 122, 3) := by decide +kernel
theorem dX8_ofCell_130 : decode cX8_ofCell 130 = .ok (.ireturn, 1) := by decide +kernel
theorem dX8_set_0 : decode cX8_set 0 = .ok (.iload_n 1, 1) := by decide +kernel
theorem dX8_set_1 : decode cX8_set 1 = .ok (.iconst 0, 1) := by decide +kernel
theorem dX8_set_2 : decode cX8_set 2 = .ok (.iconst 2, 1) := by decide +kernel
theorem dX8_set_3 : decode cX8_set 3 = .ok (.invokestatic 82, 3) := by decide +kernel
theorem dX8_set_6 : decode cX8_set 6 = .ok (.ifCond .eq 16, 3) := by decide +kernel
theorem dX8_set_9 : decode cX8_set 9 = .ok (.iload_n 2, 1) := by decide +kernel
theorem dX8_set_10 : decode cX8_set 10 = .ok (.iconst 0, 1) := by decide +kernel
theorem dX8_set_11 : decode cX8_set 11 = .ok (.aload_n 0, 1) := by decide +kernel
theorem dX8_set_12 : decode cX8_set 12 = .ok (.iload_n 1, 1) := by decide +kernel
theorem dX8_set_13 : decode cX8_set 13 = .ok (.invokevirtual 125, 3) := by decide +kernel
theorem dX8_set_16 : decode cX8_set 16 = .ok (.invokestatic 82, 3) := by decide +kernel
theorem dX8_set_19 : decode cX8_set 19 = .ok (.ifCond .ne 9, 3) := by decide +kernel
theorem dX8_set_22 : decode cX8_set 22 = .ok (.aload_n 0, 1) := by decide +kernel
theorem dX8_set_23 : decode cX8_set 23 = .ok (.iconst 1, 1) := by decide +kernel
theorem dX8_set_24 : decode cX8_set 24 = .ok (.invokevirtual 86, 3) := by decide +kernel
theorem dX8_set_27 : decode cX8_set 27 = .ok (.ireturn, 1) := by decide +kernel
theorem dX8_set_28 : decode cX8_set 28 = .ok (.iload_n 1, 1) := by decide +kernel
theorem dX8_set_29 : decode cX8_set 29 = .ok (.ifCond .ne 22, 3) := by decide +kernel
theorem dX8_set_32 : decode cX8_set 32 = .ok (.aload_n 0, 1) := by decide +kernel
theorem dX8_set_33 : decode cX8_set 33 = .ok (.getfield 10, 3) := by decide +kernel
theorem dX8_set_36 : decode cX8_set 36 = .ok (.getfield 109, 3) := by decide +kernel
theorem dX8_set_39 : decode cX8_set 39 = .ok (.istore_n 3, 1) := by decide +kernel
theorem dX8_set_40 : decode cX8_set 40 = .ok (.aload_n 0, 1) := by decide +kernel
theorem dX8_set_41 : decode cX8_set 41 = .ok (.getfield 10, 3) := by decide +kernel
theorem dX8_set_44 : decode cX8_set 44 = .ok (.iload_n 2, 1) := by decide +kernel
theorem dX8_set_45 : decode cX8_set 45 = .ok (.putfield 109, 3) := by decide +kernel
theorem dX8_set_48 : decode cX8_set 48 = .ok (.goto 43, 3) := by decide +kernel
theorem dX8_set_51 : decode cX8_set 51 = .ok (.iload_n 1, 1) := by decide +kernel
theorem dX8_set_52 : decode cX8_set 52 = .ok (.iconst 1, 1) := by decide +kernel
theorem dX8_set_53 : decode cX8_set 53 = .ok (.if_icmp .ne 22, 3) := by decide +kernel
theorem dX8_set_56 : decode cX8_set 56 = .ok (.aload_n 0, 1) := by decide +kernel
theorem dX8_set_57 : decode cX8_set 57 = .ok (.getfield 10, 3) := by decide +kernel
theorem dX8_set_60 : decode cX8_set 60 = .ok (.getfield 116, 3) := by decide +kernel
theorem dX8_set_63 : decode cX8_set 63 = .ok (.istore_n 3, 1) := by decide +kernel
theorem dX8_set_64 : decode cX8_set 64 = .ok (.aload_n 0, 1) := by decide +kernel
theorem dX8_set_65 : decode cX8_set 65 = .ok (.getfield 10, 3) := by decide +kernel
theorem dX8_set_68 : decode cX8_set 68 = .ok (.iload_n 2, 1) := by decide +kernel
theorem dX8_set_69 : decode cX8_set 69 = .ok (.putfield 116, 3) := by decide +kernel
theorem dX8_set_72 : decode cX8_set 72 = .ok (.goto 19, 3) := by decide +kernel
theorem dX8_set_75 : decode cX8_set 75 = .ok (.aload_n 0, 1) := by decide +kernel
theorem dX8_set_76 : decode cX8_set 76 = .ok (.getfield 10, 3) := by decide +kernel
theorem dX8_set_79 : decode cX8_set 79 = .ok (.getfield 128, 3) := by decide +kernel
theorem dX8_set_82 : decode cX8_set 82 = .ok (.istore_n 3, 1) := by decide +kernel
theorem dX8_set_83 : decode cX8_set 83 = .ok (.aload_n 0, 1) := by decide +kernel
theorem dX8_set_84 : decode cX8_set 84 = .ok (.getfield 10, 3) := by decide +kernel
theorem dX8_set_87 : decode cX8_set 87 = .ok (.iload_n 2, 1) := by decide +kernel
theorem dX8_set_88 : decode cX8_set 88 = .ok (.putfield 128, 3) := by decide +kernel
theorem dX8_set_91 : decode cX8_set 91 = .ok (.iload_n 3, 1) := by decide +kernel
theorem dX8_set_92 : decode cX8_set 92 = .ok (.ireturn, 1) := by decide +kernel
theorem dX8_greatestSetting_0 : decode cX8_greatestSetting 0 = .ok (.iload_n 1, 1) := by decide +kernel
theorem dX8_greatestSetting_1 : decode cX8_greatestSetting 1 = .ok (.ifCond .ne 7, 3) := by decide +kernel
theorem dX8_greatestSetting_4 : decode cX8_greatestSetting 4 = .ok (.sipush 999, 3) := by decide +kernel
theorem dX8_greatestSetting_7 : decode cX8_greatestSetting 7 = .ok (.ireturn, 1) := by decide +kernel
theorem dX8_greatestSetting_8 : decode cX8_greatestSetting 8 = .ok (.iload_n 1, 1) := by decide +kernel
theorem dX8_greatestSetting_9 : decode cX8_greatestSetting 9 = .ok (.iconst 1, 1) := by decide +kernel
theorem dX8_greatestSetting_10 : decode cX8_greatestSetting 10 = .ok (.if_icmp .ne 8, 3) := by decide +kernel
theorem dX8_greatestSetting_13 : decode cX8_greatestSetting 13 = .ok (.bipush 99, 2) := by decide +kernel
theorem dX8_greatestSetting_15 : decode cX8_greatestSetting 15 = .ok (.goto 14, 3) := by decide +kernel
theorem dX8_greatestSetting_18 : decode cX8_greatestSetting 18 = .ok (.iconst 1, 1) := by decide +kernel
theorem dX8_greatestSetting_19 : decode cX8_greatestSetting 19 = .ok (.aload_n 0, 1) := by decide +kernel
theorem dX8_greatestSetting_20 : decode cX8_greatestSetting 20 = .ok (.getfield 10, 3) := by decide +kernel
theorem dX8_greatestSetting_23 : decode cX8_greatestSetting 23 = .ok (.getfield 93, 3) := by decide +kernel
theorem dX8_greatestSetting_26 : decode cX8_greatestSetting 26 = .ok (.ishl, 1) := by decide +kernel
theorem dX8_greatestSetting_27 : decode cX8_greatestSetting 27 = .ok (.iconst 1, 1) := by decide +kernel
theorem dX8_greatestSetting_28 : decode cX8_greatestSetting 28 = .ok (.isub, 1) := by decide +kernel
theorem dX8_greatestSetting_29 : decode cX8_greatestSetting 29 = .ok (.ireturn, 1) := by decide +kernel
theorem dX8_ship_0 : decode cX8_ship 0 = .ok (.iload_n 1, 1) := by decide +kernel
theorem dX8_ship_1 : decode cX8_ship 1 = .ok (.invokestatic 131, 3) := by decide +kernel
theorem dX8_ship_4 : decode cX8_ship 4 = .ok (.ifCond .eq 21, 3) := by decide +kernel
theorem dX8_ship_7 : decode cX8_ship 7 = .ok (.iload_n 2, 1) := by decide +kernel
theorem dX8_ship_8 : decode cX8_ship 8 = .ok (.iconst 0, 1) := by decide +kernel
theorem dX8_ship_9 : decode cX8_ship 9 = .ok (.bipush 9, 2) := by decide +kernel
theorem dX8_ship_11 : decode cX8_ship 11 = .ok (.invokestatic 82, 3) := by decide +kernel
theorem dX8_ship_14 : decode cX8_ship 14 = .ok (.ifCond .eq 11, 3) := by decide +kernel
theorem dX8_ship_17 : decode cX8_ship 17 = .ok (.aload_n 0, 1) := by decide +kernel
theorem dX8_ship_18 : decode cX8_ship 18 = .ok (.iload_n 3, 1) := by decide +kernel
theorem dX8_ship_19 : decode cX8_ship 19 = .ok (.invokevirtual 96, 3) := by decide +kernel
theorem dX8_ship_22 : decode cX8_ship 22 = .ok (.ifCond .ne 9, 3) := by decide +kernel
theorem dX8_ship_25 : decode cX8_ship 25 = .ok (.aload_n 0, 1) := by decide +kernel
theorem dX8_ship_26 : decode cX8_ship 26 = .ok (.iconst 1, 1) := by decide +kernel
theorem dX8_ship_27 : decode cX8_ship 27 = .ok (.invokevirtual 86, 3) := by decide +kernel
theorem dX8_ship_30 : decode cX8_ship 30 = .ok (.ireturn, 1) := by decide +kernel
theorem dX8_ship_31 : decode cX8_ship 31 = .ok (.aload_n 0, 1) := by decide +kernel
theorem dX8_ship_32 : decode cX8_ship 32 = .ok (.getfield 19, 3) := by decide +kernel
theorem dX8_ship_35 : decode cX8_ship 35 = .ok (.getfield 90, 3) := by decide +kernel
theorem dX8_ship_38 : decode cX8_ship 38 = .ok (.bipush 7, 2) := by decide +kernel
theorem dX8_ship_40 : decode cX8_ship 40 = .ok (.if_icmp .lt 9, 3) := by decide +kernel
theorem dX8_ship_43 : decode cX8_ship 43 = .ok (.aload_n 0, 1) := by decide +kernel
theorem dX8_ship_44 : decode cX8_ship 44 = .ok (.iconst 4, 1) := by decide +kernel
theorem dX8_ship_45 : decode cX8_ship 45 = .ok (.invokevirtual 86, 3) := by decide +kernel
theorem dX8_ship_48 : decode cX8_ship 48 = .ok (.ireturn, 1) := by decide +kernel
theorem dX8_ship_49 : decode cX8_ship 49 = .ok (.aload_n 0, 1) := by decide +kernel
theorem dX8_ship_50 : decode cX8_ship 50 = .ok (.getfield 19, 3) := by decide +kernel
theorem dX8_ship_53 : decode cX8_ship 53 = .ok (.getfield 90, 3) := by decide +kernel
theorem dX8_ship_56 : decode cX8_ship 56 = .ok (.istore 4, 2) := by decide +kernel
theorem dX8_ship_58 : decode cX8_ship 58 = .ok (.aload_n 0, 1) := by decide +kernel
theorem dX8_ship_59 : decode cX8_ship 59 = .ok (.getfield 19, 3) := by decide +kernel
theorem dX8_ship_62 : decode cX8_ship 62 = .ok (.getfield 134, 3) := by decide +kernel
theorem dX8_ship_65 : decode cX8_ship 65 = .ok (.iload 4, 2) := by decide +kernel
theorem dX8_ship_67 : decode cX8_ship 67 = .ok (.iload_n 1, 1) := by decide +kernel
theorem dX8_ship_68 : decode cX8_ship 68 = .ok (.bipush 10, 2) := by decide +kernel
theorem dX8_ship_70 : decode cX8_ship 70 = .ok (.idiv, 1) := by decide +kernel
theorem dX8_ship_71 : decode cX8_ship 71 = .ok (.iastore, 1) := by decide +kernel
theorem dX8_ship_72 : decode cX8_ship 72 = .ok (.aload_n 0, 1) := by decide +kernel
theorem dX8_ship_73 : decode cX8_ship 73 = .ok (.getfield 19, 3) := by decide +kernel
theorem dX8_ship_76 : decode cX8_ship 76 = .ok (.getfield 137, 3) := by decide +kernel
theorem dX8_ship_79 : decode cX8_ship 79 = .ok (.iload 4, 2) := by decide +kernel
theorem dX8_ship_81 : decode cX8_ship 81 = .ok (.iload_n 1, 1) := by decide +kernel
theorem dX8_ship_82 : decode cX8_ship 82 = .ok (.bipush 10, 2) := by decide +kernel
theorem dX8_ship_84 : decode cX8_ship 84 = .ok (.irem, 1) := by decide +kernel
theorem dX8_ship_85 : decode cX8_ship 85 = .ok (.iastore, 1) := by decide +kernel
theorem dX8_ship_86 : decode cX8_ship 86 = .ok (.aload_n 0, 1) := by decide +kernel
theorem dX8_ship_87 : decode cX8_ship 87 = .ok (.getfield 19, 3) := by decide +kernel
theorem dX8_ship_90 : decode cX8_ship 90 = .ok (.getfield 140, 3) := by decide +kernel
theorem dX8_ship_93 : decode cX8_ship 93 = .ok (.iload 4, 2) := by decide +kernel
theorem dX8_ship_95 : decode cX8_ship 95 = .ok (.iload_n 2, 1) := by decide +kernel
theorem dX8_ship_96 : decode cX8_ship 96 = .ok (.iastore, 1) := by decide +kernel
theorem dX8_ship_97 : decode cX8_ship 97 = .ok (.aload_n 0, 1) := by decide +kernel
theorem dX8_ship_98 : decode cX8_ship 98 = .ok (.getfield 19, 3) := by decide +kernel
theorem dX8_ship_101 : decode cX8_ship 101 = .ok (.getfield 143, 3) := by decide +kernel
theorem dX8_ship_104 : decode cX8_ship 104 = .ok (.iload 4, 2) := by decide +kernel
theorem dX8_ship_106 : decode cX8_ship 106 = .ok (.iload_n 3, 1) := by decide +kernel
theorem dX8_ship_107 : decode cX8_ship 107 = .ok (.iastore, 1) := by decide +kernel
theorem dX8_ship_108 : decode cX8_ship 108 = .ok (.aload_n 0, 1) := by decide +kernel
theorem dX8_ship_109 : decode cX8_ship 109 = .ok (.getfield 19, 3) := by decide +kernel
theorem dX8_ship_112 : decode cX8_ship 112 = .ok (.getfield 146, 3) := by decide +kernel
theorem dX8_ship_115 : decode cX8_ship 115 = .ok (.iload 4, 2) := by decide +kernel
theorem dX8_ship_117 : decode cX8_ship 117 = .ok (.iconst 0, 1) := by decide +kernel
theorem dX8_ship_118 : decode cX8_ship 118 = .ok (.iastore, 1) := by decide +kernel
theorem dX8_ship_119 : decode cX8_ship 119 = .ok (.aload_n 0, 1) := by decide +kernel
theorem dX8_ship_120 : decode cX8_ship 120 = .ok (.getfield 19, 3) := by decide +kernel
theorem dX8_ship_123 : decode cX8_ship 123 = .ok (.dup, 1) := by decide +kernel
theorem dX8_ship_124 : decode cX8_ship 124 = .ok (.getfield 90, 3) := by decide +kernel
theorem dX8_ship_127 : decode cX8_ship 127 = .ok (.iconst 1, 1) := by decide +kernel
theorem dX8_ship_128 : decode cX8_ship 128 = .ok (.iadd, 1) := by decide +kernel
theorem dX8_ship_129 : decode cX8_ship 129 = .ok (.putfield 90, 3) := by decide +kernel
theorem dX8_ship_132 : decode cX8_ship 132 = .ok (.iload 4, 2) := by decide +kernel
theorem dX8_ship_134 : decode cX8_ship 134 = .ok (.ireturn, 1) := by decide +kernel
theorem dX8_ofShip_0 : decode cX8_ofShip 0 = .ok (.aload_n 0, 1) := by decide +kernel
theorem dX8_ofShip_1 : decode cX8_ofShip 1 = .ok (.iload_n 1, 1) := by decide +kernel
theorem dX8_ofShip_2 : decode cX8_ofShip 2 = .ok (.invokevirtual 149, 3) := by decide +kernel
theorem dX8_ofShip_5 : decode cX8_ofShip 5 = .ok (.ifCond .eq 12, 3) := by decide +kernel
theorem dX8_ofShip_8 : decode cX8_ofShip 8 = .ok (.iload_n 2, 1) := by decide +kernel
theorem dX8_ofShip_9 : decode cX8_ofShip 9 = .ok (.iconst 0, 1) := by decide +kernel
theorem dX8_ofShip_10 : decode cX8_ofShip 10 = .ok (.iconst 5, 1) := by decide +kernel
theorem dX8_ofShip_11 : decode cX8_ofShip 11 = .ok (.invokestatic 82, 3) := by decide +kernel
theorem dX8_ofShip_14 : decode cX8_ofShip 14 = .ok (.ifCond .ne 9, 3) := by decide +kernel
theorem dX8_ofShip_17 : decode cX8_ofShip 17 = .ok (.aload_n 0, 1) := by decide +kernel
theorem dX8_ofShip_18 : decode cX8_ofShip 18 = .ok (.iconst 1, 1) := by decide +kernel
theorem dX8_ofShip_19 : decode cX8_ofShip 19 = .ok (.invokevirtual 86, 3) := by decide +kernel
theorem dX8_ofShip_22 : decode cX8_ofShip 22 = .ok (.ireturn, 1) := by decide +kernel
theorem dX8_ofShip_23 : decode cX8_ofShip 23 = .ok (.iload_n 2, 1) := by decide +kernel
theorem dX8_ofShip_24 : decode cX8_ofShip 24 = .ok (.tableswitch 86 0 4 #[36, 46, 56, 66, 76], 36) := by decide +kernel
theorem dX8_ofShip_60 : decode cX8_ofShip 60 = .ok (.aload_n 0, 1) := by decide +kernel
theorem dX8_ofShip_61 : decode cX8_ofShip 61 = .ok (.getfield 19, 3) := by decide +kernel
theorem dX8_ofShip_64 : decode cX8_ofShip 64 = .ok (.getfield 134, 3) := by decide +kernel
theorem dX8_ofShip_67 : decode cX8_ofShip 67 = .ok (.iload_n 1, 1) := by decide +kernel
theorem dX8_ofShip_68 : decode cX8_ofShip 68 = .ok (.iaload, 1) := by decide +kernel
theorem dX8_ofShip_69 : decode cX8_ofShip 69 = .ok (.ireturn, 1) := by decide +kernel
theorem dX8_ofShip_70 : decode cX8_ofShip 70 = .ok (.aload_n 0, 1) := by decide +kernel
theorem dX8_ofShip_71 : decode cX8_ofShip 71 = .ok (.getfield 19, 3) := by decide +kernel
theorem dX8_ofShip_74 : decode cX8_ofShip 74 = .ok (.getfield 137, 3) := by decide +kernel
theorem dX8_ofShip_77 : decode cX8_ofShip 77 = .ok (.iload_n 1, 1) := by decide +kernel
theorem dX8_ofShip_78 : decode cX8_ofShip 78 = .ok (.iaload, 1) := by decide +kernel
theorem dX8_ofShip_79 : decode cX8_ofShip 79 = .ok (.ireturn, 1) := by decide +kernel
theorem dX8_ofShip_80 : decode cX8_ofShip 80 = .ok (.aload_n 0, 1) := by decide +kernel
theorem dX8_ofShip_81 : decode cX8_ofShip 81 = .ok (.getfield 19, 3) := by decide +kernel
theorem dX8_ofShip_84 : decode cX8_ofShip 84 = .ok (.getfield 140, 3) := by decide +kernel
theorem dX8_ofShip_87 : decode cX8_ofShip 87 = .ok (.iload_n 1, 1) := by decide +kernel
theorem dX8_ofShip_88 : decode cX8_ofShip 88 = .ok (.iaload, 1) := by decide +kernel
theorem dX8_ofShip_89 : decode cX8_ofShip 89 = .ok (.ireturn, 1) := by decide +kernel
theorem dX8_ofShip_90 : decode cX8_ofShip 90 = .ok (.aload_n 0, 1) := by decide +kernel
theorem dX8_ofShip_91 : decode cX8_ofShip 91 = .ok (.getfield 19, 3) := by decide +kernel
theorem dX8_ofShip_94 : decode cX8_ofShip 94 = .ok (.getfield 143, 3) := by decide +kernel
theorem dX8_ofShip_97 : decode cX8_ofShip 97 = .ok (.iload_n 1, 1) := by decide +kernel
theorem dX8_ofShip_98 : decode cX8_ofShip 98 = .ok (.iaload, 1) := by decide +kernel
theorem dX8_ofShip_99 : decode cX8_ofShip 99 = .ok (.ireturn, 1) := by decide +kernel
theorem dX8_ofShip_100 : decode cX8_ofShip 100 = .ok (.aload_n 0, 1) := by decide +kernel
theorem dX8_ofShip_101 : decode cX8_ofShip 101 = .ok (.getfield 19, 3) := by decide +kernel
theorem dX8_ofShip_104 : decode cX8_ofShip 104 = .ok (.getfield 146, 3) := by decide +kernel
theorem dX8_ofShip_107 : decode cX8_ofShip 107 = .ok (.iload_n 1, 1) := by decide +kernel
theorem dX8_ofShip_108 : decode cX8_ofShip 108 = .ok (.iaload, 1) := by decide +kernel
theorem dX8_ofShip_109 : decode cX8_ofShip 109 = .ok (.ireturn, 1) := by decide +kernel
theorem dX8_ofShip_110 : decode cX8_ofShip 110 = .ok (.aload_n 0, 1) := by decide +kernel
theorem dX8_ofShip_111 : decode cX8_ofShip 111 = .ok (.iload_n 1, 1) := by decide +kernel
theorem dX8_ofShip_112 : decode cX8_ofShip 112 = .ok (.invokevirtual 152, 3) := by decide +kernel
theorem dX8_ofShip_115 : decode cX8_ofShip 115 = .ok (.ireturn, 1) := by decide +kernel
theorem dX8_believedNext_0 : decode cX8_believedNext 0 = .ok (.aload_n 0, 1) := by decide +kernel
theorem dX8_believedNext_1 : decode cX8_believedNext 1 = .ok (.getfield 19, 3) := by decide +kernel
theorem dX8_believedNext_4 : decode cX8_believedNext 4 = .ok (.getfield 143, 3) := by decide +kernel
theorem dX8_believedNext_7 : decode cX8_believedNext 7 = .ok (.iload_n 1, 1) := by decide +kernel
theorem dX8_believedNext_8 : decode cX8_believedNext 8 = .ok (.iaload, 1) := by decide +kernel
theorem dX8_believedNext_9 : decode cX8_believedNext 9 = .ok (.istore_n 2, 1) := by decide +kernel
theorem dX8_believedNext_10 : decode cX8_believedNext 10 = .ok (.iload_n 2, 1) := by decide +kernel
theorem dX8_believedNext_11 : decode cX8_believedNext 11 = .ok (.ifCond .ne 5, 3) := by decide +kernel
theorem dX8_believedNext_14 : decode cX8_believedNext 14 = .ok (.iconst (-1), 1) := by decide +kernel
theorem dX8_believedNext_15 : decode cX8_believedNext 15 = .ok (.ireturn, 1) := by decide +kernel
theorem dX8_believedNext_16 : decode cX8_believedNext 16 = .ok (.aload_n 0, 1) := by decide +kernel
theorem dX8_believedNext_17 : decode cX8_believedNext 17 = .ok (.getfield 49, 3) := by decide +kernel
theorem dX8_believedNext_20 : decode cX8_believedNext 20 = .ok (.aload_n 0, 1) := by decide +kernel
theorem dX8_believedNext_21 : decode cX8_believedNext 21 = .ok (.getfield 10, 3) := by decide +kernel
theorem dX8_believedNext_24 : decode cX8_believedNext 24 = .ok (.aload_n 0, 1) := by decide +kernel
theorem dX8_believedNext_25 : decode cX8_believedNext 25 = .ok (.getfield 10, 3) := by decide +kernel
theorem dX8_believedNext_28 : decode cX8_believedNext 28 = .ok (.getfield 116, 3) := by decide +kernel
theorem dX8_believedNext_31 : decode cX8_believedNext 31 = .ok (.invokevirtual 155, 3) := by decide +kernel
theorem dX8_believedNext_34 : decode cX8_believedNext 34 = .ok (.aload_n 0, 1) := by decide +kernel
theorem dX8_believedNext_35 : decode cX8_believedNext 35 = .ok (.getfield 49, 3) := by decide +kernel
theorem dX8_believedNext_38 : decode cX8_believedNext 38 = .ok (.aload_n 0, 1) := by decide +kernel
theorem dX8_believedNext_39 : decode cX8_believedNext 39 = .ok (.getfield 19, 3) := by decide +kernel
theorem dX8_believedNext_42 : decode cX8_believedNext 42 = .ok (.getfield 134, 3) := by decide +kernel
theorem dX8_believedNext_45 : decode cX8_believedNext 45 = .ok (.iload_n 1, 1) := by decide +kernel
theorem dX8_believedNext_46 : decode cX8_believedNext 46 = .ok (.iaload, 1) := by decide +kernel
theorem dX8_believedNext_47 : decode cX8_believedNext 47 = .ok (.aload_n 0, 1) := by decide +kernel
theorem dX8_believedNext_48 : decode cX8_believedNext 48 = .ok (.getfield 19, 3) := by decide +kernel
theorem dX8_believedNext_51 : decode cX8_believedNext 51 = .ok (.getfield 137, 3) := by decide +kernel
theorem dX8_believedNext_54 : decode cX8_believedNext 54 = .ok (.iload_n 1, 1) := by decide +kernel
theorem dX8_believedNext_55 : decode cX8_believedNext 55 = .ok (.iaload, 1) := by decide +kernel
theorem dX8_believedNext_56 : decode cX8_believedNext 56 = .ok (.iload_n 2, 1) := by decide +kernel
theorem dX8_believedNext_57 : decode cX8_believedNext 57 = .ok (.iconst 1, 1) := by decide +kernel
theorem dX8_believedNext_58 : decode cX8_believedNext 58 = .ok (.isub, 1) := by decide +kernel
theorem dX8_believedNext_59 : decode cX8_believedNext 59 = .ok (.invokevirtual 159, 3) := by decide +kernel
theorem dX8_believedNext_62 : decode cX8_believedNext 62 = .ok (.ireturn, 1) := by decide +kernel
theorem dX8_change_0 : decode cX8_change 0 = .ok (.aload_n 0, 1) := by decide +kernel
theorem dX8_change_1 : decode cX8_change 1 = .ok (.iload_n 1, 1) := by decide +kernel
theorem dX8_change_2 : decode cX8_change 2 = .ok (.invokevirtual 149, 3) := by decide +kernel
theorem dX8_change_5 : decode cX8_change 5 = .ok (.ifCond .eq 25, 3) := by decide +kernel
theorem dX8_change_8 : decode cX8_change 8 = .ok (.iload_n 2, 1) := by decide +kernel
theorem dX8_change_9 : decode cX8_change 9 = .ok (.iconst 0, 1) := by decide +kernel
theorem dX8_change_10 : decode cX8_change 10 = .ok (.iconst 2, 1) := by decide +kernel
theorem dX8_change_11 : decode cX8_change 11 = .ok (.invokestatic 82, 3) := by decide +kernel
theorem dX8_change_14 : decode cX8_change 14 = .ok (.ifCond .eq 16, 3) := by decide +kernel
theorem dX8_change_17 : decode cX8_change 17 = .ok (.iload_n 3, 1) := by decide +kernel
theorem dX8_change_18 : decode cX8_change 18 = .ok (.iconst 0, 1) := by decide +kernel
theorem dX8_change_19 : decode cX8_change 19 = .ok (.aload_n 0, 1) := by decide +kernel
theorem dX8_change_20 : decode cX8_change 20 = .ok (.iload_n 2, 1) := by decide +kernel
theorem dX8_change_21 : decode cX8_change 21 = .ok (.invokevirtual 163, 3) := by decide +kernel
theorem dX8_change_24 : decode cX8_change 24 = .ok (.invokestatic 82, 3) := by decide +kernel
theorem dX8_change_27 : decode cX8_change 27 = .ok (.ifCond .ne 9, 3) := by decide +kernel
theorem dX8_change_30 : decode cX8_change 30 = .ok (.aload_n 0, 1) := by decide +kernel
theorem dX8_change_31 : decode cX8_change 31 = .ok (.iconst 1, 1) := by decide +kernel
theorem dX8_change_32 : decode cX8_change 32 = .ok (.invokevirtual 86, 3) := by decide +kernel
theorem dX8_change_35 : decode cX8_change 35 = .ok (.ireturn, 1) := by decide +kernel
theorem dX8_change_36 : decode cX8_change 36 = .ok (.iload_n 2, 1) := by decide +kernel
theorem dX8_change_37 : decode cX8_change 37 = .ok (.ifCond .ne 13, 3) := by decide +kernel
theorem dX8_change_40 : decode cX8_change 40 = .ok (.aload_n 0, 1) := by decide +kernel
theorem dX8_change_41 : decode cX8_change 41 = .ok (.getfield 19, 3) := by decide +kernel
theorem dX8_change_44 : decode cX8_change 44 = .ok (.getfield 140, 3) := by decide +kernel
theorem dX8_change_47 : decode cX8_change 47 = .ok (.goto 25, 3) := by decide +kernel
theorem dX8_change_50 : decode cX8_change 50 = .ok (.iload_n 2, 1) := by decide +kernel
theorem dX8_change_51 : decode cX8_change 51 = .ok (.iconst 1, 1) := by decide +kernel
theorem dX8_change_52 : decode cX8_change 52 = .ok (.if_icmp .ne 13, 3) := by decide +kernel
theorem dX8_change_55 : decode cX8_change 55 = .ok (.aload_n 0, 1) := by decide +kernel
theorem dX8_change_56 : decode cX8_change 56 = .ok (.getfield 19, 3) := by decide +kernel
theorem dX8_change_59 : decode cX8_change 59 = .ok (.getfield 143, 3) := by decide +kernel
theorem dX8_change_62 : decode cX8_change 62 = .ok (.goto 10, 3) := by decide +kernel
theorem dX8_change_65 : decode cX8_change 65 = .ok (.aload_n 0, 1) := by decide +kernel
theorem dX8_change_66 : decode cX8_change 66 = .ok (.getfield 19, 3) := by decide +kernel
theorem dX8_change_69 : decode cX8_change 69 = .ok (.getfield 146, 3) := by decide +kernel
theorem dX8_change_72 : decode cX8_change 72 = .ok (.astore 4, 2) := by decide +kernel
theorem dX8_change_74 : decode cX8_change 74 = .ok (.aload 4, 2) := by decide +kernel
theorem dX8_change_76 : decode cX8_change 76 = .ok (.iload_n 1, 1) := by decide +kernel
theorem dX8_change_77 : decode cX8_change 77 = .ok (.iaload, 1) := by decide +kernel
theorem dX8_change_78 : decode cX8_change 78 = .ok (.istore 5, 2) := by decide +kernel
theorem dX8_change_80 : decode cX8_change 80 = .ok (.aload 4, 2) := by decide +kernel
theorem dX8_change_82 : decode cX8_change 82 = .ok (.iload_n 1, 1) := by decide +kernel
theorem dX8_change_83 : decode cX8_change 83 = .ok (.iload_n 3, 1) := by decide +kernel
theorem dX8_change_84 : decode cX8_change 84 = .ok (.iastore, 1) := by decide +kernel
theorem dX8_change_85 : decode cX8_change 85 = .ok (.iload 5, 2) := by decide +kernel
theorem dX8_change_87 : decode cX8_change 87 = .ok (.ireturn, 1) := by decide +kernel
theorem dX8_greatestChange_0 : decode cX8_greatestChange 0 = .ok (.iload_n 1, 1) := by decide +kernel
theorem dX8_greatestChange_1 : decode cX8_greatestChange 1 = .ok (.ifCond .ne 6, 3) := by decide +kernel
theorem dX8_greatestChange_4 : decode cX8_greatestChange 4 = .ok (.bipush 9, 2) := by decide +kernel
theorem dX8_greatestChange_6 : decode cX8_greatestChange 6 = .ok (.ireturn, 1) := by decide +kernel
theorem dX8_greatestChange_7 : decode cX8_greatestChange 7 = .ok (.iload_n 1, 1) := by decide +kernel
theorem dX8_greatestChange_8 : decode cX8_greatestChange 8 = .ok (.iconst 1, 1) := by decide +kernel
theorem dX8_greatestChange_9 : decode cX8_greatestChange 9 = .ok (.if_icmp .ne 15, 3) := by decide +kernel
theorem dX8_greatestChange_12 : decode cX8_greatestChange 12 = .ok (.aload_n 0, 1) := by decide +kernel
theorem dX8_greatestChange_13 : decode cX8_greatestChange 13 = .ok (.getfield 10, 3) := by decide +kernel
theorem dX8_greatestChange_16 : decode cX8_greatestChange 16 = .ok (.getfield 93, 3) := by decide +kernel
theorem dX8_greatestChange_19 : decode cX8_greatestChange 19 = .ok (.iconst 1, 1) := by decide +kernel
theorem dX8_greatestChange_20 : decode cX8_greatestChange 20 = .ok (.isub, 1) := by decide +kernel
theorem dX8_greatestChange_21 : decode cX8_greatestChange 21 = .ok (.goto 4, 3) := by decide +kernel
theorem dX8_greatestChange_24 : decode cX8_greatestChange 24 = .ok (.iconst 1, 1) := by decide +kernel
theorem dX8_greatestChange_25 : decode cX8_greatestChange 25 = .ok (.ireturn, 1) := by decide +kernel
theorem dX8_become_0 : decode cX8_become 0 = .ok (.aload_n 0, 1) := by decide +kernel
theorem dX8_become_1 : decode cX8_become 1 = .ok (.iload_n 1, 1) := by decide +kernel
theorem dX8_become_2 : decode cX8_become 2 = .ok (.invokevirtual 149, 3) := by decide +kernel
theorem dX8_become_5 : decode cX8_become 5 = .ok (.ifCond .eq 10, 3) := by decide +kernel
theorem dX8_become_8 : decode cX8_become 8 = .ok (.iload_n 2, 1) := by decide +kernel
theorem dX8_become_9 : decode cX8_become 9 = .ok (.invokestatic 131, 3) := by decide +kernel
theorem dX8_become_12 : decode cX8_become 12 = .ok (.ifCond .ne 9, 3) := by decide +kernel
theorem dX8_become_15 : decode cX8_become 15 = .ok (.aload_n 0, 1) := by decide +kernel
theorem dX8_become_16 : decode cX8_become 16 = .ok (.iconst 1, 1) := by decide +kernel
theorem dX8_become_17 : decode cX8_become 17 = .ok (.invokevirtual 86, 3) := by decide +kernel
theorem dX8_become_20 : decode cX8_become 20 = .ok (.ireturn, 1) := by decide +kernel
theorem dX8_become_21 : decode cX8_become 21 = .ok (.aload_n 0, 1) := by decide +kernel
theorem dX8_become_22 : decode cX8_become 22 = .ok (.getfield 19, 3) := by decide +kernel
theorem dX8_become_25 : decode cX8_become 25 = .ok (.getfield 134, 3) := by decide +kernel
theorem dX8_become_28 : decode cX8_become 28 = .ok (.iload_n 1, 1) := by decide +kernel
theorem dX8_become_29 : decode cX8_become 29 = .ok (.iaload, 1) := by decide +kernel
theorem dX8_become_30 : decode cX8_become 30 = .ok (.istore_n 3, 1) := by decide +kernel
theorem dX8_become_31 : decode cX8_become 31 = .ok (.aload_n 0, 1) := by decide +kernel
theorem dX8_become_32 : decode cX8_become 32 = .ok (.getfield 19, 3) := by decide +kernel
theorem dX8_become_35 : decode cX8_become 35 = .ok (.getfield 134, 3) := by decide +kernel
theorem dX8_become_38 : decode cX8_become 38 = .ok (.iload_n 1, 1) := by decide +kernel
theorem dX8_become_39 : decode cX8_become 39 = .ok (.iload_n 2, 1) := by decide +kernel
theorem dX8_become_40 : decode cX8_become 40 = .ok (.bipush 10, 2) := by decide +kernel
theorem dX8_become_42 : decode cX8_become 42 = .ok (.idiv, 1) := by decide +kernel
theorem dX8_become_43 : decode cX8_become 43 = .ok (.iastore, 1) := by decide +kernel
theorem dX8_become_44 : decode cX8_become 44 = .ok (.aload_n 0, 1) := by decide +kernel
theorem dX8_become_45 : decode cX8_become 45 = .ok (.getfield 19, 3) := by decide +kernel
theorem dX8_become_48 : decode cX8_become 48 = .ok (.getfield 137, 3) := by decide +kernel
theorem dX8_become_51 : decode cX8_become 51 = .ok (.iload_n 1, 1) := by decide +kernel
theorem dX8_become_52 : decode cX8_become 52 = .ok (.iload_n 2, 1) := by decide +kernel
theorem dX8_become_53 : decode cX8_become 53 = .ok (.bipush 10, 2) := by decide +kernel
theorem dX8_become_55 : decode cX8_become 55 = .ok (.irem, 1) := by decide +kernel
theorem dX8_become_56 : decode cX8_become 56 = .ok (.iastore, 1) := by decide +kernel
theorem dX8_become_57 : decode cX8_become 57 = .ok (.iload_n 3, 1) := by decide +kernel
theorem dX8_become_58 : decode cX8_become 58 = .ok (.ireturn, 1) := by decide +kernel
theorem dX8_as_0 : decode cX8_as 0 = .ok (.aload_n 0, 1) := by decide +kernel
theorem dX8_as_1 : decode cX8_as 1 = .ok (.iload_n 1, 1) := by decide +kernel
theorem dX8_as_2 : decode cX8_as 2 = .ok (.invokevirtual 149, 3) := by decide +kernel
theorem dX8_as_5 : decode cX8_as 5 = .ok (.ifCond .eq 13, 3) := by decide +kernel
theorem dX8_as_8 : decode cX8_as 8 = .ok (.iload_n 2, 1) := by decide +kernel
theorem dX8_as_9 : decode cX8_as 9 = .ok (.iconst 0, 1) := by decide +kernel
theorem dX8_as_10 : decode cX8_as 10 = .ok (.bipush 6, 2) := by decide +kernel
theorem dX8_as_12 : decode cX8_as 12 = .ok (.invokestatic 82, 3) := by decide +kernel
theorem dX8_as_15 : decode cX8_as 15 = .ok (.ifCond .ne 9, 3) := by decide +kernel
theorem dX8_as_18 : decode cX8_as 18 = .ok (.aload_n 0, 1) := by decide +kernel
theorem dX8_as_19 : decode cX8_as 19 = .ok (.iconst 1, 1) := by decide +kernel
theorem dX8_as_20 : decode cX8_as 20 = .ok (.invokevirtual 86, 3) := by decide +kernel
theorem dX8_as_23 : decode cX8_as 23 = .ok (.ireturn, 1) := by decide +kernel
theorem dX8_as_24 : decode cX8_as 24 = .ok (.aload_n 0, 1) := by decide +kernel
theorem dX8_as_25 : decode cX8_as 25 = .ok (.getfield 19, 3) := by decide +kernel
theorem dX8_as_28 : decode cX8_as 28 = .ok (.getfield 134, 3) := by decide +kernel
theorem dX8_as_31 : decode cX8_as 31 = .ok (.iload_n 1, 1) := by decide +kernel
theorem dX8_as_32 : decode cX8_as 32 = .ok (.iaload, 1) := by decide +kernel
theorem dX8_as_33 : decode cX8_as 33 = .ok (.iload_n 2, 1) := by decide +kernel
theorem dX8_as_34 : decode cX8_as 34 = .ok (.invokestatic 166, 3) := by decide +kernel
theorem dX8_as_37 : decode cX8_as 37 = .ok (.ifCond .eq 15, 3) := by decide +kernel
theorem dX8_as_40 : decode cX8_as 40 = .ok (.aload_n 0, 1) := by decide +kernel
theorem dX8_as_41 : decode cX8_as 41 = .ok (.getfield 19, 3) := by decide +kernel
theorem dX8_as_44 : decode cX8_as 44 = .ok (.getfield 137, 3) := by decide +kernel
theorem dX8_as_47 : decode cX8_as 47 = .ok (.iload_n 1, 1) := by decide +kernel
theorem dX8_as_48 : decode cX8_as 48 = .ok (.iaload, 1) := by decide +kernel
theorem dX8_as_49 : decode cX8_as 49 = .ok (.goto 8, 3) := by decide +kernel
theorem dX8_as_52 : decode cX8_as 52 = .ok (.aload_n 0, 1) := by decide +kernel
theorem dX8_as_53 : decode cX8_as 53 = .ok (.iconst 5, 1) := by decide +kernel
theorem dX8_as_54 : decode cX8_as 54 = .ok (.invokevirtual 86, 3) := by decide +kernel
theorem dX8_as_57 : decode cX8_as 57 = .ok (.ireturn, 1) := by decide +kernel
theorem dX8_isUnder_0 : decode cX8_isUnder 0 = .ok (.iload_n 0, 1) := by decide +kernel
theorem dX8_isUnder_1 : decode cX8_isUnder 1 = .ok (.istore_n 2, 1) := by decide +kernel
theorem dX8_isUnder_2 : decode cX8_isUnder 2 = .ok (.iconst 0, 1) := by decide +kernel
theorem dX8_isUnder_3 : decode cX8_isUnder 3 = .ok (.istore_n 3, 1) := by decide +kernel
theorem dX8_isUnder_4 : decode cX8_isUnder 4 = .ok (.iload_n 3, 1) := by decide +kernel
theorem dX8_isUnder_5 : decode cX8_isUnder 5 = .ok (.bipush 6, 2) := by decide +kernel
theorem dX8_isUnder_7 : decode cX8_isUnder 7 = .ok (.if_icmp .gt 22, 3) := by decide +kernel
theorem dX8_isUnder_10 : decode cX8_isUnder 10 = .ok (.iload_n 2, 1) := by decide +kernel
theorem dX8_isUnder_11 : decode cX8_isUnder 11 = .ok (.iload_n 1, 1) := by decide +kernel
theorem dX8_isUnder_12 : decode cX8_isUnder 12 = .ok (.if_icmp .ne 5, 3) := by decide +kernel
theorem dX8_isUnder_15 : decode cX8_isUnder 15 = .ok (.iconst 1, 1) := by decide +kernel
theorem dX8_isUnder_16 : decode cX8_isUnder 16 = .ok (.ireturn, 1) := by decide +kernel
theorem dX8_isUnder_17 : decode cX8_isUnder 17 = .ok (.getstatic 170, 3) := by decide +kernel
theorem dX8_isUnder_20 : decode cX8_isUnder 20 = .ok (.iload_n 2, 1) := by decide +kernel
theorem dX8_isUnder_21 : decode cX8_isUnder 21 = .ok (.iaload, 1) := by decide +kernel
theorem dX8_isUnder_22 : decode cX8_isUnder 22 = .ok (.istore_n 2, 1) := by decide +kernel
theorem dX8_isUnder_23 : decode cX8_isUnder 23 = .ok (.iinc 3 1, 3) := by decide +kernel
theorem dX8_isUnder_26 : decode cX8_isUnder 26 = .ok (.goto (-22), 3) := by decide +kernel
theorem dX8_isUnder_29 : decode cX8_isUnder 29 = .ok (.iconst 0, 1) := by decide +kernel
theorem dX8_isUnder_30 : decode cX8_isUnder 30 = .ok (.ireturn, 1) := by decide +kernel
theorem dX8_feed_0 : decode cX8_feed 0 = .ok (.iload_n 3, 1) := by decide +kernel
theorem dX8_feed_1 : decode cX8_feed 1 = .ok (.iconst 1, 1) := by decide +kernel
theorem dX8_feed_2 : decode cX8_feed 2 = .ok (.bipush 8, 2) := by decide +kernel
theorem dX8_feed_4 : decode cX8_feed 4 = .ok (.invokestatic 82, 3) := by decide +kernel
theorem dX8_feed_7 : decode cX8_feed 7 = .ok (.ifCond .ne 9, 3) := by decide +kernel
theorem dX8_feed_10 : decode cX8_feed 10 = .ok (.aload_n 0, 1) := by decide +kernel
theorem dX8_feed_11 : decode cX8_feed 11 = .ok (.iconst 1, 1) := by decide +kernel
theorem dX8_feed_12 : decode cX8_feed 12 = .ok (.invokevirtual 86, 3) := by decide +kernel
theorem dX8_feed_15 : decode cX8_feed 15 = .ok (.ireturn, 1) := by decide +kernel
theorem dX8_feed_16 : decode cX8_feed 16 = .ok (.aload_n 0, 1) := by decide +kernel
theorem dX8_feed_17 : decode cX8_feed 17 = .ok (.getfield 26, 3) := by decide +kernel
theorem dX8_feed_20 : decode cX8_feed 20 = .ok (.getfield 173, 3) := by decide +kernel
theorem dX8_feed_23 : decode cX8_feed 23 = .ok (.bipush 50, 2) := by decide +kernel
theorem dX8_feed_25 : decode cX8_feed 25 = .ok (.iload_n 3, 1) := by decide +kernel
theorem dX8_feed_26 : decode cX8_feed 26 = .ok (.isub, 1) := by decide +kernel
theorem dX8_feed_27 : decode cX8_feed 27 = .ok (.if_icmp .le 9, 3) := by decide +kernel
theorem dX8_feed_30 : decode cX8_feed 30 = .ok (.aload_n 0, 1) := by decide +kernel
theorem dX8_feed_31 : decode cX8_feed 31 = .ok (.iconst 4, 1) := by decide +kernel
theorem dX8_feed_32 : decode cX8_feed 32 = .ok (.invokevirtual 86, 3) := by decide +kernel
theorem dX8_feed_35 : decode cX8_feed 35 = .ok (.ireturn, 1) := by decide +kernel
theorem dX8_feed_36 : decode cX8_feed 36 = .ok (.iconst 0, 1) := by decide +kernel
theorem dX8_feed_37 : decode cX8_feed 37 = .ok (.istore 4, 2) := by decide +kernel
theorem dX8_feed_39 : decode cX8_feed 39 = .ok (.iload 4, 2) := by decide +kernel
theorem dX8_feed_41 : decode cX8_feed 41 = .ok (.iload_n 3, 1) := by decide +kernel
theorem dX8_feed_42 : decode cX8_feed 42 = .ok (.if_icmp .ge 49, 3) := by decide +kernel
theorem dX8_feed_45 : decode cX8_feed 45 = .ok (.aload_n 0, 1) := by decide +kernel
theorem dX8_feed_46 : decode cX8_feed 46 = .ok (.getfield 26, 3) := by decide +kernel
theorem dX8_feed_49 : decode cX8_feed 49 = .ok (.getfield 176, 3) := by decide +kernel
theorem dX8_feed_52 : decode cX8_feed 52 = .ok (.aload_n 0, 1) := by decide +kernel
theorem dX8_feed_53 : decode cX8_feed 53 = .ok (.getfield 26, 3) := by decide +kernel
theorem dX8_feed_56 : decode cX8_feed 56 = .ok (.getfield 173, 3) := by decide +kernel
theorem dX8_feed_59 : decode cX8_feed 59 = .ok (.lload_n 1, 1) := by decide +kernel
theorem dX8_feed_60 : decode cX8_feed 60 = .ok (.bipush 8, 2) := by decide +kernel
theorem dX8_feed_62 : decode cX8_feed 62 = .ok (.iload 4, 2) := by decide +kernel
theorem dX8_feed_64 : decode cX8_feed 64 = .ok (.imul, 1) := by decide +kernel
theorem dX8_feed_65 : decode cX8_feed 65 = .ok (.lushr, 1) := by decide +kernel
theorem dX8_feed_66 : decode cX8_feed 66 = .ok (.l2i, 1) := by decide +kernel
theorem dX8_feed_67 : decode cX8_feed 67 = .ok (.sipush 255, 3) := by decide +kernel
theorem dX8_feed_70 : decode cX8_feed 70 = .ok (.iand, 1) := by decide +kernel
theorem dX8_feed_71 : decode cX8_feed 71 = .ok (.iastore, 1) := by decide +kernel
theorem dX8_feed_72 : decode cX8_feed 72 = .ok (.aload_n 0, 1) := by decide +kernel
theorem dX8_feed_73 : decode cX8_feed 73 = .ok (.getfield 26, 3) := by decide +kernel
theorem dX8_feed_76 : decode cX8_feed 76 = .ok (.dup, 1) := by decide +kernel
theorem dX8_feed_77 : decode cX8_feed 77 = .ok (.getfield 173, 3) := by decide +kernel
theorem dX8_feed_80 : decode cX8_feed 80 = .ok (.iconst 1, 1) := by decide +kernel
theorem dX8_feed_81 : decode cX8_feed 81 = .ok (.iadd, 1) := by decide +kernel
theorem dX8_feed_82 : decode cX8_feed 82 = .ok (.putfield 173, 3) := by decide +kernel
theorem dX8_feed_85 : decode cX8_feed 85 = .ok (.iinc 4 1, 3) := by decide +kernel
theorem dX8_feed_88 : decode cX8_feed 88 = .ok (.goto (-49), 3) := by decide +kernel
theorem dX8_feed_91 : decode cX8_feed 91 = .ok (.aload_n 0, 1) := by decide +kernel
theorem dX8_feed_92 : decode cX8_feed 92 = .ok (.getfield 26, 3) := by decide +kernel
theorem dX8_feed_95 : decode cX8_feed 95 = .ok (.getfield 173, 3) := by decide +kernel
theorem dX8_feed_98 : decode cX8_feed 98 = .ok (.ireturn, 1) := by decide +kernel
theorem dX8_text_0 : decode cX8_text 0 = .ok (.iload_n 1, 1) := by decide +kernel
theorem dX8_text_1 : decode cX8_text 1 = .ok (.invokestatic 179, 3) := by decide +kernel
theorem dX8_text_4 : decode cX8_text 4 = .ok (.ifCond .ne 9, 3) := by decide +kernel
theorem dX8_text_7 : decode cX8_text 7 = .ok (.aload_n 0, 1) := by decide +kernel
theorem dX8_text_8 : decode cX8_text 8 = .ok (.iconst 1, 1) := by decide +kernel
theorem dX8_text_9 : decode cX8_text 9 = .ok (.invokevirtual 86, 3) := by decide +kernel
theorem dX8_text_12 : decode cX8_text 12 = .ok (.ireturn, 1) := by decide +kernel
theorem dX8_text_13 : decode cX8_text 13 = .ok (.aload_n 0, 1) := by decide +kernel
theorem dX8_text_14 : decode cX8_text 14 = .ok (.getfield 56, 3) := by decide +kernel
theorem dX8_text_17 : decode cX8_text 17 = .ok (.aload_n 0, 1) := by decide +kernel
theorem dX8_text_18 : decode cX8_text 18 = .ok (.getfield 26, 3) := by decide +kernel
theorem dX8_text_21 : decode cX8_text 21 = .ok (.getfield 176, 3) := by decide +kernel
theorem dX8_text_24 : decode cX8_text 24 = .ok (.aload_n 0, 1) := by decide +kernel
theorem dX8_text_25 : decode cX8_text 25 = .ok (.getfield 26, 3) := by decide +kernel
theorem dX8_text_28 : decode cX8_text 28 = .ok (.getfield 173, 3) := by decide +kernel
theorem dX8_text_31 : decode cX8_text 31 = .ok (.iload_n 1, 1) := by decide +kernel
theorem dX8_text_32 : decode cX8_text 32 = .ok (.invokevirtual 182, 3) := by decide +kernel
theorem dX8_text_35 : decode cX8_text 35 = .ok (.istore_n 2, 1) := by decide +kernel
theorem dX8_text_36 : decode cX8_text 36 = .ok (.aload_n 0, 1) := by decide +kernel
theorem dX8_text_37 : decode cX8_text 37 = .ok (.getfield 26, 3) := by decide +kernel
theorem dX8_text_40 : decode cX8_text 40 = .ok (.iconst 0, 1) := by decide +kernel
theorem dX8_text_41 : decode cX8_text 41 = .ok (.putfield 173, 3) := by decide +kernel
theorem dX8_text_44 : decode cX8_text 44 = .ok (.iload_n 2, 1) := by decide +kernel
theorem dX8_text_45 : decode cX8_text 45 = .ok (.ifCond .lt 8, 3) := by decide +kernel
theorem dX8_text_48 : decode cX8_text 48 = .ok (.bipush (-10), 2) := by decide +kernel
theorem dX8_text_50 : decode cX8_text 50 = .ok (.iload_n 2, 1) := by decide +kernel
theorem dX8_text_51 : decode cX8_text 51 = .ok (.isub, 1) := by decide +kernel
theorem dX8_text_52 : decode cX8_text 52 = .ok (.ireturn, 1) := by decide +kernel
theorem dX8_text_53 : decode cX8_text 53 = .ok (.aload_n 0, 1) := by decide +kernel
theorem dX8_text_54 : decode cX8_text 54 = .ok (.getfield 10, 3) := by decide +kernel
theorem dX8_text_57 : decode cX8_text 57 = .ok (.iload_n 1, 1) := by decide +kernel
theorem dX8_text_58 : decode cX8_text 58 = .ok (.invokevirtual 186, 3) := by decide +kernel
theorem dX8_text_61 : decode cX8_text 61 = .ok (.aload_n 0, 1) := by decide +kernel
theorem dX8_text_62 : decode cX8_text 62 = .ok (.getfield 56, 3) := by decide +kernel
theorem dX8_text_65 : decode cX8_text 65 = .ok (.getfield 190, 3) := by decide +kernel
theorem dX8_text_68 : decode cX8_text 68 = .ok (.invokevirtual 194, 3) := by decide +kernel
theorem dX8_text_71 : decode cX8_text 71 = .ok (.iconst 1, 1) := by decide +kernel
theorem dX8_text_72 : decode cX8_text 72 = .ok (.ireturn, 1) := by decide +kernel
theorem dX8_law_0 : decode cX8_law 0 = .ok (.iload_n 1, 1) := by decide +kernel
theorem dX8_law_1 : decode cX8_law 1 = .ok (.invokestatic 179, 3) := by decide +kernel
theorem dX8_law_4 : decode cX8_law 4 = .ok (.ifCond .eq 18, 3) := by decide +kernel
theorem dX8_law_7 : decode cX8_law 7 = .ok (.aload_n 0, 1) := by decide +kernel
theorem dX8_law_8 : decode cX8_law 8 = .ok (.getfield 10, 3) := by decide +kernel
theorem dX8_law_11 : decode cX8_law 11 = .ok (.iload_n 1, 1) := by decide +kernel
theorem dX8_law_12 : decode cX8_law 12 = .ok (.iload_n 2, 1) := by decide +kernel
theorem dX8_law_13 : decode cX8_law 13 = .ok (.iload_n 3, 1) := by decide +kernel
theorem dX8_law_14 : decode cX8_law 14 = .ok (.iload 4, 2) := by decide +kernel
theorem dX8_law_16 : decode cX8_law 16 = .ok (.invokevirtual 200, 3) := by decide +kernel
theorem dX8_law_19 : decode cX8_law 19 = .ok (.goto 8, 3) := by decide +kernel
theorem dX8_law_22 : decode cX8_law 22 = .ok (.aload_n 0, 1) := by decide +kernel
theorem dX8_law_23 : decode cX8_law 23 = .ok (.iconst 1, 1) := by decide +kernel
theorem dX8_law_24 : decode cX8_law 24 = .ok (.invokevirtual 86, 3) := by decide +kernel
theorem dX8_law_27 : decode cX8_law 27 = .ok (.ireturn, 1) := by decide +kernel
theorem dX8_hours_0 : decode cX8_hours 0 = .ok (.iload_n 1, 1) := by decide +kernel
theorem dX8_hours_1 : decode cX8_hours 1 = .ok (.iconst 1, 1) := by decide +kernel
theorem dX8_hours_2 : decode cX8_hours 2 = .ok (.bipush 60, 2) := by decide +kernel
theorem dX8_hours_4 : decode cX8_hours 4 = .ok (.invokestatic 82, 3) := by decide +kernel
theorem dX8_hours_7 : decode cX8_hours 7 = .ok (.ifCond .ne 9, 3) := by decide +kernel
theorem dX8_hours_10 : decode cX8_hours 10 = .ok (.aload_n 0, 1) := by decide +kernel
theorem dX8_hours_11 : decode cX8_hours 11 = .ok (.iconst 1, 1) := by decide +kernel
theorem dX8_hours_12 : decode cX8_hours 12 = .ok (.invokevirtual 86, 3) := by decide +kernel
theorem dX8_hours_15 : decode cX8_hours 15 = .ok (.ireturn, 1) := by decide +kernel
theorem dX8_hours_16 : decode cX8_hours 16 = .ok (.aload_n 0, 1) := by decide +kernel
theorem dX8_hours_17 : decode cX8_hours 17 = .ok (.getfield 19, 3) := by decide +kernel
theorem dX8_hours_20 : decode cX8_hours 20 = .ok (.getfield 204, 3) := by decide +kernel
theorem dX8_hours_23 : decode cX8_hours 23 = .ok (.sipush 9999, 3) := by decide +kernel
theorem dX8_hours_26 : decode cX8_hours 26 = .ok (.iload_n 1, 1) := by decide +kernel
theorem dX8_hours_27 : decode cX8_hours 27 = .ok (.isub, 1) := by decide +kernel
theorem dX8_hours_28 : decode cX8_hours 28 = .ok (.if_icmp .le 9, 3) := by decide +kernel
theorem dX8_hours_31 : decode cX8_hours 31 = .ok (.aload_n 0, 1) := by decide +kernel
theorem dX8_hours_32 : decode cX8_hours 32 = .ok (.iconst 3, 1) := by decide +kernel
theorem dX8_hours_33 : decode cX8_hours 33 = .ok (.invokevirtual 86, 3) := by decide +kernel
theorem dX8_hours_36 : decode cX8_hours 36 = .ok (.ireturn, 1) := by decide +kernel
theorem dX8_hours_37 : decode cX8_hours 37 = .ok (.aload_n 0, 1) := by decide +kernel
theorem dX8_hours_38 : decode cX8_hours 38 = .ok (.getfield 49, 3) := by decide +kernel
theorem dX8_hours_41 : decode cX8_hours 41 = .ok (.aload_n 0, 1) := by decide +kernel
theorem dX8_hours_42 : decode cX8_hours 42 = .ok (.getfield 10, 3) := by decide +kernel
theorem dX8_hours_45 : decode cX8_hours 45 = .ok (.aload_n 0, 1) := by decide +kernel
theorem dX8_hours_46 : decode cX8_hours 46 = .ok (.getfield 10, 3) := by decide +kernel
theorem dX8_hours_49 : decode cX8_hours 49 = .ok (.getfield 116, 3) := by decide +kernel
theorem dX8_hours_52 : decode cX8_hours 52 = .ok (.invokevirtual 155, 3) := by decide +kernel
theorem dX8_hours_55 : decode cX8_hours 55 = .ok (.iconst 0, 1) := by decide +kernel
theorem dX8_hours_56 : decode cX8_hours 56 = .ok (.istore_n 2, 1) := by decide +kernel
theorem dX8_hours_57 : decode cX8_hours 57 = .ok (.iload_n 2, 1) := by decide +kernel
theorem dX8_hours_58 : decode cX8_hours 58 = .ok (.iload_n 1, 1) := by decide +kernel
theorem dX8_hours_59 : decode cX8_hours 59 = .ok (.if_icmp .ge 17, 3) := by decide +kernel
theorem dX8_hours_62 : decode cX8_hours 62 = .ok (.aload_n 0, 1) := by decide +kernel
theorem dX8_hours_63 : decode cX8_hours 63 = .ok (.aload_n 0, 1) := by decide +kernel
theorem dX8_hours_64 : decode cX8_hours 64 = .ok (.getfield 19, 3) := by decide +kernel
theorem dX8_hours_67 : decode cX8_hours 67 = .ok (.invokevirtual 207, 3) := by decide +kernel
theorem dX8_hours_70 : decode cX8_hours 70 = .ok (.iinc 2 1, 3) := by decide +kernel
theorem dX8_hours_73 : decode cX8_hours 73 = .ok (.goto (-16), 3) := by decide +kernel
theorem dX8_hours_76 : decode cX8_hours 76 = .ok (.aload_n 0, 1) := by decide +kernel
theorem dX8_hours_77 : decode cX8_hours 77 = .ok (.getfield 19, 3) := by decide +kernel
theorem dX8_hours_80 : decode cX8_hours 80 = .ok (.iconst 0, 1) := by decide +kernel
theorem dX8_hours_81 : decode cX8_hours 81 = .ok (.invokevirtual 211, 3) := by decide +kernel
theorem dX8_hours_84 : decode cX8_hours 84 = .ok (.ireturn, 1) := by decide +kernel
theorem dX8_loose_0 : decode cX8_loose 0 = .ok (.iload_n 1, 1) := by decide +kernel
theorem dX8_loose_1 : decode cX8_loose 1 = .ok (.iconst 1, 1) := by decide +kernel
theorem dX8_loose_2 : decode cX8_loose 2 = .ok (.bipush 40, 2) := by decide +kernel
theorem dX8_loose_4 : decode cX8_loose 4 = .ok (.invokestatic 82, 3) := by decide +kernel
theorem dX8_loose_7 : decode cX8_loose 7 = .ok (.ifCond .ne 9, 3) := by decide +kernel
theorem dX8_loose_10 : decode cX8_loose 10 = .ok (.aload_n 0, 1) := by decide +kernel
theorem dX8_loose_11 : decode cX8_loose 11 = .ok (.iconst 1, 1) := by decide +kernel
theorem dX8_loose_12 : decode cX8_loose 12 = .ok (.invokevirtual 86, 3) := by decide +kernel
theorem dX8_loose_15 : decode cX8_loose 15 = .ok (.ireturn, 1) := by decide +kernel
theorem dX8_loose_16 : decode cX8_loose 16 = .ok (.aload_n 0, 1) := by decide +kernel
theorem dX8_loose_17 : decode cX8_loose 17 = .ok (.getfield 19, 3) := by decide +kernel
theorem dX8_loose_20 : decode cX8_loose 20 = .ok (.getfield 204, 3) := by decide +kernel
theorem dX8_loose_23 : decode cX8_loose 23 = .ok (.sipush 9999, 3) := by decide +kernel
theorem dX8_loose_26 : decode cX8_loose 26 = .ok (.iload_n 1, 1) := by decide +kernel
theorem dX8_loose_27 : decode cX8_loose 27 = .ok (.isub, 1) := by decide +kernel
theorem dX8_loose_28 : decode cX8_loose 28 = .ok (.if_icmp .le 9, 3) := by decide +kernel
theorem dX8_loose_31 : decode cX8_loose 31 = .ok (.aload_n 0, 1) := by decide +kernel
theorem dX8_loose_32 : decode cX8_loose 32 = .ok (.iconst 3, 1) := by decide +kernel
theorem dX8_loose_33 : decode cX8_loose 33 = .ok (.invokevirtual 86, 3) := by decide +kernel
theorem dX8_loose_36 : decode cX8_loose 36 = .ok (.ireturn, 1) := by decide +kernel
theorem dX8_loose_37 : decode cX8_loose 37 = .ok (.iconst 0, 1) := by decide +kernel
theorem dX8_loose_38 : decode cX8_loose 38 = .ok (.istore_n 2, 1) := by decide +kernel
theorem dX8_loose_39 : decode cX8_loose 39 = .ok (.iload_n 2, 1) := by decide +kernel
theorem dX8_loose_40 : decode cX8_loose 40 = .ok (.iload_n 1, 1) := by decide +kernel
theorem dX8_loose_41 : decode cX8_loose 41 = .ok (.if_icmp .ge 52, 3) := by decide +kernel
theorem dX8_loose_44 : decode cX8_loose 44 = .ok (.aload_n 0, 1) := by decide +kernel
theorem dX8_loose_45 : decode cX8_loose 45 = .ok (.getfield 10, 3) := by decide +kernel
theorem dX8_loose_48 : decode cX8_loose 48 = .ok (.aload_n 0, 1) := by decide +kernel
theorem dX8_loose_49 : decode cX8_loose 49 = .ok (.getfield 26, 3) := by decide +kernel
theorem dX8_loose_52 : decode cX8_loose 52 = .ok (.invokevirtual 214, 3) := by decide +kernel
theorem dX8_loose_55 : decode cX8_loose 55 = .ok (.bipush 100, 2) := by decide +kernel
theorem dX8_loose_57 : decode cX8_loose 57 = .ok (.irem, 1) := by decide +kernel
theorem dX8_loose_58 : decode cX8_loose 58 = .ok (.putfield 116, 3) := by decide +kernel
theorem dX8_loose_61 : decode cX8_loose 61 = .ok (.aload_n 0, 1) := by decide +kernel
theorem dX8_loose_62 : decode cX8_loose 62 = .ok (.getfield 49, 3) := by decide +kernel
theorem dX8_loose_65 : decode cX8_loose 65 = .ok (.aload_n 0, 1) := by decide +kernel
theorem dX8_loose_66 : decode cX8_loose 66 = .ok (.getfield 10, 3) := by decide +kernel
theorem dX8_loose_69 : decode cX8_loose 69 = .ok (.aload_n 0, 1) := by decide +kernel
theorem dX8_loose_70 : decode cX8_loose 70 = .ok (.getfield 10, 3) := by decide +kernel
theorem dX8_loose_73 : decode cX8_loose 73 = .ok (.getfield 116, 3) := by decide +kernel
theorem dX8_loose_76 : decode cX8_loose 76 = .ok (.invokevirtual 155, 3) := by decide +kernel
theorem dX8_loose_79 : decode cX8_loose 79 = .ok (.aload_n 0, 1) := by decide +kernel
theorem dX8_loose_80 : decode cX8_loose 80 = .ok (.aload_n 0, 1) := by decide +kernel
theorem dX8_loose_81 : decode cX8_loose 81 = .ok (.getfield 19, 3) := by decide +kernel
theorem dX8_loose_84 : decode cX8_loose 84 = .ok (.invokevirtual 207, 3) := by decide +kernel
theorem dX8_loose_87 : decode cX8_loose 87 = .ok (.iinc 2 1, 3) := by decide +kernel
theorem dX8_loose_90 : decode cX8_loose 90 = .ok (.goto (-51), 3) := by decide +kernel
theorem dX8_loose_93 : decode cX8_loose 93 = .ok (.aload_n 0, 1) := by decide +kernel
theorem dX8_loose_94 : decode cX8_loose 94 = .ok (.getfield 19, 3) := by decide +kernel
theorem dX8_loose_97 : decode cX8_loose 97 = .ok (.iconst 0, 1) := by decide +kernel
theorem dX8_loose_98 : decode cX8_loose 98 = .ok (.invokevirtual 211, 3) := by decide +kernel
theorem dX8_loose_101 : decode cX8_loose 101 = .ok (.ireturn, 1) := by decide +kernel
theorem dX8_depth_0 : decode cX8_depth 0 = .ok (.aload_n 0, 1) := by decide +kernel
theorem dX8_depth_1 : decode cX8_depth 1 = .ok (.iload_n 1, 1) := by decide +kernel
theorem dX8_depth_2 : decode cX8_depth 2 = .ok (.invokevirtual 96, 3) := by decide +kernel
theorem dX8_depth_5 : decode cX8_depth 5 = .ok (.ifCond .eq 15, 3) := by decide +kernel
theorem dX8_depth_8 : decode cX8_depth 8 = .ok (.iload_n 2, 1) := by decide +kernel
theorem dX8_depth_9 : decode cX8_depth 9 = .ok (.bipush (-99), 2) := by decide +kernel
theorem dX8_depth_11 : decode cX8_depth 11 = .ok (.sipush 999, 3) := by decide +kernel
theorem dX8_depth_14 : decode cX8_depth 14 = .ok (.invokestatic 82, 3) := by decide +kernel
theorem dX8_depth_17 : decode cX8_depth 17 = .ok (.ifCond .ne 9, 3) := by decide +kernel
theorem dX8_depth_20 : decode cX8_depth 20 = .ok (.aload_n 0, 1) := by decide +kernel
theorem dX8_depth_21 : decode cX8_depth 21 = .ok (.iconst 1, 1) := by decide +kernel
theorem dX8_depth_22 : decode cX8_depth 22 = .ok (.invokevirtual 86, 3) := by decide +kernel
theorem dX8_depth_25 : decode cX8_depth 25 = .ok (.ireturn, 1) := by decide +kernel
theorem dX8_depth_26 : decode cX8_depth 26 = .ok (.aload_n 0, 1) := by decide +kernel
theorem dX8_depth_27 : decode cX8_depth 27 = .ok (.getfield 10, 3) := by decide +kernel
theorem dX8_depth_30 : decode cX8_depth 30 = .ok (.iload_n 1, 1) := by decide +kernel
theorem dX8_depth_31 : decode cX8_depth 31 = .ok (.iload_n 2, 1) := by decide +kernel
theorem dX8_depth_32 : decode cX8_depth 32 = .ok (.invokevirtual 112, 3) := by decide +kernel
theorem dX8_depth_35 : decode cX8_depth 35 = .ok (.ireturn, 1) := by decide +kernel
theorem dX8_passHour_0 : decode cX8_passHour 0 = .ok (.iconst 0, 1) := by decide +kernel
theorem dX8_passHour_1 : decode cX8_passHour 1 = .ok (.istore_n 2, 1) := by decide +kernel
theorem dX8_passHour_2 : decode cX8_passHour 2 = .ok (.iload_n 2, 1) := by decide +kernel
theorem dX8_passHour_3 : decode cX8_passHour 3 = .ok (.aload_n 1, 1) := by decide +kernel
theorem dX8_passHour_4 : decode cX8_passHour 4 = .ok (.getfield 90, 3) := by decide +kernel
theorem dX8_passHour_7 : decode cX8_passHour 7 = .ok (.if_icmp .ge 33, 3) := by decide +kernel
theorem dX8_passHour_10 : decode cX8_passHour 10 = .ok (.aload_n 1, 1) := by decide +kernel
theorem dX8_passHour_11 : decode cX8_passHour 11 = .ok (.getfield 146, 3) := by decide +kernel
theorem dX8_passHour_14 : decode cX8_passHour 14 = .ok (.iload_n 2, 1) := by decide +kernel
theorem dX8_passHour_15 : decode cX8_passHour 15 = .ok (.iaload, 1) := by decide +kernel
theorem dX8_passHour_16 : decode cX8_passHour 16 = .ok (.ifCond .ne 18, 3) := by decide +kernel
theorem dX8_passHour_19 : decode cX8_passHour 19 = .ok (.aload_n 1, 1) := by decide +kernel
theorem dX8_passHour_20 : decode cX8_passHour 20 = .ok (.getfield 143, 3) := by decide +kernel
theorem dX8_passHour_23 : decode cX8_passHour 23 = .ok (.iload_n 2, 1) := by decide +kernel
theorem dX8_passHour_24 : decode cX8_passHour 24 = .ok (.iaload, 1) := by decide +kernel
theorem dX8_passHour_25 : decode cX8_passHour 25 = .ok (.ifCond .le 9, 3) := by decide +kernel
theorem dX8_passHour_28 : decode cX8_passHour 28 = .ok (.aload_n 0, 1) := by decide +kernel
theorem dX8_passHour_29 : decode cX8_passHour 29 = .ok (.aload_n 1, 1) := by decide +kernel
theorem dX8_passHour_30 : decode cX8_passHour 30 = .ok (.iload_n 2, 1) := by decide +kernel
theorem dX8_passHour_31 : decode cX8_passHour 31 = .ok (.invokevirtual 218, 3) := by decide +kernel
theorem dX8_passHour_34 : decode cX8_passHour 34 = .ok (.iinc 2 1, 3) := by decide +kernel
theorem dX8_passHour_37 : decode cX8_passHour 37 = .ok (.goto (-35), 3) := by decide +kernel
theorem dX8_passHour_40 : decode cX8_passHour 40 = .ok (.aload_n 1, 1) := by decide +kernel
theorem dX8_passHour_41 : decode cX8_passHour 41 = .ok (.dup, 1) := by decide +kernel
theorem dX8_passHour_42 : decode cX8_passHour 42 = .ok (.getfield 204, 3) := by decide +kernel
theorem dX8_passHour_45 : decode cX8_passHour 45 = .ok (.iconst 1, 1) := by decide +kernel
theorem dX8_passHour_46 : decode cX8_passHour 46 = .ok (.iadd, 1) := by decide +kernel
theorem dX8_passHour_47 : decode cX8_passHour 47 = .ok (.putfield 204, 3) := by decide +kernel
theorem dX8_passHour_50 : decode cX8_passHour 50 = .ok (.return_, 1) := by decide +kernel
theorem dX8_sail_0 : decode cX8_sail 0 = .ok (.aload_n 1, 1) := by decide +kernel
theorem dX8_sail_1 : decode cX8_sail 1 = .ok (.getfield 140, 3) := by decide +kernel
theorem dX8_sail_4 : decode cX8_sail 4 = .ok (.iload_n 2, 1) := by decide +kernel
theorem dX8_sail_5 : decode cX8_sail 5 = .ok (.iaload, 1) := by decide +kernel
theorem dX8_sail_6 : decode cX8_sail 6 = .ok (.istore_n 3, 1) := by decide +kernel
theorem dX8_sail_7 : decode cX8_sail 7 = .ok (.aload_n 1, 1) := by decide +kernel
theorem dX8_sail_8 : decode cX8_sail 8 = .ok (.getfield 137, 3) := by decide +kernel
theorem dX8_sail_11 : decode cX8_sail 11 = .ok (.iload_n 2, 1) := by decide +kernel
theorem dX8_sail_12 : decode cX8_sail 12 = .ok (.iaload, 1) := by decide +kernel
theorem dX8_sail_13 : decode cX8_sail 13 = .ok (.istore 4, 2) := by decide +kernel
theorem dX8_sail_15 : decode cX8_sail 15 = .ok (.aload_n 1, 1) := by decide +kernel
theorem dX8_sail_16 : decode cX8_sail 16 = .ok (.getfield 143, 3) := by decide +kernel
theorem dX8_sail_19 : decode cX8_sail 19 = .ok (.iload_n 2, 1) := by decide +kernel
theorem dX8_sail_20 : decode cX8_sail 20 = .ok (.iaload, 1) := by decide +kernel
theorem dX8_sail_21 : decode cX8_sail 21 = .ok (.iconst 1, 1) := by decide +kernel
theorem dX8_sail_22 : decode cX8_sail 22 = .ok (.isub, 1) := by decide +kernel
theorem dX8_sail_23 : decode cX8_sail 23 = .ok (.istore 5, 2) := by decide +kernel
theorem dX8_sail_25 : decode cX8_sail 25 = .ok (.aload_n 0, 1) := by decide +kernel
theorem dX8_sail_26 : decode cX8_sail 26 = .ok (.getfield 49, 3) := by decide +kernel
theorem dX8_sail_29 : decode cX8_sail 29 = .ok (.aload_n 1, 1) := by decide +kernel
theorem dX8_sail_30 : decode cX8_sail 30 = .ok (.getfield 134, 3) := by decide +kernel
theorem dX8_sail_33 : decode cX8_sail 33 = .ok (.iload_n 2, 1) := by decide +kernel
theorem dX8_sail_34 : decode cX8_sail 34 = .ok (.iaload, 1) := by decide +kernel
theorem dX8_sail_35 : decode cX8_sail 35 = .ok (.iload 4, 2) := by decide +kernel
theorem dX8_sail_37 : decode cX8_sail 37 = .ok (.iload 5, 2) := by decide +kernel
theorem dX8_sail_39 : decode cX8_sail 39 = .ok (.invokevirtual 159, 3) := by decide +kernel
theorem dX8_sail_42 : decode cX8_sail 42 = .ok (.iload_n 3, 1) := by decide +kernel
theorem dX8_sail_43 : decode cX8_sail 43 = .ok (.if_icmp .lt 39, 3) := by decide +kernel
theorem dX8_sail_46 : decode cX8_sail 46 = .ok (.aload_n 1, 1) := by decide +kernel
theorem dX8_sail_47 : decode cX8_sail 47 = .ok (.getfield 143, 3) := by decide +kernel
theorem dX8_sail_50 : decode cX8_sail 50 = .ok (.iload_n 2, 1) := by decide +kernel
theorem dX8_sail_51 : decode cX8_sail 51 = .ok (.iload 5, 2) := by decide +kernel
theorem dX8_sail_53 : decode cX8_sail 53 = .ok (.iastore, 1) := by decide +kernel
theorem dX8_sail_54 : decode cX8_sail 54 = .ok (.aload_n 1, 1) := by decide +kernel
theorem dX8_sail_55 : decode cX8_sail 55 = .ok (.getfield 146, 3) := by decide +kernel
theorem dX8_sail_58 : decode cX8_sail 58 = .ok (.iload_n 2, 1) := by decide +kernel
theorem dX8_sail_59 : decode cX8_sail 59 = .ok (.aload_n 0, 1) := by decide +kernel
theorem dX8_sail_60 : decode cX8_sail 60 = .ok (.getfield 49, 3) := by decide +kernel
theorem dX8_sail_63 : decode cX8_sail 63 = .ok (.getfield 222, 3) := by decide +kernel
theorem dX8_sail_66 : decode cX8_sail 66 = .ok (.iload 5, 2) := by decide +kernel
theorem dX8_sail_68 : decode cX8_sail 68 = .ok (.iaload, 1) := by decide +kernel
theorem dX8_sail_69 : decode cX8_sail 69 = .ok (.iload_n 3, 1) := by decide +kernel
theorem dX8_sail_70 : decode cX8_sail 70 = .ok (.if_icmp .ge 7, 3) := by decide +kernel
theorem dX8_sail_73 : decode cX8_sail 73 = .ok (.iconst 1, 1) := by decide +kernel
theorem dX8_sail_74 : decode cX8_sail 74 = .ok (.goto 4, 3) := by decide +kernel
theorem dX8_sail_77 : decode cX8_sail 77 = .ok (.iconst 0, 1) := by decide +kernel
theorem dX8_sail_78 : decode cX8_sail 78 = .ok (.iastore, 1) := by decide +kernel
theorem dX8_sail_79 : decode cX8_sail 79 = .ok (.goto 50, 3) := by decide +kernel
theorem dX8_sail_82 : decode cX8_sail 82 = .ok (.aload_n 0, 1) := by decide +kernel
theorem dX8_sail_83 : decode cX8_sail 83 = .ok (.getfield 10, 3) := by decide +kernel
theorem dX8_sail_86 : decode cX8_sail 86 = .ok (.iconst 1, 1) := by decide +kernel
theorem dX8_sail_87 : decode cX8_sail 87 = .ok (.iload_n 3, 1) := by decide +kernel
theorem dX8_sail_88 : decode cX8_sail 88 = .ok (.iload 4, 2) := by decide +kernel
theorem dX8_sail_90 : decode cX8_sail 90 = .ok (.aload_n 1, 1) := by decide +kernel
theorem dX8_sail_91 : decode cX8_sail 91 = .ok (.getfield 204, 3) := by decide +kernel
theorem dX8_sail_94 : decode cX8_sail 94 = .ok (.invokevirtual 200, 3) := by decide +kernel
theorem dX8_sail_97 : decode cX8_sail 97 = .ok (.iconst 1, 1) := by decide +kernel
theorem dX8_sail_98 : decode cX8_sail 98 = .ok (.if_icmp .ne 31, 3) := by decide +kernel
theorem dX8_sail_101 : decode cX8_sail 101 = .ok (.aload_n 1, 1) := by decide +kernel
theorem dX8_sail_102 : decode cX8_sail 102 = .ok (.getfield 143, 3) := by decide +kernel
theorem dX8_sail_105 : decode cX8_sail 105 = .ok (.iload_n 2, 1) := by decide +kernel
theorem dX8_sail_106 : decode cX8_sail 106 = .ok (.iaload, 1) := by decide +kernel
theorem dX8_sail_107 : decode cX8_sail 107 = .ok (.aload_n 0, 1) := by decide +kernel
theorem dX8_sail_108 : decode cX8_sail 108 = .ok (.getfield 10, 3) := by decide +kernel
theorem dX8_sail_111 : decode cX8_sail 111 = .ok (.getfield 93, 3) := by decide +kernel
theorem dX8_sail_114 : decode cX8_sail 114 = .ok (.iconst 1, 1) := by decide +kernel
theorem dX8_sail_115 : decode cX8_sail 115 = .ok (.isub, 1) := by decide +kernel
theorem dX8_sail_116 : decode cX8_sail 116 = .ok (.if_icmp .ge 13, 3) := by decide +kernel
theorem dX8_sail_119 : decode cX8_sail 119 = .ok (.aload_n 1, 1) := by decide +kernel
theorem dX8_sail_120 : decode cX8_sail 120 = .ok (.getfield 143, 3) := by decide +kernel
theorem dX8_sail_123 : decode cX8_sail 123 = .ok (.iload_n 2, 1) := by decide +kernel
theorem dX8_sail_124 : decode cX8_sail 124 = .ok (.dup2, 1) := by decide +kernel
theorem dX8_sail_125 : decode cX8_sail 125 = .ok (.iaload, 1) := by decide +kernel
theorem dX8_sail_126 : decode cX8_sail 126 = .ok (.iconst 1, 1) := by decide +kernel
theorem dX8_sail_127 : decode cX8_sail 127 = .ok (.iadd, 1) := by decide +kernel
theorem dX8_sail_128 : decode cX8_sail 128 = .ok (.iastore, 1) := by decide +kernel
theorem dX8_sail_129 : decode cX8_sail 129 = .ok (.return_, 1) := by decide +kernel
theorem dX8_then_0 : decode cX8_then 0 = .ok (.iload_n 1, 1) := by decide +kernel
theorem dX8_then_1 : decode cX8_then 1 = .ok (.iconst 0, 1) := by decide +kernel
theorem dX8_then_2 : decode cX8_then 2 = .ok (.bipush 60, 2) := by decide +kernel
theorem dX8_then_4 : decode cX8_then 4 = .ok (.invokestatic 82, 3) := by decide +kernel
theorem dX8_then_7 : decode cX8_then 7 = .ok (.ifCond .eq 20, 3) := by decide +kernel
theorem dX8_then_10 : decode cX8_then 10 = .ok (.aload_n 0, 1) := by decide +kernel
theorem dX8_then_11 : decode cX8_then 11 = .ok (.iload_n 2, 1) := by decide +kernel
theorem dX8_then_12 : decode cX8_then 12 = .ok (.invokevirtual 149, 3) := by decide +kernel
theorem dX8_then_15 : decode cX8_then 15 = .ok (.ifCond .eq 12, 3) := by decide +kernel
theorem dX8_then_18 : decode cX8_then 18 = .ok (.iload_n 3, 1) := by decide +kernel
theorem dX8_then_19 : decode cX8_then 19 = .ok (.iconst 0, 1) := by decide +kernel
theorem dX8_then_20 : decode cX8_then 20 = .ok (.iconst 1, 1) := by decide +kernel
theorem dX8_then_21 : decode cX8_then 21 = .ok (.invokestatic 82, 3) := by decide +kernel
theorem dX8_then_24 : decode cX8_then 24 = .ok (.ifCond .ne 9, 3) := by decide +kernel
theorem dX8_then_27 : decode cX8_then 27 = .ok (.aload_n 0, 1) := by decide +kernel
theorem dX8_then_28 : decode cX8_then 28 = .ok (.iconst 1, 1) := by decide +kernel
theorem dX8_then_29 : decode cX8_then 29 = .ok (.invokevirtual 86, 3) := by decide +kernel
theorem dX8_then_32 : decode cX8_then 32 = .ok (.ireturn, 1) := by decide +kernel
theorem dX8_then_33 : decode cX8_then 33 = .ok (.aload_n 0, 1) := by decide +kernel
theorem dX8_then_34 : decode cX8_then 34 = .ok (.getfield 49, 3) := by decide +kernel
theorem dX8_then_37 : decode cX8_then 37 = .ok (.aload_n 0, 1) := by decide +kernel
theorem dX8_then_38 : decode cX8_then 38 = .ok (.getfield 10, 3) := by decide +kernel
theorem dX8_then_41 : decode cX8_then 41 = .ok (.aload_n 0, 1) := by decide +kernel
theorem dX8_then_42 : decode cX8_then 42 = .ok (.getfield 10, 3) := by decide +kernel
theorem dX8_then_45 : decode cX8_then 45 = .ok (.getfield 116, 3) := by decide +kernel
theorem dX8_then_48 : decode cX8_then 48 = .ok (.invokevirtual 155, 3) := by decide +kernel
theorem dX8_then_51 : decode cX8_then 51 = .ok (.aload_n 0, 1) := by decide +kernel
theorem dX8_then_52 : decode cX8_then 52 = .ok (.iload_n 1, 1) := by decide +kernel
theorem dX8_then_53 : decode cX8_then 53 = .ok (.invokevirtual 225, 3) := by decide +kernel
theorem dX8_then_56 : decode cX8_then 56 = .ok (.iload_n 3, 1) := by decide +kernel
theorem dX8_then_57 : decode cX8_then 57 = .ok (.ifCond .ne 15, 3) := by decide +kernel
theorem dX8_then_60 : decode cX8_then 60 = .ok (.aload_n 0, 1) := by decide +kernel
theorem dX8_then_61 : decode cX8_then 61 = .ok (.getfield 43, 3) := by decide +kernel
theorem dX8_then_64 : decode cX8_then 64 = .ok (.getfield 143, 3) := by decide +kernel
theorem dX8_then_67 : decode cX8_then 67 = .ok (.iload_n 2, 1) := by decide +kernel
theorem dX8_then_68 : decode cX8_then 68 = .ok (.iaload, 1) := by decide +kernel
theorem dX8_then_69 : decode cX8_then 69 = .ok (.goto 12, 3) := by decide +kernel
theorem dX8_then_72 : decode cX8_then 72 = .ok (.aload_n 0, 1) := by decide +kernel
theorem dX8_then_73 : decode cX8_then 73 = .ok (.getfield 43, 3) := by decide +kernel
theorem dX8_then_76 : decode cX8_then 76 = .ok (.getfield 146, 3) := by decide +kernel
theorem dX8_then_79 : decode cX8_then 79 = .ok (.iload_n 2, 1) := by decide +kernel
theorem dX8_then_80 : decode cX8_then 80 = .ok (.iaload, 1) := by decide +kernel
theorem dX8_then_81 : decode cX8_then 81 = .ok (.ireturn, 1) := by decide +kernel
theorem dX8_think_0 : decode cX8_think 0 = .ok (.aload_n 0, 1) := by decide +kernel
theorem dX8_think_1 : decode cX8_think 1 = .ok (.getfield 43, 3) := by decide +kernel
theorem dX8_think_4 : decode cX8_think 4 = .ok (.aload_n 0, 1) := by decide +kernel
theorem dX8_think_5 : decode cX8_think 5 = .ok (.getfield 19, 3) := by decide +kernel
theorem dX8_think_8 : decode cX8_think 8 = .ok (.invokevirtual 228, 3) := by decide +kernel
theorem dX8_think_11 : decode cX8_think 11 = .ok (.iconst 0, 1) := by decide +kernel
theorem dX8_think_12 : decode cX8_think 12 = .ok (.istore_n 2, 1) := by decide +kernel
theorem dX8_think_13 : decode cX8_think 13 = .ok (.iload_n 2, 1) := by decide +kernel
theorem dX8_think_14 : decode cX8_think 14 = .ok (.iload_n 1, 1) := by decide +kernel
theorem dX8_think_15 : decode cX8_think 15 = .ok (.if_icmp .ge 17, 3) := by decide +kernel
theorem dX8_think_18 : decode cX8_think 18 = .ok (.aload_n 0, 1) := by decide +kernel
theorem dX8_think_19 : decode cX8_think 19 = .ok (.aload_n 0, 1) := by decide +kernel
theorem dX8_think_20 : decode cX8_think 20 = .ok (.getfield 43, 3) := by decide +kernel
theorem dX8_think_23 : decode cX8_think 23 = .ok (.invokevirtual 207, 3) := by decide +kernel
theorem dX8_think_26 : decode cX8_think 26 = .ok (.iinc 2 1, 3) := by decide +kernel
theorem dX8_think_29 : decode cX8_think 29 = .ok (.goto (-16), 3) := by decide +kernel
theorem dX8_think_32 : decode cX8_think 32 = .ok (.return_, 1) := by decide +kernel
theorem dX8_lost_0 : decode cX8_lost 0 = .ok (.iload_n 1, 1) := by decide +kernel
theorem dX8_lost_1 : decode cX8_lost 1 = .ok (.iconst 0, 1) := by decide +kernel
theorem dX8_lost_2 : decode cX8_lost 2 = .ok (.iconst 1, 1) := by decide +kernel
theorem dX8_lost_3 : decode cX8_lost 3 = .ok (.invokestatic 82, 3) := by decide +kernel
theorem dX8_lost_6 : decode cX8_lost 6 = .ok (.ifCond .ne 9, 3) := by decide +kernel
theorem dX8_lost_9 : decode cX8_lost 9 = .ok (.aload_n 0, 1) := by decide +kernel
theorem dX8_lost_10 : decode cX8_lost 10 = .ok (.iconst 1, 1) := by decide +kernel
theorem dX8_lost_11 : decode cX8_lost 11 = .ok (.invokevirtual 86, 3) := by decide +kernel
theorem dX8_lost_14 : decode cX8_lost 14 = .ok (.ireturn, 1) := by decide +kernel
theorem dX8_lost_15 : decode cX8_lost 15 = .ok (.aload_n 0, 1) := by decide +kernel
theorem dX8_lost_16 : decode cX8_lost 16 = .ok (.getfield 19, 3) := by decide +kernel
theorem dX8_lost_19 : decode cX8_lost 19 = .ok (.invokevirtual 230, 3) := by decide +kernel
theorem dX8_lost_22 : decode cX8_lost 22 = .ok (.istore_n 2, 1) := by decide +kernel
theorem dX8_lost_23 : decode cX8_lost 23 = .ok (.aload_n 0, 1) := by decide +kernel
theorem dX8_lost_24 : decode cX8_lost 24 = .ok (.getfield 49, 3) := by decide +kernel
theorem dX8_lost_27 : decode cX8_lost 27 = .ok (.aload_n 0, 1) := by decide +kernel
theorem dX8_lost_28 : decode cX8_lost 28 = .ok (.getfield 10, 3) := by decide +kernel
theorem dX8_lost_31 : decode cX8_lost 31 = .ok (.aload_n 0, 1) := by decide +kernel
theorem dX8_lost_32 : decode cX8_lost 32 = .ok (.getfield 10, 3) := by decide +kernel
theorem dX8_lost_35 : decode cX8_lost 35 = .ok (.getfield 116, 3) := by decide +kernel
theorem dX8_lost_38 : decode cX8_lost 38 = .ok (.invokevirtual 155, 3) := by decide +kernel
theorem dX8_lost_41 : decode cX8_lost 41 = .ok (.aload_n 0, 1) := by decide +kernel
theorem dX8_lost_42 : decode cX8_lost 42 = .ok (.iconst 0, 1) := by decide +kernel
theorem dX8_lost_43 : decode cX8_lost 43 = .ok (.invokevirtual 225, 3) := by decide +kernel
theorem dX8_lost_46 : decode cX8_lost 46 = .ok (.iconst 1, 1) := by decide +kernel
theorem dX8_lost_47 : decode cX8_lost 47 = .ok (.istore_n 3, 1) := by decide +kernel
theorem dX8_lost_48 : decode cX8_lost 48 = .ok (.iload_n 3, 1) := by decide +kernel
theorem dX8_lost_49 : decode cX8_lost 49 = .ok (.bipush 60, 2) := by decide +kernel
theorem dX8_lost_51 : decode cX8_lost 51 = .ok (.if_icmp .gt 41, 3) := by decide +kernel
theorem dX8_lost_54 : decode cX8_lost 54 = .ok (.aload_n 0, 1) := by decide +kernel
theorem dX8_lost_55 : decode cX8_lost 55 = .ok (.aload_n 0, 1) := by decide +kernel
theorem dX8_lost_56 : decode cX8_lost 56 = .ok (.getfield 43, 3) := by decide +kernel
theorem dX8_lost_59 : decode cX8_lost 59 = .ok (.invokevirtual 207, 3) := by decide +kernel
theorem dX8_lost_62 : decode cX8_lost 62 = .ok (.aload_n 0, 1) := by decide +kernel
theorem dX8_lost_63 : decode cX8_lost 63 = .ok (.getfield 43, 3) := by decide +kernel
theorem dX8_lost_66 : decode cX8_lost 66 = .ok (.invokevirtual 230, 3) := by decide +kernel
theorem dX8_lost_69 : decode cX8_lost 69 = .ok (.iload_n 2, 1) := by decide +kernel
theorem dX8_lost_70 : decode cX8_lost 70 = .ok (.if_icmp .le 16, 3) := by decide +kernel
theorem dX8_lost_73 : decode cX8_lost 73 = .ok (.iload_n 1, 1) := by decide +kernel
theorem dX8_lost_74 : decode cX8_lost 74 = .ok (.ifCond .ne 7, 3) := by decide +kernel
theorem dX8_lost_77 : decode cX8_lost 77 = .ok (.iload_n 3, 1) := by decide +kernel
theorem dX8_lost_78 : decode cX8_lost 78 = .ok (.goto 7, 3) := by decide +kernel
theorem dX8_lost_81 : decode cX8_lost 81 = .ok (.aload_n 0, 1) := by decide +kernel
theorem dX8_lost_82 : decode cX8_lost 82 = .ok (.invokevirtual 233, 3) := by decide +kernel
theorem dX8_lost_85 : decode cX8_lost 85 = .ok (.ireturn, 1) := by decide +kernel
theorem dX8_lost_86 : decode cX8_lost 86 = .ok (.iinc 3 1, 3) := by decide +kernel
theorem dX8_lost_89 : decode cX8_lost 89 = .ok (.goto (-41), 3) := by decide +kernel
theorem dX8_lost_92 : decode cX8_lost 92 = .ok (.aload_n 0, 1) := by decide +kernel
theorem dX8_lost_93 : decode cX8_lost 93 = .ok (.iconst 2, 1) := by decide +kernel
theorem dX8_lost_94 : decode cX8_lost 94 = .ok (.invokevirtual 86, 3) := by decide +kernel
theorem dX8_lost_97 : decode cX8_lost 97 = .ok (.ireturn, 1) := by decide +kernel
theorem dX8_leastNewlyLost_0 : decode cX8_leastNewlyLost 0 = .ok (.iconst 0, 1) := by decide +kernel
theorem dX8_leastNewlyLost_1 : decode cX8_leastNewlyLost 1 = .ok (.istore_n 1, 1) := by decide +kernel
theorem dX8_leastNewlyLost_2 : decode cX8_leastNewlyLost 2 = .ok (.aload_n 0, 1) := by decide +kernel
theorem dX8_leastNewlyLost_3 : decode cX8_leastNewlyLost 3 = .ok (.getfield 19, 3) := by decide +kernel
theorem dX8_leastNewlyLost_6 : decode cX8_leastNewlyLost 6 = .ok (.getfield 90, 3) := by decide +kernel
theorem dX8_leastNewlyLost_9 : decode cX8_leastNewlyLost 9 = .ok (.iconst 1, 1) := by decide +kernel
theorem dX8_leastNewlyLost_10 : decode cX8_leastNewlyLost 10 = .ok (.isub, 1) := by decide +kernel
theorem dX8_leastNewlyLost_11 : decode cX8_leastNewlyLost 11 = .ok (.istore_n 2, 1) := by decide +kernel
theorem dX8_leastNewlyLost_12 : decode cX8_leastNewlyLost 12 = .ok (.iload_n 2, 1) := by decide +kernel
theorem dX8_leastNewlyLost_13 : decode cX8_leastNewlyLost 13 = .ok (.ifCond .lt 32, 3) := by decide +kernel
theorem dX8_leastNewlyLost_16 : decode cX8_leastNewlyLost 16 = .ok (.aload_n 0, 1) := by decide +kernel
theorem dX8_leastNewlyLost_17 : decode cX8_leastNewlyLost 17 = .ok (.getfield 43, 3) := by decide +kernel
theorem dX8_leastNewlyLost_20 : decode cX8_leastNewlyLost 20 = .ok (.getfield 146, 3) := by decide +kernel
theorem dX8_leastNewlyLost_23 : decode cX8_leastNewlyLost 23 = .ok (.iload_n 2, 1) := by decide +kernel
theorem dX8_leastNewlyLost_24 : decode cX8_leastNewlyLost 24 = .ok (.iaload, 1) := by decide +kernel
theorem dX8_leastNewlyLost_25 : decode cX8_leastNewlyLost 25 = .ok (.aload_n 0, 1) := by decide +kernel
theorem dX8_leastNewlyLost_26 : decode cX8_leastNewlyLost 26 = .ok (.getfield 19, 3) := by decide +kernel
theorem dX8_leastNewlyLost_29 : decode cX8_leastNewlyLost 29 = .ok (.getfield 146, 3) := by decide +kernel
theorem dX8_leastNewlyLost_32 : decode cX8_leastNewlyLost 32 = .ok (.iload_n 2, 1) := by decide +kernel
theorem dX8_leastNewlyLost_33 : decode cX8_leastNewlyLost 33 = .ok (.iaload, 1) := by decide +kernel
theorem dX8_leastNewlyLost_34 : decode cX8_leastNewlyLost 34 = .ok (.if_icmp .le 5, 3) := by decide +kernel
theorem dX8_leastNewlyLost_37 : decode cX8_leastNewlyLost 37 = .ok (.iload_n 2, 1) := by decide +kernel
theorem dX8_leastNewlyLost_38 : decode cX8_leastNewlyLost 38 = .ok (.istore_n 1, 1) := by decide +kernel
theorem dX8_leastNewlyLost_39 : decode cX8_leastNewlyLost 39 = .ok (.iinc 2 (-1), 3) := by decide +kernel
theorem dX8_leastNewlyLost_42 : decode cX8_leastNewlyLost 42 = .ok (.goto (-30), 3) := by decide +kernel
theorem dX8_leastNewlyLost_45 : decode cX8_leastNewlyLost 45 = .ok (.iload_n 1, 1) := by decide +kernel
theorem dX8_leastNewlyLost_46 : decode cX8_leastNewlyLost 46 = .ok (.ireturn, 1) := by decide +kernel
theorem dX8_setting_0 : decode cX8_setting 0 = .ok (.iload_n 1, 1) := by decide +kernel
theorem dX8_setting_1 : decode cX8_setting 1 = .ok (.iconst 0, 1) := by decide +kernel
theorem dX8_setting_2 : decode cX8_setting 2 = .ok (.iconst 1, 1) := by decide +kernel
theorem dX8_setting_3 : decode cX8_setting 3 = .ok (.aload_n 0, 1) := by decide +kernel
theorem dX8_setting_4 : decode cX8_setting 4 = .ok (.getfield 19, 3) := by decide +kernel
theorem dX8_setting_7 : decode cX8_setting 7 = .ok (.getfield 90, 3) := by decide +kernel
theorem dX8_setting_10 : decode cX8_setting 10 = .ok (.ishl, 1) := by decide +kernel
theorem dX8_setting_11 : decode cX8_setting 11 = .ok (.iconst 1, 1) := by decide +kernel
theorem dX8_setting_12 : decode cX8_setting 12 = .ok (.isub, 1) := by decide +kernel
theorem dX8_setting_13 : decode cX8_setting 13 = .ok (.invokestatic 82, 3) := by decide +kernel
theorem dX8_setting_16 : decode cX8_setting 16 = .ok (.ifCond .eq 13, 3) := by decide +kernel
theorem dX8_setting_19 : decode cX8_setting 19 = .ok (.iload_n 2, 1) := by decide +kernel
theorem dX8_setting_20 : decode cX8_setting 20 = .ok (.iconst 0, 1) := by decide +kernel
theorem dX8_setting_21 : decode cX8_setting 21 = .ok (.bipush 20, 2) := by decide +kernel
theorem dX8_setting_23 : decode cX8_setting 23 = .ok (.invokestatic 82, 3) := by decide +kernel
theorem dX8_setting_26 : decode cX8_setting 26 = .ok (.ifCond .ne 9, 3) := by decide +kernel
theorem dX8_setting_29 : decode cX8_setting 29 = .ok (.aload_n 0, 1) := by decide +kernel
theorem dX8_setting_30 : decode cX8_setting 30 = .ok (.iconst 1, 1) := by decide +kernel
theorem dX8_setting_31 : decode cX8_setting 31 = .ok (.invokevirtual 86, 3) := by decide +kernel
theorem dX8_setting_34 : decode cX8_setting 34 = .ok (.ireturn, 1) := by decide +kernel
theorem dX8_setting_35 : decode cX8_setting 35 = .ok (.iconst 0, 1) := by decide +kernel
theorem dX8_setting_36 : decode cX8_setting 36 = .ok (.istore_n 3, 1) := by decide +kernel
theorem dX8_setting_37 : decode cX8_setting 37 = .ok (.iload_n 3, 1) := by decide +kernel
theorem dX8_setting_38 : decode cX8_setting 38 = .ok (.bipush 99, 2) := by decide +kernel
theorem dX8_setting_40 : decode cX8_setting 40 = .ok (.if_icmp .gt 42, 3) := by decide +kernel
theorem dX8_setting_43 : decode cX8_setting 43 = .ok (.aload_n 0, 1) := by decide +kernel
theorem dX8_setting_44 : decode cX8_setting 44 = .ok (.getfield 49, 3) := by decide +kernel
theorem dX8_setting_47 : decode cX8_setting 47 = .ok (.aload_n 0, 1) := by decide +kernel
theorem dX8_setting_48 : decode cX8_setting 48 = .ok (.getfield 10, 3) := by decide +kernel
theorem dX8_setting_51 : decode cX8_setting 51 = .ok (.iload_n 3, 1) := by decide +kernel
theorem dX8_setting_52 : decode cX8_setting 52 = .ok (.invokevirtual 155, 3) := by decide +kernel
theorem dX8_setting_55 : decode cX8_setting 55 = .ok (.aload_n 0, 1) := by decide +kernel
theorem dX8_setting_56 : decode cX8_setting 56 = .ok (.iload_n 2, 1) := by decide +kernel
theorem dX8_setting_57 : decode cX8_setting 57 = .ok (.invokevirtual 225, 3) := by decide +kernel
theorem dX8_setting_60 : decode cX8_setting 60 = .ok (.aload_n 0, 1) := by decide +kernel
theorem dX8_setting_61 : decode cX8_setting 61 = .ok (.getfield 43, 3) := by decide +kernel
theorem dX8_setting_64 : decode cX8_setting 64 = .ok (.iconst 0, 1) := by decide +kernel
theorem dX8_setting_65 : decode cX8_setting 65 = .ok (.invokevirtual 122, 3) := by decide +kernel
theorem dX8_setting_68 : decode cX8_setting 68 = .ok (.iload_n 1, 1) := by decide +kernel
theorem dX8_setting_69 : decode cX8_setting 69 = .ok (.iand, 1) := by decide +kernel
theorem dX8_setting_70 : decode cX8_setting 70 = .ok (.iload_n 1, 1) := by decide +kernel
theorem dX8_setting_71 : decode cX8_setting 71 = .ok (.if_icmp .ne 5, 3) := by decide +kernel
theorem dX8_setting_74 : decode cX8_setting 74 = .ok (.iload_n 3, 1) := by decide +kernel
theorem dX8_setting_75 : decode cX8_setting 75 = .ok (.ireturn, 1) := by decide +kernel
theorem dX8_setting_76 : decode cX8_setting 76 = .ok (.iinc 3 1, 3) := by decide +kernel
theorem dX8_setting_79 : decode cX8_setting 79 = .ok (.goto (-42), 3) := by decide +kernel
theorem dX8_setting_82 : decode cX8_setting 82 = .ok (.aload_n 0, 1) := by decide +kernel
theorem dX8_setting_83 : decode cX8_setting 83 = .ok (.iconst 2, 1) := by decide +kernel
theorem dX8_setting_84 : decode cX8_setting 84 = .ok (.invokevirtual 86, 3) := by decide +kernel
theorem dX8_setting_87 : decode cX8_setting 87 = .ok (.ireturn, 1) := by decide +kernel
theorem dX8_leastFalse_0 : decode cX8_leastFalse 0 = .ok (.iload_n 1, 1) := by decide +kernel
theorem dX8_leastFalse_1 : decode cX8_leastFalse 1 = .ok (.iconst 0, 1) := by decide +kernel
theorem dX8_leastFalse_2 : decode cX8_leastFalse 2 = .ok (.iconst 1, 1) := by decide +kernel
theorem dX8_leastFalse_3 : decode cX8_leastFalse 3 = .ok (.invokestatic 82, 3) := by decide +kernel
theorem dX8_leastFalse_6 : decode cX8_leastFalse 6 = .ok (.ifCond .ne 9, 3) := by decide +kernel
theorem dX8_leastFalse_9 : decode cX8_leastFalse 9 = .ok (.aload_n 0, 1) := by decide +kernel
theorem dX8_leastFalse_10 : decode cX8_leastFalse 10 = .ok (.iconst 1, 1) := by decide +kernel
theorem dX8_leastFalse_11 : decode cX8_leastFalse 11 = .ok (.invokevirtual 86, 3) := by decide +kernel
theorem dX8_leastFalse_14 : decode cX8_leastFalse 14 = .ok (.ireturn, 1) := by decide +kernel
theorem dX8_leastFalse_15 : decode cX8_leastFalse 15 = .ok (.iconst 1, 1) := by decide +kernel
theorem dX8_leastFalse_16 : decode cX8_leastFalse 16 = .ok (.istore_n 2, 1) := by decide +kernel
theorem dX8_leastFalse_17 : decode cX8_leastFalse 17 = .ok (.bipush 9, 2) := by decide +kernel
theorem dX8_leastFalse_19 : decode cX8_leastFalse 19 = .ok (.istore_n 3, 1) := by decide +kernel
theorem dX8_leastFalse_20 : decode cX8_leastFalse 20 = .ok (.iconst 1, 1) := by decide +kernel
theorem dX8_leastFalse_21 : decode cX8_leastFalse 21 = .ok (.istore 4, 2) := by decide +kernel
theorem dX8_leastFalse_23 : decode cX8_leastFalse 23 = .ok (.iload 4, 2) := by decide +kernel
theorem dX8_leastFalse_25 : decode cX8_leastFalse 25 = .ok (.bipush 99, 2) := by decide +kernel
theorem dX8_leastFalse_27 : decode cX8_leastFalse 27 = .ok (.if_icmp .gt 43, 3) := by decide +kernel
theorem dX8_leastFalse_30 : decode cX8_leastFalse 30 = .ok (.aload_n 0, 1) := by decide +kernel
theorem dX8_leastFalse_31 : decode cX8_leastFalse 31 = .ok (.getfield 49, 3) := by decide +kernel
theorem dX8_leastFalse_34 : decode cX8_leastFalse 34 = .ok (.aload_n 0, 1) := by decide +kernel
theorem dX8_leastFalse_35 : decode cX8_leastFalse 35 = .ok (.getfield 10, 3) := by decide +kernel
theorem dX8_leastFalse_38 : decode cX8_leastFalse 38 = .ok (.iload 4, 2) := by decide +kernel
theorem dX8_leastFalse_40 : decode cX8_leastFalse 40 = .ok (.invokevirtual 155, 3) := by decide +kernel
theorem dX8_leastFalse_43 : decode cX8_leastFalse 43 = .ok (.aload_n 0, 1) := by decide +kernel
theorem dX8_leastFalse_44 : decode cX8_leastFalse 44 = .ok (.getfield 49, 3) := by decide +kernel
theorem dX8_leastFalse_47 : decode cX8_leastFalse 47 = .ok (.invokevirtual 236, 3) := by decide +kernel
theorem dX8_leastFalse_50 : decode cX8_leastFalse 50 = .ok (.istore 5, 2) := by decide +kernel
theorem dX8_leastFalse_52 : decode cX8_leastFalse 52 = .ok (.iload 5, 2) := by decide +kernel
theorem dX8_leastFalse_54 : decode cX8_leastFalse 54 = .ok (.iload_n 3, 1) := by decide +kernel
theorem dX8_leastFalse_55 : decode cX8_leastFalse 55 = .ok (.if_icmp .ge 9, 3) := by decide +kernel
theorem dX8_leastFalse_58 : decode cX8_leastFalse 58 = .ok (.iload 5, 2) := by decide +kernel
theorem dX8_leastFalse_60 : decode cX8_leastFalse 60 = .ok (.istore_n 3, 1) := by decide +kernel
theorem dX8_leastFalse_61 : decode cX8_leastFalse 61 = .ok (.iload 4, 2) := by decide +kernel
theorem dX8_leastFalse_63 : decode cX8_leastFalse 63 = .ok (.istore_n 2, 1) := by decide +kernel
theorem dX8_leastFalse_64 : decode cX8_leastFalse 64 = .ok (.iinc 4 1, 3) := by decide +kernel
theorem dX8_leastFalse_67 : decode cX8_leastFalse 67 = .ok (.goto (-44), 3) := by decide +kernel
theorem dX8_leastFalse_70 : decode cX8_leastFalse 70 = .ok (.iload_n 1, 1) := by decide +kernel
theorem dX8_leastFalse_71 : decode cX8_leastFalse 71 = .ok (.ifCond .ne 7, 3) := by decide +kernel
theorem dX8_leastFalse_74 : decode cX8_leastFalse 74 = .ok (.iload_n 2, 1) := by decide +kernel
theorem dX8_leastFalse_75 : decode cX8_leastFalse 75 = .ok (.goto 4, 3) := by decide +kernel
theorem dX8_leastFalse_78 : decode cX8_leastFalse 78 = .ok (.iload_n 3, 1) := by decide +kernel
theorem dX8_leastFalse_79 : decode cX8_leastFalse 79 = .ok (.ireturn, 1) := by decide +kernel
theorem dX8_which_0 : decode cX8_which 0 = .ok (.iload_n 1, 1) := by decide +kernel
theorem dX8_which_1 : decode cX8_which 1 = .ok (.invokestatic 239, 3) := by decide +kernel
theorem dX8_which_4 : decode cX8_which 4 = .ok (.ifCond .eq 12, 3) := by decide +kernel
theorem dX8_which_7 : decode cX8_which 7 = .ok (.iload_n 2, 1) := by decide +kernel
theorem dX8_which_8 : decode cX8_which 8 = .ok (.iconst 0, 1) := by decide +kernel
theorem dX8_which_9 : decode cX8_which 9 = .ok (.iconst 1, 1) := by decide +kernel
theorem dX8_which_10 : decode cX8_which 10 = .ok (.invokestatic 82, 3) := by decide +kernel
theorem dX8_which_13 : decode cX8_which 13 = .ok (.ifCond .ne 9, 3) := by decide +kernel
theorem dX8_which_16 : decode cX8_which 16 = .ok (.aload_n 0, 1) := by decide +kernel
theorem dX8_which_17 : decode cX8_which 17 = .ok (.iconst 1, 1) := by decide +kernel
theorem dX8_which_18 : decode cX8_which 18 = .ok (.invokevirtual 86, 3) := by decide +kernel
theorem dX8_which_21 : decode cX8_which 21 = .ok (.ireturn, 1) := by decide +kernel
theorem dX8_which_22 : decode cX8_which 22 = .ok (.aload_n 0, 1) := by decide +kernel
theorem dX8_which_23 : decode cX8_which 23 = .ok (.getfield 70, 3) := by decide +kernel
theorem dX8_which_26 : decode cX8_which 26 = .ok (.iload_n 1, 1) := by decide +kernel
theorem dX8_which_27 : decode cX8_which 27 = .ok (.aaload, 1) := by decide +kernel
theorem dX8_which_28 : decode cX8_which 28 = .ok (.astore_n 3, 1) := by decide +kernel
theorem dX8_which_29 : decode cX8_which 29 = .ok (.aload_n 3, 1) := by decide +kernel
theorem dX8_which_30 : decode cX8_which 30 = .ok (.invokevirtual 242, 3) := by decide +kernel
theorem dX8_which_33 : decode cX8_which 33 = .ok (.ifCond .ne 17, 3) := by decide +kernel
theorem dX8_which_36 : decode cX8_which 36 = .ok (.aload_n 3, 1) := by decide +kernel
theorem dX8_which_37 : decode cX8_which 37 = .ok (.getfield 246, 3) := by decide +kernel
theorem dX8_which_40 : decode cX8_which 40 = .ok (.aload_n 0, 1) := by decide +kernel
theorem dX8_which_41 : decode cX8_which 41 = .ok (.getfield 10, 3) := by decide +kernel
theorem dX8_which_44 : decode cX8_which 44 = .ok (.getfield 93, 3) := by decide +kernel
theorem dX8_which_47 : decode cX8_which 47 = .ok (.if_icmp .eq 9, 3) := by decide +kernel
theorem dX8_which_50 : decode cX8_which 50 = .ok (.aload_n 0, 1) := by decide +kernel
theorem dX8_which_51 : decode cX8_which 51 = .ok (.iconst 2, 1) := by decide +kernel
theorem dX8_which_52 : decode cX8_which 52 = .ok (.invokevirtual 86, 3) := by decide +kernel
theorem dX8_which_55 : decode cX8_which 55 = .ok (.ireturn, 1) := by decide +kernel
theorem dX8_which_56 : decode cX8_which 56 = .ok (.iconst 0, 1) := by decide +kernel
theorem dX8_which_57 : decode cX8_which 57 = .ok (.istore 4, 2) := by decide +kernel
theorem dX8_which_59 : decode cX8_which 59 = .ok (.iconst (-1), 1) := by decide +kernel
theorem dX8_which_60 : decode cX8_which 60 = .ok (.istore 5, 2) := by decide +kernel
theorem dX8_which_62 : decode cX8_which 62 = .ok (.bipush 99, 2) := by decide +kernel
theorem dX8_which_64 : decode cX8_which 64 = .ok (.istore 6, 2) := by decide +kernel
theorem dX8_which_66 : decode cX8_which 66 = .ok (.iload 6, 2) := by decide +kernel
theorem dX8_which_68 : decode cX8_which 68 = .ok (.ifCond .lt 26, 3) := by decide +kernel
theorem dX8_which_71 : decode cX8_which 71 = .ok (.aload_n 0, 1) := by decide +kernel
theorem dX8_which_72 : decode cX8_which 72 = .ok (.aload_n 3, 1) := by decide +kernel
theorem dX8_which_73 : decode cX8_which 73 = .ok (.iload 6, 2) := by decide +kernel
theorem dX8_which_75 : decode cX8_which 75 = .ok (.invokevirtual 249, 3) := by decide +kernel
theorem dX8_which_78 : decode cX8_which 78 = .ok (.ifCond .eq 10, 3) := by decide +kernel
theorem dX8_which_81 : decode cX8_which 81 = .ok (.iinc 4 1, 3) := by decide +kernel
theorem dX8_which_84 : decode cX8_which 84 = .ok (.iload 6, 2) := by decide +kernel
theorem dX8_which_86 : decode cX8_which 86 = .ok (.istore 5, 2) := by decide +kernel
theorem dX8_which_88 : decode cX8_which 88 = .ok (.iinc 6 (-1), 3) := by decide +kernel
theorem dX8_which_91 : decode cX8_which 91 = .ok (.goto (-25), 3) := by decide +kernel
theorem dX8_which_94 : decode cX8_which 94 = .ok (.iload_n 2, 1) := by decide +kernel
theorem dX8_which_95 : decode cX8_which 95 = .ok (.ifCond .ne 6, 3) := by decide +kernel
theorem dX8_which_98 : decode cX8_which 98 = .ok (.iload 4, 2) := by decide +kernel
theorem dX8_which_100 : decode cX8_which 100 = .ok (.ireturn, 1) := by decide +kernel
theorem dX8_which_101 : decode cX8_which 101 = .ok (.iload 4, 2) := by decide +kernel
theorem dX8_which_103 : decode cX8_which 103 = .ok (.ifCond .le 8, 3) := by decide +kernel
theorem dX8_which_106 : decode cX8_which 106 = .ok (.iload 5, 2) := by decide +kernel
theorem dX8_which_108 : decode cX8_which 108 = .ok (.goto 8, 3) := by decide +kernel
theorem dX8_which_111 : decode cX8_which 111 = .ok (.aload_n 0, 1) := by decide +kernel
theorem dX8_which_112 : decode cX8_which 112 = .ok (.iconst 2, 1) := by decide +kernel
theorem dX8_which_113 : decode cX8_which 113 = .ok (.invokevirtual 86, 3) := by decide +kernel
theorem dX8_which_116 : decode cX8_which 116 = .ok (.ireturn, 1) := by decide +kernel
theorem dX8_isShownAs_0 : decode cX8_isShownAs 0 = .ok (.iconst 0, 1) := by decide +kernel
theorem dX8_isShownAs_1 : decode cX8_isShownAs 1 = .ok (.istore_n 3, 1) := by decide +kernel
theorem dX8_isShownAs_2 : decode cX8_isShownAs 2 = .ok (.iload_n 3, 1) := by decide +kernel
theorem dX8_isShownAs_3 : decode cX8_isShownAs 3 = .ok (.aload_n 1, 1) := by decide +kernel
theorem dX8_isShownAs_4 : decode cX8_isShownAs 4 = .ok (.getfield 246, 3) := by decide +kernel
theorem dX8_isShownAs_7 : decode cX8_isShownAs 7 = .ok (.if_icmp .ge 38, 3) := by decide +kernel
theorem dX8_isShownAs_10 : decode cX8_isShownAs 10 = .ok (.aload_n 1, 1) := by decide +kernel
theorem dX8_isShownAs_11 : decode cX8_isShownAs 11 = .ok (.getfield 253, 3) := by decide +kernel
theorem dX8_isShownAs_14 : decode cX8_isShownAs 14 = .ok (.iload_n 3, 1) := by decide +kernel
theorem dX8_isShownAs_15 : decode cX8_isShownAs 15 = .ok (.iaload, 1) := by decide +kernel
theorem dX8_isShownAs_16 : decode cX8_isShownAs 16 = .ok (.istore 4, 2) := by decide +kernel
theorem dX8_isShownAs_18 : decode cX8_isShownAs 18 = .ok (.iload 4, 2) := by decide +kernel
theorem dX8_isShownAs_20 : decode cX8_isShownAs 20 = .ok (.ifCond .lt 19, 3) := by decide +kernel
theorem dX8_isShownAs_23 : decode cX8_isShownAs 23 = .ok (.iload 4, 2) := by decide +kernel
theorem dX8_isShownAs_25 : decode cX8_isShownAs 25 = .ok (.aload_n 0, 1) := by decide +kernel
theorem dX8_isShownAs_26 : decode cX8_isShownAs 26 = .ok (.getfield 10, 3) := by decide +kernel
theorem dX8_isShownAs_29 : decode cX8_isShownAs 29 = .ok (.iload_n 2, 1) := by decide +kernel
theorem dX8_isShownAs_30 : decode cX8_isShownAs 30 = .ok (.iload_n 3, 1) := by decide +kernel
theorem dX8_isShownAs_31 : decode cX8_isShownAs 31 = .ok (.invokevirtual 119, 3) := by decide +kernel
theorem dX8_isShownAs_34 : decode cX8_isShownAs 34 = .ok (.if_icmp .eq 5, 3) := by decide +kernel
theorem dX8_isShownAs_37 : decode cX8_isShownAs 37 = .ok (.iconst 0, 1) := by decide +kernel
theorem dX8_isShownAs_38 : decode cX8_isShownAs 38 = .ok (.ireturn, 1) := by decide +kernel
theorem dX8_isShownAs_39 : decode cX8_isShownAs 39 = .ok (.iinc 3 1, 3) := by decide +kernel
theorem dX8_isShownAs_42 : decode cX8_isShownAs 42 = .ok (.goto (-40), 3) := by decide +kernel
theorem dX8_isShownAs_45 : decode cX8_isShownAs 45 = .ok (.iconst 1, 1) := by decide +kernel
theorem dX8_isShownAs_46 : decode cX8_isShownAs 46 = .ok (.ireturn, 1) := by decide +kernel
theorem dX8_struck_0 : decode cX8_struck 0 = .ok (.aload_n 0, 1) := by decide +kernel
theorem dX8_struck_1 : decode cX8_struck 1 = .ok (.iload_n 1, 1) := by decide +kernel
theorem dX8_struck_2 : decode cX8_struck 2 = .ok (.invokevirtual 96, 3) := by decide +kernel
theorem dX8_struck_5 : decode cX8_struck 5 = .ok (.ifCond .ne 9, 3) := by decide +kernel
theorem dX8_struck_8 : decode cX8_struck 8 = .ok (.aload_n 0, 1) := by decide +kernel
theorem dX8_struck_9 : decode cX8_struck 9 = .ok (.iconst 1, 1) := by decide +kernel
theorem dX8_struck_10 : decode cX8_struck 10 = .ok (.invokevirtual 86, 3) := by decide +kernel
theorem dX8_struck_13 : decode cX8_struck 13 = .ok (.ireturn, 1) := by decide +kernel
theorem dX8_struck_14 : decode cX8_struck 14 = .ok (.aload_n 0, 1) := by decide +kernel
theorem dX8_struck_15 : decode cX8_struck 15 = .ok (.getfield 49, 3) := by decide +kernel
theorem dX8_struck_18 : decode cX8_struck 18 = .ok (.aload_n 0, 1) := by decide +kernel
theorem dX8_struck_19 : decode cX8_struck 19 = .ok (.getfield 10, 3) := by decide +kernel
theorem dX8_struck_22 : decode cX8_struck 22 = .ok (.aload_n 0, 1) := by decide +kernel
theorem dX8_struck_23 : decode cX8_struck 23 = .ok (.getfield 10, 3) := by decide +kernel
theorem dX8_struck_26 : decode cX8_struck 26 = .ok (.getfield 116, 3) := by decide +kernel
theorem dX8_struck_29 : decode cX8_struck 29 = .ok (.invokevirtual 155, 3) := by decide +kernel
theorem dX8_struck_32 : decode cX8_struck 32 = .ok (.aload_n 0, 1) := by decide +kernel
theorem dX8_struck_33 : decode cX8_struck 33 = .ok (.bipush 60, 2) := by decide +kernel
theorem dX8_struck_35 : decode cX8_struck 35 = .ok (.invokevirtual 225, 3) := by decide +kernel
theorem dX8_struck_38 : decode cX8_struck 38 = .ok (.aload_n 0, 1) := by decide +kernel
theorem dX8_struck_39 : decode cX8_struck 39 = .ok (.getfield 43, 3) := by decide +kernel
theorem dX8_struck_42 : decode cX8_struck 42 = .ok (.iload_n 1, 1) := by decide +kernel
theorem dX8_struck_43 : decode cX8_struck 43 = .ok (.invokevirtual 122, 3) := by decide +kernel
theorem dX8_struck_46 : decode cX8_struck 46 = .ok (.aload_n 0, 1) := by decide +kernel
theorem dX8_struck_47 : decode cX8_struck 47 = .ok (.getfield 43, 3) := by decide +kernel
theorem dX8_struck_50 : decode cX8_struck 50 = .ok (.invokevirtual 256, 3) := by decide +kernel
theorem dX8_struck_53 : decode cX8_struck 53 = .ok (.iand, 1) := by decide +kernel
theorem dX8_struck_54 : decode cX8_struck 54 = .ok (.ireturn, 1) := by decide +kernel
theorem dX8_dark_0 : decode cX8_dark 0 = .ok (.iload_n 1, 1) := by decide +kernel
theorem dX8_dark_1 : decode cX8_dark 1 = .ok (.iconst 0, 1) := by decide +kernel
theorem dX8_dark_2 : decode cX8_dark 2 = .ok (.bipush 20, 2) := by decide +kernel
theorem dX8_dark_4 : decode cX8_dark 4 = .ok (.invokestatic 82, 3) := by decide +kernel
theorem dX8_dark_7 : decode cX8_dark 7 = .ok (.ifCond .ne 9, 3) := by decide +kernel
theorem dX8_dark_10 : decode cX8_dark 10 = .ok (.aload_n 0, 1) := by decide +kernel
theorem dX8_dark_11 : decode cX8_dark 11 = .ok (.iconst 1, 1) := by decide +kernel
theorem dX8_dark_12 : decode cX8_dark 12 = .ok (.invokevirtual 86, 3) := by decide +kernel
theorem dX8_dark_15 : decode cX8_dark 15 = .ok (.ireturn, 1) := by decide +kernel
theorem dX8_dark_16 : decode cX8_dark 16 = .ok (.aload_n 0, 1) := by decide +kernel
theorem dX8_dark_17 : decode cX8_dark 17 = .ok (.getfield 19, 3) := by decide +kernel
theorem dX8_dark_20 : decode cX8_dark 20 = .ok (.invokevirtual 230, 3) := by decide +kernel
theorem dX8_dark_23 : decode cX8_dark 23 = .ok (.istore_n 2, 1) := by decide +kernel
theorem dX8_dark_24 : decode cX8_dark 24 = .ok (.aload_n 0, 1) := by decide +kernel
theorem dX8_dark_25 : decode cX8_dark 25 = .ok (.getfield 49, 3) := by decide +kernel
theorem dX8_dark_28 : decode cX8_dark 28 = .ok (.aload_n 0, 1) := by decide +kernel
theorem dX8_dark_29 : decode cX8_dark 29 = .ok (.getfield 10, 3) := by decide +kernel
theorem dX8_dark_32 : decode cX8_dark 32 = .ok (.aload_n 0, 1) := by decide +kernel
theorem dX8_dark_33 : decode cX8_dark 33 = .ok (.getfield 10, 3) := by decide +kernel
theorem dX8_dark_36 : decode cX8_dark 36 = .ok (.getfield 116, 3) := by decide +kernel
theorem dX8_dark_39 : decode cX8_dark 39 = .ok (.invokevirtual 155, 3) := by decide +kernel
theorem dX8_dark_42 : decode cX8_dark 42 = .ok (.iconst (-1), 1) := by decide +kernel
theorem dX8_dark_43 : decode cX8_dark 43 = .ok (.istore_n 3, 1) := by decide +kernel
theorem dX8_dark_44 : decode cX8_dark 44 = .ok (.bipush 9, 2) := by decide +kernel
theorem dX8_dark_46 : decode cX8_dark 46 = .ok (.istore 4, 2) := by decide +kernel
theorem dX8_dark_48 : decode cX8_dark 48 = .ok (.iconst 0, 1) := by decide +kernel
theorem dX8_dark_49 : decode cX8_dark 49 = .ok (.istore 5, 2) := by decide +kernel
theorem dX8_dark_51 : decode cX8_dark 51 = .ok (.iload 5, 2) := by decide +kernel
theorem dX8_dark_53 : decode cX8_dark 53 = .ok (.iconst 1, 1) := by decide +kernel
theorem dX8_dark_54 : decode cX8_dark 54 = .ok (.aload_n 0, 1) := by decide +kernel
theorem dX8_dark_55 : decode cX8_dark 55 = .ok (.getfield 10, 3) := by decide +kernel
theorem dX8_dark_58 : decode cX8_dark 58 = .ok (.getfield 93, 3) := by decide +kernel
theorem dX8_dark_61 : decode cX8_dark 61 = .ok (.ishl, 1) := by decide +kernel
theorem dX8_dark_62 : decode cX8_dark 62 = .ok (.if_icmp .ge 79, 3) := by decide +kernel
theorem dX8_dark_65 : decode cX8_dark 65 = .ok (.iload 5, 2) := by decide +kernel
theorem dX8_dark_67 : decode cX8_dark 67 = .ok (.aload_n 0, 1) := by decide +kernel
theorem dX8_dark_68 : decode cX8_dark 68 = .ok (.getfield 10, 3) := by decide +kernel
theorem dX8_dark_71 : decode cX8_dark 71 = .ok (.getfield 128, 3) := by decide +kernel
theorem dX8_dark_74 : decode cX8_dark 74 = .ok (.iconst (-1), 1) := by decide +kernel
theorem dX8_dark_75 : decode cX8_dark 75 = .ok (.ixor, 1) := by decide +kernel
theorem dX8_dark_76 : decode cX8_dark 76 = .ok (.iand, 1) := by decide +kernel
theorem dX8_dark_77 : decode cX8_dark 77 = .ok (.ifCond .ne 58, 3) := by decide +kernel
theorem dX8_dark_80 : decode cX8_dark 80 = .ok (.iload 5, 2) := by decide +kernel
theorem dX8_dark_82 : decode cX8_dark 82 = .ok (.invokestatic 259, 3) := by decide +kernel
theorem dX8_dark_85 : decode cX8_dark 85 = .ok (.iload 4, 2) := by decide +kernel
theorem dX8_dark_87 : decode cX8_dark 87 = .ok (.if_icmp .ge 48, 3) := by decide +kernel
theorem dX8_dark_90 : decode cX8_dark 90 = .ok (.aload_n 0, 1) := by decide +kernel
theorem dX8_dark_91 : decode cX8_dark 91 = .ok (.getfield 49, 3) := by decide +kernel
theorem dX8_dark_94 : decode cX8_dark 94 = .ok (.aload_n 0, 1) := by decide +kernel
theorem dX8_dark_95 : decode cX8_dark 95 = .ok (.getfield 10, 3) := by decide +kernel
theorem dX8_dark_98 : decode cX8_dark 98 = .ok (.getfield 128, 3) := by decide +kernel
theorem dX8_dark_101 : decode cX8_dark 101 = .ok (.iload 5, 2) := by decide +kernel
theorem dX8_dark_103 : decode cX8_dark 103 = .ok (.iconst (-1), 1) := by decide +kernel
theorem dX8_dark_104 : decode cX8_dark 104 = .ok (.ixor, 1) := by decide +kernel
theorem dX8_dark_105 : decode cX8_dark 105 = .ok (.iand, 1) := by decide +kernel
theorem dX8_dark_106 : decode cX8_dark 106 = .ok (.putfield 264, 3) := by decide +kernel
theorem dX8_dark_109 : decode cX8_dark 109 = .ok (.aload_n 0, 1) := by decide +kernel
theorem dX8_dark_110 : decode cX8_dark 110 = .ok (.iload_n 1, 1) := by decide +kernel
theorem dX8_dark_111 : decode cX8_dark 111 = .ok (.invokevirtual 225, 3) := by decide +kernel
theorem dX8_dark_114 : decode cX8_dark 114 = .ok (.aload_n 0, 1) := by decide +kernel
theorem dX8_dark_115 : decode cX8_dark 115 = .ok (.getfield 43, 3) := by decide +kernel
theorem dX8_dark_118 : decode cX8_dark 118 = .ok (.invokevirtual 230, 3) := by decide +kernel
theorem dX8_dark_121 : decode cX8_dark 121 = .ok (.iload_n 2, 1) := by decide +kernel
theorem dX8_dark_122 : decode cX8_dark 122 = .ok (.if_icmp .gt 13, 3) := by decide +kernel
theorem dX8_dark_125 : decode cX8_dark 125 = .ok (.iload 5, 2) := by decide +kernel
theorem dX8_dark_127 : decode cX8_dark 127 = .ok (.istore_n 3, 1) := by decide +kernel
theorem dX8_dark_128 : decode cX8_dark 128 = .ok (.iload 5, 2) := by decide +kernel
theorem dX8_dark_130 : decode cX8_dark 130 = .ok (.invokestatic 259, 3) := by decide +kernel
theorem dX8_dark_133 : decode cX8_dark 133 = .ok (.istore 4, 2) := by decide +kernel
theorem dX8_dark_135 : decode cX8_dark 135 = .ok (.iinc 5 1, 3) := by decide +kernel
theorem dX8_dark_138 : decode cX8_dark 138 = .ok (.goto (-87), 3) := by decide +kernel
theorem dX8_dark_141 : decode cX8_dark 141 = .ok (.iload_n 3, 1) := by decide +kernel
theorem dX8_dark_142 : decode cX8_dark 142 = .ok (.ifCond .lt 7, 3) := by decide +kernel
theorem dX8_dark_145 : decode cX8_dark 145 = .ok (.iload_n 3, 1) := by decide +kernel
theorem dX8_dark_146 : decode cX8_dark 146 = .ok (.goto 8, 3) := by decide +kernel
theorem dX8_dark_149 : decode cX8_dark 149 = .ok (.aload_n 0, 1) := by decide +kernel
theorem dX8_dark_150 : decode cX8_dark 150 = .ok (.iconst 2, 1) := by decide +kernel
theorem dX8_dark_151 : decode cX8_dark 151 = .ok (.invokevirtual 86, 3) := by decide +kernel
theorem dX8_dark_154 : decode cX8_dark 154 = .ok (.ireturn, 1) := by decide +kernel
theorem dX8_deep_0 : decode cX8_deep 0 = .ok (.aload_n 0, 1) := by decide +kernel
theorem dX8_deep_1 : decode cX8_deep 1 = .ok (.iload_n 1, 1) := by decide +kernel
theorem dX8_deep_2 : decode cX8_deep 2 = .ok (.invokevirtual 96, 3) := by decide +kernel
theorem dX8_deep_5 : decode cX8_deep 5 = .ok (.ifCond .eq 13, 3) := by decide +kernel
theorem dX8_deep_8 : decode cX8_deep 8 = .ok (.iload_n 2, 1) := by decide +kernel
theorem dX8_deep_9 : decode cX8_deep 9 = .ok (.iconst 0, 1) := by decide +kernel
theorem dX8_deep_10 : decode cX8_deep 10 = .ok (.bipush 19, 2) := by decide +kernel
theorem dX8_deep_12 : decode cX8_deep 12 = .ok (.invokestatic 82, 3) := by decide +kernel
theorem dX8_deep_15 : decode cX8_deep 15 = .ok (.ifCond .ne 9, 3) := by decide +kernel
theorem dX8_deep_18 : decode cX8_deep 18 = .ok (.aload_n 0, 1) := by decide +kernel
theorem dX8_deep_19 : decode cX8_deep 19 = .ok (.iconst 1, 1) := by decide +kernel
theorem dX8_deep_20 : decode cX8_deep 20 = .ok (.invokevirtual 86, 3) := by decide +kernel
theorem dX8_deep_23 : decode cX8_deep 23 = .ok (.ireturn, 1) := by decide +kernel
theorem dX8_deep_24 : decode cX8_deep 24 = .ok (.iconst 0, 1) := by decide +kernel
theorem dX8_deep_25 : decode cX8_deep 25 = .ok (.istore_n 3, 1) := by decide +kernel
theorem dX8_deep_26 : decode cX8_deep 26 = .ok (.iload_n 3, 1) := by decide +kernel
theorem dX8_deep_27 : decode cX8_deep 27 = .ok (.bipush 99, 2) := by decide +kernel
theorem dX8_deep_29 : decode cX8_deep 29 = .ok (.if_icmp .gt 32, 3) := by decide +kernel
theorem dX8_deep_32 : decode cX8_deep 32 = .ok (.aload_n 0, 1) := by decide +kernel
theorem dX8_deep_33 : decode cX8_deep 33 = .ok (.getfield 10, 3) := by decide +kernel
theorem dX8_deep_36 : decode cX8_deep 36 = .ok (.iload_n 1, 1) := by decide +kernel
theorem dX8_deep_37 : decode cX8_deep 37 = .ok (.aload_n 0, 1) := by decide +kernel
theorem dX8_deep_38 : decode cX8_deep 38 = .ok (.getfield 10, 3) := by decide +kernel
theorem dX8_deep_41 : decode cX8_deep 41 = .ok (.getfield 109, 3) := by decide +kernel
theorem dX8_deep_44 : decode cX8_deep 44 = .ok (.iload_n 3, 1) := by decide +kernel
theorem dX8_deep_45 : decode cX8_deep 45 = .ok (.isub, 1) := by decide +kernel
theorem dX8_deep_46 : decode cX8_deep 46 = .ok (.invokevirtual 112, 3) := by decide +kernel
theorem dX8_deep_49 : decode cX8_deep 49 = .ok (.iload_n 2, 1) := by decide +kernel
theorem dX8_deep_50 : decode cX8_deep 50 = .ok (.if_icmp .lt 5, 3) := by decide +kernel
theorem dX8_deep_53 : decode cX8_deep 53 = .ok (.iload_n 3, 1) := by decide +kernel
theorem dX8_deep_54 : decode cX8_deep 54 = .ok (.ireturn, 1) := by decide +kernel
theorem dX8_deep_55 : decode cX8_deep 55 = .ok (.iinc 3 1, 3) := by decide +kernel
theorem dX8_deep_58 : decode cX8_deep 58 = .ok (.goto (-32), 3) := by decide +kernel
theorem dX8_deep_61 : decode cX8_deep 61 = .ok (.aload_n 0, 1) := by decide +kernel
theorem dX8_deep_62 : decode cX8_deep 62 = .ok (.iconst 2, 1) := by decide +kernel
theorem dX8_deep_63 : decode cX8_deep 63 = .ok (.invokevirtual 86, 3) := by decide +kernel
theorem dX8_deep_66 : decode cX8_deep 66 = .ok (.ireturn, 1) := by decide +kernel
theorem dX8_draws_0 : decode cX8_draws 0 = .ok (.aload_n 0, 1) := by decide +kernel
theorem dX8_draws_1 : decode cX8_draws 1 = .ok (.iload_n 1, 1) := by decide +kernel
theorem dX8_draws_2 : decode cX8_draws 2 = .ok (.invokevirtual 149, 3) := by decide +kernel
theorem dX8_draws_5 : decode cX8_draws 5 = .ok (.ifCond .ne 9, 3) := by decide +kernel
theorem dX8_draws_8 : decode cX8_draws 8 = .ok (.aload_n 0, 1) := by decide +kernel
theorem dX8_draws_9 : decode cX8_draws 9 = .ok (.iconst 1, 1) := by decide +kernel
theorem dX8_draws_10 : decode cX8_draws 10 = .ok (.invokevirtual 86, 3) := by decide +kernel
theorem dX8_draws_13 : decode cX8_draws 13 = .ok (.ireturn, 1) := by decide +kernel
theorem dX8_draws_14 : decode cX8_draws 14 = .ok (.aload_n 0, 1) := by decide +kernel
theorem dX8_draws_15 : decode cX8_draws 15 = .ok (.getfield 19, 3) := by decide +kernel
theorem dX8_draws_18 : decode cX8_draws 18 = .ok (.getfield 146, 3) := by decide +kernel
theorem dX8_draws_21 : decode cX8_draws 21 = .ok (.iload_n 1, 1) := by decide +kernel
theorem dX8_draws_22 : decode cX8_draws 22 = .ok (.iaload, 1) := by decide +kernel
theorem dX8_draws_23 : decode cX8_draws 23 = .ok (.ifCond .eq 9, 3) := by decide +kernel
theorem dX8_draws_26 : decode cX8_draws 26 = .ok (.aload_n 0, 1) := by decide +kernel
theorem dX8_draws_27 : decode cX8_draws 27 = .ok (.iconst 3, 1) := by decide +kernel
theorem dX8_draws_28 : decode cX8_draws 28 = .ok (.invokevirtual 86, 3) := by decide +kernel
theorem dX8_draws_31 : decode cX8_draws 31 = .ok (.ireturn, 1) := by decide +kernel
theorem dX8_draws_32 : decode cX8_draws 32 = .ok (.aload_n 0, 1) := by decide +kernel
theorem dX8_draws_33 : decode cX8_draws 33 = .ok (.getfield 49, 3) := by decide +kernel
theorem dX8_draws_36 : decode cX8_draws 36 = .ok (.aload_n 0, 1) := by decide +kernel
theorem dX8_draws_37 : decode cX8_draws 37 = .ok (.getfield 10, 3) := by decide +kernel
theorem dX8_draws_40 : decode cX8_draws 40 = .ok (.aload_n 0, 1) := by decide +kernel
theorem dX8_draws_41 : decode cX8_draws 41 = .ok (.getfield 10, 3) := by decide +kernel
theorem dX8_draws_44 : decode cX8_draws 44 = .ok (.getfield 116, 3) := by decide +kernel
theorem dX8_draws_47 : decode cX8_draws 47 = .ok (.invokevirtual 155, 3) := by decide +kernel
theorem dX8_draws_50 : decode cX8_draws 50 = .ok (.bipush 9, 2) := by decide +kernel
theorem dX8_draws_52 : decode cX8_draws 52 = .ok (.istore_n 2, 1) := by decide +kernel
theorem dX8_draws_53 : decode cX8_draws 53 = .ok (.iload_n 2, 1) := by decide +kernel
theorem dX8_draws_54 : decode cX8_draws 54 = .ok (.ifCond .lt 60, 3) := by decide +kernel
theorem dX8_draws_57 : decode cX8_draws 57 = .ok (.aload_n 0, 1) := by decide +kernel
theorem dX8_draws_58 : decode cX8_draws 58 = .ok (.iconst 0, 1) := by decide +kernel
theorem dX8_draws_59 : decode cX8_draws 59 = .ok (.invokevirtual 225, 3) := by decide +kernel
theorem dX8_draws_62 : decode cX8_draws 62 = .ok (.aload_n 0, 1) := by decide +kernel
theorem dX8_draws_63 : decode cX8_draws 63 = .ok (.getfield 43, 3) := by decide +kernel
theorem dX8_draws_66 : decode cX8_draws 66 = .ok (.getfield 140, 3) := by decide +kernel
theorem dX8_draws_69 : decode cX8_draws 69 = .ok (.iload_n 1, 1) := by decide +kernel
theorem dX8_draws_70 : decode cX8_draws 70 = .ok (.iload_n 2, 1) := by decide +kernel
theorem dX8_draws_71 : decode cX8_draws 71 = .ok (.iastore, 1) := by decide +kernel
theorem dX8_draws_72 : decode cX8_draws 72 = .ok (.iconst 0, 1) := by decide +kernel
theorem dX8_draws_73 : decode cX8_draws 73 = .ok (.istore_n 3, 1) := by decide +kernel
theorem dX8_draws_74 : decode cX8_draws 74 = .ok (.iload_n 3, 1) := by decide +kernel
theorem dX8_draws_75 : decode cX8_draws 75 = .ok (.bipush 60, 2) := by decide +kernel
theorem dX8_draws_77 : decode cX8_draws 77 = .ok (.if_icmp .ge 17, 3) := by decide +kernel
theorem dX8_draws_80 : decode cX8_draws 80 = .ok (.aload_n 0, 1) := by decide +kernel
theorem dX8_draws_81 : decode cX8_draws 81 = .ok (.aload_n 0, 1) := by decide +kernel
theorem dX8_draws_82 : decode cX8_draws 82 = .ok (.getfield 43, 3) := by decide +kernel
theorem dX8_draws_85 : decode cX8_draws 85 = .ok (.invokevirtual 207, 3) := by decide +kernel
theorem dX8_draws_88 : decode cX8_draws 88 = .ok (.iinc 3 1, 3) := by decide +kernel
theorem dX8_draws_91 : decode cX8_draws 91 = .ok (.goto (-17), 3) := by decide +kernel
theorem dX8_draws_94 : decode cX8_draws 94 = .ok (.aload_n 0, 1) := by decide +kernel
theorem dX8_draws_95 : decode cX8_draws 95 = .ok (.getfield 43, 3) := by decide +kernel
theorem dX8_draws_98 : decode cX8_draws 98 = .ok (.getfield 143, 3) := by decide +kernel
theorem dX8_draws_101 : decode cX8_draws 101 = .ok (.iload_n 1, 1) := by decide +kernel
theorem dX8_draws_102 : decode cX8_draws 102 = .ok (.iaload, 1) := by decide +kernel
theorem dX8_draws_103 : decode cX8_draws 103 = .ok (.ifCond .ne 5, 3) := by decide +kernel
theorem dX8_draws_106 : decode cX8_draws 106 = .ok (.iload_n 2, 1) := by decide +kernel
theorem dX8_draws_107 : decode cX8_draws 107 = .ok (.ireturn, 1) := by decide +kernel
theorem dX8_draws_108 : decode cX8_draws 108 = .ok (.iinc 2 (-1), 3) := by decide +kernel
theorem dX8_draws_111 : decode cX8_draws 111 = .ok (.goto (-58), 3) := by decide +kernel
theorem dX8_draws_114 : decode cX8_draws 114 = .ok (.aload_n 0, 1) := by decide +kernel
theorem dX8_draws_115 : decode cX8_draws 115 = .ok (.iconst 2, 1) := by decide +kernel
theorem dX8_draws_116 : decode cX8_draws 116 = .ok (.invokevirtual 86, 3) := by decide +kernel
theorem dX8_draws_119 : decode cX8_draws 119 = .ok (.ireturn, 1) := by decide +kernel
theorem dX8_traffic_0 : decode cX8_traffic 0 = .ok (.iload_n 1, 1) := by decide +kernel
theorem dX8_traffic_1 : decode cX8_traffic 1 = .ok (.iconst 0, 1) := by decide +kernel
theorem dX8_traffic_2 : decode cX8_traffic 2 = .ok (.bipush 60, 2) := by decide +kernel
theorem dX8_traffic_4 : decode cX8_traffic 4 = .ok (.invokestatic 82, 3) := by decide +kernel
theorem dX8_traffic_7 : decode cX8_traffic 7 = .ok (.ifCond .eq 12, 3) := by decide +kernel
theorem dX8_traffic_10 : decode cX8_traffic 10 = .ok (.iload_n 2, 1) := by decide +kernel
theorem dX8_traffic_11 : decode cX8_traffic 11 = .ok (.iconst 0, 1) := by decide +kernel
theorem dX8_traffic_12 : decode cX8_traffic 12 = .ok (.iconst 1, 1) := by decide +kernel
theorem dX8_traffic_13 : decode cX8_traffic 13 = .ok (.invokestatic 82, 3) := by decide +kernel
theorem dX8_traffic_16 : decode cX8_traffic 16 = .ok (.ifCond .ne 9, 3) := by decide +kernel
theorem dX8_traffic_19 : decode cX8_traffic 19 = .ok (.aload_n 0, 1) := by decide +kernel
theorem dX8_traffic_20 : decode cX8_traffic 20 = .ok (.iconst 1, 1) := by decide +kernel
theorem dX8_traffic_21 : decode cX8_traffic 21 = .ok (.invokevirtual 86, 3) := by decide +kernel
theorem dX8_traffic_24 : decode cX8_traffic 24 = .ok (.ireturn, 1) := by decide +kernel
theorem dX8_traffic_25 : decode cX8_traffic 25 = .ok (.aload_n 0, 1) := by decide +kernel
theorem dX8_traffic_26 : decode cX8_traffic 26 = .ok (.getfield 49, 3) := by decide +kernel
theorem dX8_traffic_29 : decode cX8_traffic 29 = .ok (.aload_n 0, 1) := by decide +kernel
theorem dX8_traffic_30 : decode cX8_traffic 30 = .ok (.getfield 10, 3) := by decide +kernel
theorem dX8_traffic_33 : decode cX8_traffic 33 = .ok (.aload_n 0, 1) := by decide +kernel
theorem dX8_traffic_34 : decode cX8_traffic 34 = .ok (.getfield 10, 3) := by decide +kernel
theorem dX8_traffic_37 : decode cX8_traffic 37 = .ok (.getfield 116, 3) := by decide +kernel
theorem dX8_traffic_40 : decode cX8_traffic 40 = .ok (.invokevirtual 155, 3) := by decide +kernel
theorem dX8_traffic_43 : decode cX8_traffic 43 = .ok (.aload_n 0, 1) := by decide +kernel
theorem dX8_traffic_44 : decode cX8_traffic 44 = .ok (.iload_n 1, 1) := by decide +kernel
theorem dX8_traffic_45 : decode cX8_traffic 45 = .ok (.invokevirtual 225, 3) := by decide +kernel
theorem dX8_traffic_48 : decode cX8_traffic 48 = .ok (.aload_n 0, 1) := by decide +kernel
theorem dX8_traffic_49 : decode cX8_traffic 49 = .ok (.getfield 43, 3) := by decide +kernel
theorem dX8_traffic_52 : decode cX8_traffic 52 = .ok (.invokevirtual 256, 3) := by decide +kernel
theorem dX8_traffic_55 : decode cX8_traffic 55 = .ok (.iconst (-1), 1) := by decide +kernel
theorem dX8_traffic_56 : decode cX8_traffic 56 = .ok (.ixor, 1) := by decide +kernel
theorem dX8_traffic_57 : decode cX8_traffic 57 = .ok (.istore_n 3, 1) := by decide +kernel
theorem dX8_traffic_58 : decode cX8_traffic 58 = .ok (.iconst 0, 1) := by decide +kernel
theorem dX8_traffic_59 : decode cX8_traffic 59 = .ok (.istore 4, 2) := by decide +kernel
theorem dX8_traffic_61 : decode cX8_traffic 61 = .ok (.iconst (-1), 1) := by decide +kernel
theorem dX8_traffic_62 : decode cX8_traffic 62 = .ok (.istore 5, 2) := by decide +kernel
theorem dX8_traffic_64 : decode cX8_traffic 64 = .ok (.iconst 0, 1) := by decide +kernel
theorem dX8_traffic_65 : decode cX8_traffic 65 = .ok (.istore 6, 2) := by decide +kernel
theorem dX8_traffic_67 : decode cX8_traffic 67 = .ok (.iload 6, 2) := by decide +kernel
theorem dX8_traffic_69 : decode cX8_traffic 69 = .ok (.aload_n 0, 1) := by decide +kernel
theorem dX8_traffic_70 : decode cX8_traffic 70 = .ok (.getfield 10, 3) := by decide +kernel
theorem dX8_traffic_73 : decode cX8_traffic 73 = .ok (.getfield 93, 3) := by decide +kernel
theorem dX8_traffic_76 : decode cX8_traffic 76 = .ok (.if_icmp .ge 40, 3) := by decide +kernel
theorem dX8_traffic_79 : decode cX8_traffic 79 = .ok (.aload_n 0, 1) := by decide +kernel
theorem dX8_traffic_80 : decode cX8_traffic 80 = .ok (.getfield 43, 3) := by decide +kernel
theorem dX8_traffic_83 : decode cX8_traffic 83 = .ok (.iload 6, 2) := by decide +kernel
theorem dX8_traffic_85 : decode cX8_traffic 85 = .ok (.invokevirtual 122, 3) := by decide +kernel
theorem dX8_traffic_88 : decode cX8_traffic 88 = .ok (.iload_n 3, 1) := by decide +kernel
theorem dX8_traffic_89 : decode cX8_traffic 89 = .ok (.iand, 1) := by decide +kernel
theorem dX8_traffic_90 : decode cX8_traffic 90 = .ok (.invokestatic 259, 3) := by decide +kernel
theorem dX8_traffic_93 : decode cX8_traffic 93 = .ok (.istore 7, 2) := by decide +kernel
theorem dX8_traffic_95 : decode cX8_traffic 95 = .ok (.iload 7, 2) := by decide +kernel
theorem dX8_traffic_97 : decode cX8_traffic 97 = .ok (.iload 5, 2) := by decide +kernel
theorem dX8_traffic_99 : decode cX8_traffic 99 = .ok (.if_icmp .le 11, 3) := by decide +kernel
theorem dX8_traffic_102 : decode cX8_traffic 102 = .ok (.iload 6, 2) := by decide +kernel
theorem dX8_traffic_104 : decode cX8_traffic 104 = .ok (.istore 4, 2) := by decide +kernel
theorem dX8_traffic_106 : decode cX8_traffic 106 = .ok (.iload 7, 2) := by decide +kernel
theorem dX8_traffic_108 : decode cX8_traffic 108 = .ok (.istore 5, 2) := by decide +kernel
theorem dX8_traffic_110 : decode cX8_traffic 110 = .ok (.iinc 6 1, 3) := by decide +kernel
theorem dX8_traffic_113 : decode cX8_traffic 113 = .ok (.goto (-46), 3) := by decide +kernel
theorem dX8_traffic_116 : decode cX8_traffic 116 = .ok (.iload_n 2, 1) := by decide +kernel
theorem dX8_traffic_117 : decode cX8_traffic 117 = .ok (.ifCond .ne 8, 3) := by decide +kernel
theorem dX8_traffic_120 : decode cX8_traffic 120 = .ok (.iload 4, 2) := by decide +kernel
theorem dX8_traffic_122 : decode cX8_traffic 122 = .ok (.goto 5, 3) := by decide +kernel
theorem dX8_traffic_125 : decode cX8_traffic 125 = .ok (.iload 5, 2) := by decide +kernel
theorem dX8_traffic_127 : decode cX8_traffic 127 = .ok (.ireturn, 1) := by decide +kernel
theorem dX8_odds_0 : decode cX8_odds 0 = .ok (.aload_n 0, 1) := by decide +kernel
theorem dX8_odds_1 : decode cX8_odds 1 = .ok (.iload_n 1, 1) := by decide +kernel
theorem dX8_odds_2 : decode cX8_odds 2 = .ok (.invokevirtual 149, 3) := by decide +kernel
theorem dX8_odds_5 : decode cX8_odds 5 = .ok (.ifCond .eq 22, 3) := by decide +kernel
theorem dX8_odds_8 : decode cX8_odds 8 = .ok (.iload_n 2, 1) := by decide +kernel
theorem dX8_odds_9 : decode cX8_odds 9 = .ok (.iconst 0, 1) := by decide +kernel
theorem dX8_odds_10 : decode cX8_odds 10 = .ok (.bipush 60, 2) := by decide +kernel
theorem dX8_odds_12 : decode cX8_odds 12 = .ok (.invokestatic 82, 3) := by decide +kernel
theorem dX8_odds_15 : decode cX8_odds 15 = .ok (.ifCond .eq 12, 3) := by decide +kernel
theorem dX8_odds_18 : decode cX8_odds 18 = .ok (.iload_n 3, 1) := by decide +kernel
theorem dX8_odds_19 : decode cX8_odds 19 = .ok (.iconst 0, 1) := by decide +kernel
theorem dX8_odds_20 : decode cX8_odds 20 = .ok (.iconst 1, 1) := by decide +kernel
theorem dX8_odds_21 : decode cX8_odds 21 = .ok (.invokestatic 82, 3) := by decide +kernel
theorem dX8_odds_24 : decode cX8_odds 24 = .ok (.ifCond .ne 9, 3) := by decide +kernel
theorem dX8_odds_27 : decode cX8_odds 27 = .ok (.aload_n 0, 1) := by decide +kernel
theorem dX8_odds_28 : decode cX8_odds 28 = .ok (.iconst 1, 1) := by decide +kernel
theorem dX8_odds_29 : decode cX8_odds 29 = .ok (.invokevirtual 86, 3) := by decide +kernel
theorem dX8_odds_32 : decode cX8_odds 32 = .ok (.ireturn, 1) := by decide +kernel
theorem dX8_odds_33 : decode cX8_odds 33 = .ok (.iconst 0, 1) := by decide +kernel
theorem dX8_odds_34 : decode cX8_odds 34 = .ok (.istore 4, 2) := by decide +kernel
theorem dX8_odds_36 : decode cX8_odds 36 = .ok (.iconst 0, 1) := by decide +kernel
theorem dX8_odds_37 : decode cX8_odds 37 = .ok (.istore 5, 2) := by decide +kernel
theorem dX8_odds_39 : decode cX8_odds 39 = .ok (.iload 5, 2) := by decide +kernel
theorem dX8_odds_41 : decode cX8_odds 41 = .ok (.bipush 20, 2) := by decide +kernel
theorem dX8_odds_43 : decode cX8_odds 43 = .ok (.if_icmp .ge 42, 3) := by decide +kernel
theorem dX8_odds_46 : decode cX8_odds 46 = .ok (.aload_n 0, 1) := by decide +kernel
theorem dX8_odds_47 : decode cX8_odds 47 = .ok (.getfield 49, 3) := by decide +kernel
theorem dX8_odds_50 : decode cX8_odds 50 = .ok (.aload_n 0, 1) := by decide +kernel
theorem dX8_odds_51 : decode cX8_odds 51 = .ok (.getfield 10, 3) := by decide +kernel
theorem dX8_odds_54 : decode cX8_odds 54 = .ok (.iload 5, 2) := by decide +kernel
theorem dX8_odds_56 : decode cX8_odds 56 = .ok (.invokevirtual 155, 3) := by decide +kernel
theorem dX8_odds_59 : decode cX8_odds 59 = .ok (.aload_n 0, 1) := by decide +kernel
theorem dX8_odds_60 : decode cX8_odds 60 = .ok (.iload_n 2, 1) := by decide +kernel
theorem dX8_odds_61 : decode cX8_odds 61 = .ok (.invokevirtual 225, 3) := by decide +kernel
theorem dX8_odds_64 : decode cX8_odds 64 = .ok (.aload_n 0, 1) := by decide +kernel
theorem dX8_odds_65 : decode cX8_odds 65 = .ok (.getfield 43, 3) := by decide +kernel
theorem dX8_odds_68 : decode cX8_odds 68 = .ok (.getfield 143, 3) := by decide +kernel
theorem dX8_odds_71 : decode cX8_odds 71 = .ok (.iload_n 1, 1) := by decide +kernel
theorem dX8_odds_72 : decode cX8_odds 72 = .ok (.iaload, 1) := by decide +kernel
theorem dX8_odds_73 : decode cX8_odds 73 = .ok (.ifCond .ne 6, 3) := by decide +kernel
theorem dX8_odds_76 : decode cX8_odds 76 = .ok (.iinc 4 1, 3) := by decide +kernel
theorem dX8_odds_79 : decode cX8_odds 79 = .ok (.iinc 5 1, 3) := by decide +kernel
theorem dX8_odds_82 : decode cX8_odds 82 = .ok (.goto (-43), 3) := by decide +kernel
theorem dX8_odds_85 : decode cX8_odds 85 = .ok (.iload 4, 2) := by decide +kernel
theorem dX8_odds_87 : decode cX8_odds 87 = .ok (.bipush 20, 2) := by decide +kernel
theorem dX8_odds_89 : decode cX8_odds 89 = .ok (.invokestatic 265, 3) := by decide +kernel
theorem dX8_odds_92 : decode cX8_odds 92 = .ok (.istore 5, 2) := by decide +kernel
theorem dX8_odds_94 : decode cX8_odds 94 = .ok (.iload_n 3, 1) := by decide +kernel
theorem dX8_odds_95 : decode cX8_odds 95 = .ok (.ifCond .ne 8, 3) := by decide +kernel
theorem dX8_odds_98 : decode cX8_odds 98 = .ok (.iload 4, 2) := by decide +kernel
theorem dX8_odds_100 : decode cX8_odds 100 = .ok (.goto 5, 3) := by decide +kernel
theorem dX8_odds_103 : decode cX8_odds 103 = .ok (.bipush 20, 2) := by decide +kernel
theorem dX8_odds_105 : decode cX8_odds 105 = .ok (.iload 5, 2) := by decide +kernel
theorem dX8_odds_107 : decode cX8_odds 107 = .ok (.idiv, 1) := by decide +kernel
theorem dX8_odds_108 : decode cX8_odds 108 = .ok (.ireturn, 1) := by decide +kernel
theorem dX8_greatestDivisor_0 : decode cX8_greatestDivisor 0 = .ok (.iconst 1, 1) := by decide +kernel
theorem dX8_greatestDivisor_1 : decode cX8_greatestDivisor 1 = .ok (.istore_n 2, 1) := by decide +kernel
theorem dX8_greatestDivisor_2 : decode cX8_greatestDivisor 2 = .ok (.iconst 2, 1) := by decide +kernel
theorem dX8_greatestDivisor_3 : decode cX8_greatestDivisor 3 = .ok (.istore_n 3, 1) := by decide +kernel
theorem dX8_greatestDivisor_4 : decode cX8_greatestDivisor 4 = .ok (.iload_n 3, 1) := by decide +kernel
theorem dX8_greatestDivisor_5 : decode cX8_greatestDivisor 5 = .ok (.iload_n 1, 1) := by decide +kernel
theorem dX8_greatestDivisor_6 : decode cX8_greatestDivisor 6 = .ok (.if_icmp .gt 23, 3) := by decide +kernel
theorem dX8_greatestDivisor_9 : decode cX8_greatestDivisor 9 = .ok (.iload_n 0, 1) := by decide +kernel
theorem dX8_greatestDivisor_10 : decode cX8_greatestDivisor 10 = .ok (.iload_n 3, 1) := by decide +kernel
theorem dX8_greatestDivisor_11 : decode cX8_greatestDivisor 11 = .ok (.irem, 1) := by decide +kernel
theorem dX8_greatestDivisor_12 : decode cX8_greatestDivisor 12 = .ok (.ifCond .ne 11, 3) := by decide +kernel
theorem dX8_greatestDivisor_15 : decode cX8_greatestDivisor 15 = .ok (.iload_n 1, 1) := by decide +kernel
theorem dX8_greatestDivisor_16 : decode cX8_greatestDivisor 16 = .ok (.iload_n 3, 1) := by decide +kernel
theorem dX8_greatestDivisor_17 : decode cX8_greatestDivisor 17 = .ok (.irem, 1) := by decide +kernel
theorem dX8_greatestDivisor_18 : decode cX8_greatestDivisor 18 = .ok (.ifCond .ne 5, 3) := by decide +kernel
theorem dX8_greatestDivisor_21 : decode cX8_greatestDivisor 21 = .ok (.iload_n 3, 1) := by decide +kernel
theorem dX8_greatestDivisor_22 : decode cX8_greatestDivisor 22 = .ok (.istore_n 2, 1) := by decide +kernel
theorem dX8_greatestDivisor_23 : decode cX8_greatestDivisor 23 = .ok (.iinc 3 1, 3) := by decide +kernel
theorem dX8_greatestDivisor_26 : decode cX8_greatestDivisor 26 = .ok (.goto (-22), 3) := by decide +kernel
theorem dX8_greatestDivisor_29 : decode cX8_greatestDivisor 29 = .ok (.iload_n 2, 1) := by decide +kernel
theorem dX8_greatestDivisor_30 : decode cX8_greatestDivisor 30 = .ok (.ireturn, 1) := by decide +kernel
theorem dX8_seed_0 : decode cX8_seed 0 = .ok (.aload_n 0, 1) := by decide +kernel
theorem dX8_seed_1 : decode cX8_seed 1 = .ok (.getfield 26, 3) := by decide +kernel
theorem dX8_seed_4 : decode cX8_seed 4 = .ok (.getfield 268, 3) := by decide +kernel
theorem dX8_seed_7 : decode cX8_seed 7 = .ok (.istore_n 2, 1) := by decide +kernel
theorem dX8_seed_8 : decode cX8_seed 8 = .ok (.aload_n 0, 1) := by decide +kernel
theorem dX8_seed_9 : decode cX8_seed 9 = .ok (.getfield 26, 3) := by decide +kernel
theorem dX8_seed_12 : decode cX8_seed 12 = .ok (.iload_n 1, 1) := by decide +kernel
theorem dX8_seed_13 : decode cX8_seed 13 = .ok (.putfield 268, 3) := by decide +kernel
theorem dX8_seed_16 : decode cX8_seed 16 = .ok (.iload_n 2, 1) := by decide +kernel
theorem dX8_seed_17 : decode cX8_seed 17 = .ok (.ireturn, 1) := by decide +kernel
theorem dX8_voice_0 : decode cX8_voice 0 = .ok (.aload_n 0, 1) := by decide +kernel
theorem dX8_voice_1 : decode cX8_voice 1 = .ok (.iload_n 1, 1) := by decide +kernel
theorem dX8_voice_2 : decode cX8_voice 2 = .ok (.invokevirtual 149, 3) := by decide +kernel
theorem dX8_voice_5 : decode cX8_voice 5 = .ok (.ifCond .eq 12, 3) := by decide +kernel
theorem dX8_voice_8 : decode cX8_voice 8 = .ok (.iload_n 2, 1) := by decide +kernel
theorem dX8_voice_9 : decode cX8_voice 9 = .ok (.iconst 0, 1) := by decide +kernel
theorem dX8_voice_10 : decode cX8_voice 10 = .ok (.iconst 3, 1) := by decide +kernel
theorem dX8_voice_11 : decode cX8_voice 11 = .ok (.invokestatic 82, 3) := by decide +kernel
theorem dX8_voice_14 : decode cX8_voice 14 = .ok (.ifCond .ne 9, 3) := by decide +kernel
theorem dX8_voice_17 : decode cX8_voice 17 = .ok (.aload_n 0, 1) := by decide +kernel
theorem dX8_voice_18 : decode cX8_voice 18 = .ok (.iconst 1, 1) := by decide +kernel
theorem dX8_voice_19 : decode cX8_voice 19 = .ok (.invokevirtual 86, 3) := by decide +kernel
theorem dX8_voice_22 : decode cX8_voice 22 = .ok (.ireturn, 1) := by decide +kernel
theorem dX8_voice_23 : decode cX8_voice 23 = .ok (.aload_n 0, 1) := by decide +kernel
theorem dX8_voice_24 : decode cX8_voice 24 = .ok (.getfield 63, 3) := by decide +kernel
theorem dX8_voice_27 : decode cX8_voice 27 = .ok (.aload_n 0, 1) := by decide +kernel
theorem dX8_voice_28 : decode cX8_voice 28 = .ok (.getfield 19, 3) := by decide +kernel
theorem dX8_voice_31 : decode cX8_voice 31 = .ok (.getfield 134, 3) := by decide +kernel
theorem dX8_voice_34 : decode cX8_voice 34 = .ok (.iload_n 1, 1) := by decide +kernel
theorem dX8_voice_35 : decode cX8_voice 35 = .ok (.iaload, 1) := by decide +kernel
theorem dX8_voice_36 : decode cX8_voice 36 = .ok (.iload_n 1, 1) := by decide +kernel
theorem dX8_voice_37 : decode cX8_voice 37 = .ok (.aload_n 0, 1) := by decide +kernel
theorem dX8_voice_38 : decode cX8_voice 38 = .ok (.getfield 19, 3) := by decide +kernel
theorem dX8_voice_41 : decode cX8_voice 41 = .ok (.getfield 137, 3) := by decide +kernel
theorem dX8_voice_44 : decode cX8_voice 44 = .ok (.iload_n 1, 1) := by decide +kernel
theorem dX8_voice_45 : decode cX8_voice 45 = .ok (.iaload, 1) := by decide +kernel
theorem dX8_voice_46 : decode cX8_voice 46 = .ok (.iload_n 2, 1) := by decide +kernel
theorem dX8_voice_47 : decode cX8_voice 47 = .ok (.iload_n 3, 1) := by decide +kernel
theorem dX8_voice_48 : decode cX8_voice 48 = .ok (.invokevirtual 271, 3) := by decide +kernel
theorem dX8_voice_51 : decode cX8_voice 51 = .ok (.ireturn, 1) := by decide +kernel
theorem dX8_trace_0 : decode cX8_trace 0 = .ok (.iload_n 1, 1) := by decide +kernel
theorem dX8_trace_1 : decode cX8_trace 1 = .ok (.iconst 0, 1) := by decide +kernel
theorem dX8_trace_2 : decode cX8_trace 2 = .ok (.aload_n 0, 1) := by decide +kernel
theorem dX8_trace_3 : decode cX8_trace 3 = .ok (.getfield 63, 3) := by decide +kernel
theorem dX8_trace_6 : decode cX8_trace 6 = .ok (.getfield 275, 3) := by decide +kernel
theorem dX8_trace_9 : decode cX8_trace 9 = .ok (.iconst 1, 1) := by decide +kernel
theorem dX8_trace_10 : decode cX8_trace 10 = .ok (.isub, 1) := by decide +kernel
theorem dX8_trace_11 : decode cX8_trace 11 = .ok (.invokestatic 82, 3) := by decide +kernel
theorem dX8_trace_14 : decode cX8_trace 14 = .ok (.ifCond .eq 15, 3) := by decide +kernel
theorem dX8_trace_17 : decode cX8_trace 17 = .ok (.aload_n 0, 1) := by decide +kernel
theorem dX8_trace_18 : decode cX8_trace 18 = .ok (.getfield 63, 3) := by decide +kernel
theorem dX8_trace_21 : decode cX8_trace 21 = .ok (.getfield 278, 3) := by decide +kernel
theorem dX8_trace_24 : decode cX8_trace 24 = .ok (.iload_n 1, 1) := by decide +kernel
theorem dX8_trace_25 : decode cX8_trace 25 = .ok (.iaload, 1) := by decide +kernel
theorem dX8_trace_26 : decode cX8_trace 26 = .ok (.goto 8, 3) := by decide +kernel
theorem dX8_trace_29 : decode cX8_trace 29 = .ok (.aload_n 0, 1) := by decide +kernel
theorem dX8_trace_30 : decode cX8_trace 30 = .ok (.iconst 2, 1) := by decide +kernel
theorem dX8_trace_31 : decode cX8_trace 31 = .ok (.invokevirtual 86, 3) := by decide +kernel
theorem dX8_trace_34 : decode cX8_trace 34 = .ok (.ireturn, 1) := by decide +kernel
theorem dX8_sheet_0 : decode cX8_sheet 0 = .ok (.iload_n 1, 1) := by decide +kernel
theorem dX8_sheet_1 : decode cX8_sheet 1 = .ok (.invokestatic 239, 3) := by decide +kernel
theorem dX8_sheet_4 : decode cX8_sheet 4 = .ok (.ifCond .eq 25, 3) := by decide +kernel
theorem dX8_sheet_7 : decode cX8_sheet 7 = .ok (.iload_n 2, 1) := by decide +kernel
theorem dX8_sheet_8 : decode cX8_sheet 8 = .ok (.ifCond .eq 27, 3) := by decide +kernel
theorem dX8_sheet_11 : decode cX8_sheet 11 = .ok (.iload_n 2, 1) := by decide +kernel
theorem dX8_sheet_12 : decode cX8_sheet 12 = .ok (.bipush 8, 2) := by decide +kernel
theorem dX8_sheet_14 : decode cX8_sheet 14 = .ok (.if_icmp .eq 21, 3) := by decide +kernel
theorem dX8_sheet_17 : decode cX8_sheet 17 = .ok (.iload_n 2, 1) := by decide +kernel
theorem dX8_sheet_18 : decode cX8_sheet 18 = .ok (.bipush 16, 2) := by decide +kernel
theorem dX8_sheet_20 : decode cX8_sheet 20 = .ok (.if_icmp .eq 15, 3) := by decide +kernel
theorem dX8_sheet_23 : decode cX8_sheet 23 = .ok (.iload_n 2, 1) := by decide +kernel
theorem dX8_sheet_24 : decode cX8_sheet 24 = .ok (.bipush 32, 2) := by decide +kernel
theorem dX8_sheet_26 : decode cX8_sheet 26 = .ok (.if_icmp .eq 9, 3) := by decide +kernel
theorem dX8_sheet_29 : decode cX8_sheet 29 = .ok (.aload_n 0, 1) := by decide +kernel
theorem dX8_sheet_30 : decode cX8_sheet 30 = .ok (.iconst 1, 1) := by decide +kernel
theorem dX8_sheet_31 : decode cX8_sheet 31 = .ok (.invokevirtual 86, 3) := by decide +kernel
theorem dX8_sheet_34 : decode cX8_sheet 34 = .ok (.ireturn, 1) := by decide +kernel
theorem dX8_sheet_35 : decode cX8_sheet 35 = .ok (.iload_n 2, 1) := by decide +kernel
theorem dX8_sheet_36 : decode cX8_sheet 36 = .ok (.ifCond .ne 16, 3) := by decide +kernel
theorem dX8_sheet_39 : decode cX8_sheet 39 = .ok (.aload_n 0, 1) := by decide +kernel
theorem dX8_sheet_40 : decode cX8_sheet 40 = .ok (.getfield 70, 3) := by decide +kernel
theorem dX8_sheet_43 : decode cX8_sheet 43 = .ok (.iload_n 1, 1) := by decide +kernel
theorem dX8_sheet_44 : decode cX8_sheet 44 = .ok (.aaload, 1) := by decide +kernel
theorem dX8_sheet_45 : decode cX8_sheet 45 = .ok (.iconst 0, 1) := by decide +kernel
theorem dX8_sheet_46 : decode cX8_sheet 46 = .ok (.iconst 0, 1) := by decide +kernel
theorem dX8_sheet_47 : decode cX8_sheet 47 = .ok (.invokevirtual 281, 3) := by decide +kernel
theorem dX8_sheet_50 : decode cX8_sheet 50 = .ok (.iconst 1, 1) := by decide +kernel
theorem dX8_sheet_51 : decode cX8_sheet 51 = .ok (.ireturn, 1) := by decide +kernel
theorem dX8_sheet_52 : decode cX8_sheet 52 = .ok (.iload_n 3, 1) := by decide +kernel
theorem dX8_sheet_53 : decode cX8_sheet 53 = .ok (.ifCond .ge 9, 3) := by decide +kernel
theorem dX8_sheet_56 : decode cX8_sheet 56 = .ok (.aload_n 0, 1) := by decide +kernel
theorem dX8_sheet_57 : decode cX8_sheet 57 = .ok (.iconst 3, 1) := by decide +kernel
theorem dX8_sheet_58 : decode cX8_sheet 58 = .ok (.invokevirtual 86, 3) := by decide +kernel
theorem dX8_sheet_61 : decode cX8_sheet 61 = .ok (.ireturn, 1) := by decide +kernel
theorem dX8_sheet_62 : decode cX8_sheet 62 = .ok (.iload_n 3, 1) := by decide +kernel
theorem dX8_sheet_63 : decode cX8_sheet 63 = .ok (.bipush 40, 2) := by decide +kernel
theorem dX8_sheet_65 : decode cX8_sheet 65 = .ok (.if_icmp .le 9, 3) := by decide +kernel
theorem dX8_sheet_68 : decode cX8_sheet 68 = .ok (.aload_n 0, 1) := by decide +kernel
theorem dX8_sheet_69 : decode cX8_sheet 69 = .ok (.iconst 1, 1) := by decide +kernel
theorem dX8_sheet_70 : decode cX8_sheet 70 = .ok (.invokevirtual 86, 3) := by decide +kernel
theorem dX8_sheet_73 : decode cX8_sheet 73 = .ok (.ireturn, 1) := by decide +kernel
theorem dX8_sheet_74 : decode cX8_sheet 74 = .ok (.aload_n 0, 1) := by decide +kernel
theorem dX8_sheet_75 : decode cX8_sheet 75 = .ok (.getfield 70, 3) := by decide +kernel
theorem dX8_sheet_78 : decode cX8_sheet 78 = .ok (.iload_n 1, 1) := by decide +kernel
theorem dX8_sheet_79 : decode cX8_sheet 79 = .ok (.aaload, 1) := by decide +kernel
theorem dX8_sheet_80 : decode cX8_sheet 80 = .ok (.iload_n 2, 1) := by decide +kernel
theorem dX8_sheet_81 : decode cX8_sheet 81 = .ok (.iload_n 3, 1) := by decide +kernel
theorem dX8_sheet_82 : decode cX8_sheet 82 = .ok (.invokevirtual 281, 3) := by decide +kernel
theorem dX8_sheet_85 : decode cX8_sheet 85 = .ok (.iconst 1, 1) := by decide +kernel
theorem dX8_sheet_86 : decode cX8_sheet 86 = .ok (.ireturn, 1) := by decide +kernel
theorem dX8_put_0 : decode cX8_put 0 = .ok (.iload_n 1, 1) := by decide +kernel
theorem dX8_put_1 : decode cX8_put 1 = .ok (.invokestatic 239, 3) := by decide +kernel
theorem dX8_put_4 : decode cX8_put 4 = .ok (.ifCond .ne 9, 3) := by decide +kernel
theorem dX8_put_7 : decode cX8_put 7 = .ok (.aload_n 0, 1) := by decide +kernel
theorem dX8_put_8 : decode cX8_put 8 = .ok (.iconst 1, 1) := by decide +kernel
theorem dX8_put_9 : decode cX8_put 9 = .ok (.invokevirtual 86, 3) := by decide +kernel
theorem dX8_put_12 : decode cX8_put 12 = .ok (.ireturn, 1) := by decide +kernel
theorem dX8_put_13 : decode cX8_put 13 = .ok (.aload_n 0, 1) := by decide +kernel
theorem dX8_put_14 : decode cX8_put 14 = .ok (.getfield 70, 3) := by decide +kernel
theorem dX8_put_17 : decode cX8_put 17 = .ok (.iload_n 1, 1) := by decide +kernel
theorem dX8_put_18 : decode cX8_put 18 = .ok (.aaload, 1) := by decide +kernel
theorem dX8_put_19 : decode cX8_put 19 = .ok (.astore 4, 2) := by decide +kernel
theorem dX8_put_21 : decode cX8_put 21 = .ok (.aload 4, 2) := by decide +kernel
theorem dX8_put_23 : decode cX8_put 23 = .ok (.invokevirtual 242, 3) := by decide +kernel
theorem dX8_put_26 : decode cX8_put 26 = .ok (.ifCond .eq 9, 3) := by decide +kernel
theorem dX8_put_29 : decode cX8_put 29 = .ok (.aload_n 0, 1) := by decide +kernel
theorem dX8_put_30 : decode cX8_put 30 = .ok (.iconst 2, 1) := by decide +kernel
theorem dX8_put_31 : decode cX8_put 31 = .ok (.invokevirtual 86, 3) := by decide +kernel
theorem dX8_put_34 : decode cX8_put 34 = .ok (.ireturn, 1) := by decide +kernel
theorem dX8_put_35 : decode cX8_put 35 = .ok (.iload_n 2, 1) := by decide +kernel
theorem dX8_put_36 : decode cX8_put 36 = .ok (.iconst 0, 1) := by decide +kernel
theorem dX8_put_37 : decode cX8_put 37 = .ok (.aload 4, 2) := by decide +kernel
theorem dX8_put_39 : decode cX8_put 39 = .ok (.getfield 246, 3) := by decide +kernel
theorem dX8_put_42 : decode cX8_put 42 = .ok (.iconst 1, 1) := by decide +kernel
theorem dX8_put_43 : decode cX8_put 43 = .ok (.isub, 1) := by decide +kernel
theorem dX8_put_44 : decode cX8_put 44 = .ok (.invokestatic 82, 3) := by decide +kernel
theorem dX8_put_47 : decode cX8_put 47 = .ok (.ifCond .ne 9, 3) := by decide +kernel
theorem dX8_put_50 : decode cX8_put 50 = .ok (.aload_n 0, 1) := by decide +kernel
theorem dX8_put_51 : decode cX8_put 51 = .ok (.iconst 1, 1) := by decide +kernel
theorem dX8_put_52 : decode cX8_put 52 = .ok (.invokevirtual 86, 3) := by decide +kernel
theorem dX8_put_55 : decode cX8_put 55 = .ok (.ireturn, 1) := by decide +kernel
theorem dX8_put_56 : decode cX8_put 56 = .ok (.aload 4, 2) := by decide +kernel
theorem dX8_put_58 : decode cX8_put 58 = .ok (.getfield 253, 3) := by decide +kernel
theorem dX8_put_61 : decode cX8_put 61 = .ok (.iload_n 2, 1) := by decide +kernel
theorem dX8_put_62 : decode cX8_put 62 = .ok (.aload 4, 2) := by decide +kernel
theorem dX8_put_64 : decode cX8_put 64 = .ok (.iload_n 3, 1) := by decide +kernel
theorem dX8_put_65 : decode cX8_put 65 = .ok (.invokevirtual 284, 3) := by decide +kernel
theorem dX8_put_68 : decode cX8_put 68 = .ok (.iastore, 1) := by decide +kernel
theorem dX8_put_69 : decode cX8_put 69 = .ok (.iconst 1, 1) := by decide +kernel
theorem dX8_put_70 : decode cX8_put 70 = .ok (.ireturn, 1) := by decide +kernel
theorem dX8_move_0 : decode cX8_move 0 = .ok (.iload_n 1, 1) := by decide +kernel
theorem dX8_move_1 : decode cX8_move 1 = .ok (.invokestatic 239, 3) := by decide +kernel
theorem dX8_move_4 : decode cX8_move 4 = .ok (.ifCond .eq 10, 3) := by decide +kernel
theorem dX8_move_7 : decode cX8_move 7 = .ok (.iload_n 3, 1) := by decide +kernel
theorem dX8_move_8 : decode cX8_move 8 = .ok (.invokestatic 239, 3) := by decide +kernel
theorem dX8_move_11 : decode cX8_move 11 = .ok (.ifCond .ne 9, 3) := by decide +kernel
theorem dX8_move_14 : decode cX8_move 14 = .ok (.aload_n 0, 1) := by decide +kernel
theorem dX8_move_15 : decode cX8_move 15 = .ok (.iconst 1, 1) := by decide +kernel
theorem dX8_move_16 : decode cX8_move 16 = .ok (.invokevirtual 86, 3) := by decide +kernel
theorem dX8_move_19 : decode cX8_move 19 = .ok (.ireturn, 1) := by decide +kernel
theorem dX8_move_20 : decode cX8_move 20 = .ok (.aload_n 0, 1) := by decide +kernel
theorem dX8_move_21 : decode cX8_move 21 = .ok (.getfield 70, 3) := by decide +kernel
theorem dX8_move_24 : decode cX8_move 24 = .ok (.iload_n 1, 1) := by decide +kernel
theorem dX8_move_25 : decode cX8_move 25 = .ok (.aaload, 1) := by decide +kernel
theorem dX8_move_26 : decode cX8_move 26 = .ok (.astore 6, 2) := by decide +kernel
theorem dX8_move_28 : decode cX8_move 28 = .ok (.aload_n 0, 1) := by decide +kernel
theorem dX8_move_29 : decode cX8_move 29 = .ok (.getfield 70, 3) := by decide +kernel
theorem dX8_move_32 : decode cX8_move 32 = .ok (.iload_n 3, 1) := by decide +kernel
theorem dX8_move_33 : decode cX8_move 33 = .ok (.aaload, 1) := by decide +kernel
theorem dX8_move_34 : decode cX8_move 34 = .ok (.astore 7, 2) := by decide +kernel
theorem dX8_move_36 : decode cX8_move 36 = .ok (.aload 6, 2) := by decide +kernel
theorem dX8_move_38 : decode cX8_move 38 = .ok (.invokevirtual 242, 3) := by decide +kernel
theorem dX8_move_41 : decode cX8_move 41 = .ok (.ifCond .ne 11, 3) := by decide +kernel
theorem dX8_move_44 : decode cX8_move 44 = .ok (.aload 7, 2) := by decide +kernel
theorem dX8_move_46 : decode cX8_move 46 = .ok (.invokevirtual 242, 3) := by decide +kernel
theorem dX8_move_49 : decode cX8_move 49 = .ok (.ifCond .eq 9, 3) := by decide +kernel
theorem dX8_move_52 : decode cX8_move 52 = .ok (.aload_n 0, 1) := by decide +kernel
theorem dX8_move_53 : decode cX8_move 53 = .ok (.iconst 2, 1) := by decide +kernel
theorem dX8_move_54 : decode cX8_move 54 = .ok (.invokevirtual 86, 3) := by decide +kernel
theorem dX8_move_57 : decode cX8_move 57 = .ok (.ireturn, 1) := by decide +kernel
theorem dX8_move_58 : decode cX8_move 58 = .ok (.aload 6, 2) := by decide +kernel
theorem dX8_move_60 : decode cX8_move 60 = .ok (.getfield 287, 3) := by decide +kernel
theorem dX8_move_63 : decode cX8_move 63 = .ok (.aload 7, 2) := by decide +kernel
theorem dX8_move_65 : decode cX8_move 65 = .ok (.getfield 287, 3) := by decide +kernel
theorem dX8_move_68 : decode cX8_move 68 = .ok (.if_icmp .eq 9, 3) := by decide +kernel
theorem dX8_move_71 : decode cX8_move 71 = .ok (.aload_n 0, 1) := by decide +kernel
theorem dX8_move_72 : decode cX8_move 72 = .ok (.iconst 5, 1) := by decide +kernel
theorem dX8_move_73 : decode cX8_move 73 = .ok (.invokevirtual 86, 3) := by decide +kernel
theorem dX8_move_76 : decode cX8_move 76 = .ok (.ireturn, 1) := by decide +kernel
theorem dX8_move_77 : decode cX8_move 77 = .ok (.aload 6, 2) := by decide +kernel
theorem dX8_move_79 : decode cX8_move 79 = .ok (.iload_n 2, 1) := by decide +kernel
theorem dX8_move_80 : decode cX8_move 80 = .ok (.iload 5, 2) := by decide +kernel
theorem dX8_move_82 : decode cX8_move 82 = .ok (.invokevirtual 290, 3) := by decide +kernel
theorem dX8_move_85 : decode cX8_move 85 = .ok (.ifCond .eq 15, 3) := by decide +kernel
theorem dX8_move_88 : decode cX8_move 88 = .ok (.aload 7, 2) := by decide +kernel
theorem dX8_move_90 : decode cX8_move 90 = .ok (.iload 4, 2) := by decide +kernel
theorem dX8_move_92 : decode cX8_move 92 = .ok (.iload 5, 2) := by decide +kernel
theorem dX8_move_94 : decode cX8_move 94 = .ok (.invokevirtual 290, 3) := by decide +kernel
theorem dX8_move_97 : decode cX8_move 97 = .ok (.ifCond .ne 9, 3) := by decide +kernel
theorem dX8_move_100 : decode cX8_move 100 = .ok (.aload_n 0, 1) := by decide +kernel
theorem dX8_move_101 : decode cX8_move 101 = .ok (.iconst 1, 1) := by decide +kernel
theorem dX8_move_102 : decode cX8_move 102 = .ok (.invokevirtual 86, 3) := by decide +kernel
theorem dX8_move_105 : decode cX8_move 105 = .ok (.ireturn, 1) := by decide +kernel
theorem dX8_move_106 : decode cX8_move 106 = .ok (.aload 6, 2) := by decide +kernel
theorem dX8_move_108 : decode cX8_move 108 = .ok (.getfield 253, 3) := by decide +kernel
theorem dX8_move_111 : decode cX8_move 111 = .ok (.iload_n 2, 1) := by decide +kernel
theorem dX8_move_112 : decode cX8_move 112 = .ok (.aload 7, 2) := by decide +kernel
theorem dX8_move_114 : decode cX8_move 114 = .ok (.getfield 253, 3) := by decide +kernel
theorem dX8_move_117 : decode cX8_move 117 = .ok (.iload 4, 2) := by decide +kernel
theorem dX8_move_119 : decode cX8_move 119 = .ok (.iload 5, 2) := by decide +kernel
theorem dX8_move_121 : decode cX8_move 121 = .ok (.invokestatic 293, 3) := by decide +kernel
theorem dX8_move_124 : decode cX8_move 124 = .ok (.iload 5, 2) := by decide +kernel
theorem dX8_move_126 : decode cX8_move 126 = .ok (.ireturn, 1) := by decide +kernel
theorem dX8_beds_0 : decode cX8_beds 0 = .ok (.iload_n 1, 1) := by decide +kernel
theorem dX8_beds_1 : decode cX8_beds 1 = .ok (.invokestatic 239, 3) := by decide +kernel
theorem dX8_beds_4 : decode cX8_beds 4 = .ok (.ifCond .ne 9, 3) := by decide +kernel
theorem dX8_beds_7 : decode cX8_beds 7 = .ok (.aload_n 0, 1) := by decide +kernel
theorem dX8_beds_8 : decode cX8_beds 8 = .ok (.iconst 1, 1) := by decide +kernel
theorem dX8_beds_9 : decode cX8_beds 9 = .ok (.invokevirtual 86, 3) := by decide +kernel
theorem dX8_beds_12 : decode cX8_beds 12 = .ok (.ireturn, 1) := by decide +kernel
theorem dX8_beds_13 : decode cX8_beds 13 = .ok (.aload_n 0, 1) := by decide +kernel
theorem dX8_beds_14 : decode cX8_beds 14 = .ok (.getfield 70, 3) := by decide +kernel
theorem dX8_beds_17 : decode cX8_beds 17 = .ok (.iload_n 1, 1) := by decide +kernel
theorem dX8_beds_18 : decode cX8_beds 18 = .ok (.aaload, 1) := by decide +kernel
theorem dX8_beds_19 : decode cX8_beds 19 = .ok (.astore_n 2, 1) := by decide +kernel
theorem dX8_beds_20 : decode cX8_beds 20 = .ok (.aload_n 2, 1) := by decide +kernel
theorem dX8_beds_21 : decode cX8_beds 21 = .ok (.invokevirtual 242, 3) := by decide +kernel
theorem dX8_beds_24 : decode cX8_beds 24 = .ok (.ifCond .eq 9, 3) := by decide +kernel
theorem dX8_beds_27 : decode cX8_beds 27 = .ok (.aload_n 0, 1) := by decide +kernel
theorem dX8_beds_28 : decode cX8_beds 28 = .ok (.iconst 2, 1) := by decide +kernel
theorem dX8_beds_29 : decode cX8_beds 29 = .ok (.invokevirtual 86, 3) := by decide +kernel
theorem dX8_beds_32 : decode cX8_beds 32 = .ok (.ireturn, 1) := by decide +kernel
theorem dX8_beds_33 : decode cX8_beds 33 = .ok (.aload_n 2, 1) := by decide +kernel
theorem dX8_beds_34 : decode cX8_beds 34 = .ok (.getfield 246, 3) := by decide +kernel
theorem dX8_beds_37 : decode cX8_beds 37 = .ok (.aload_n 0, 1) := by decide +kernel
theorem dX8_beds_38 : decode cX8_beds 38 = .ok (.getfield 10, 3) := by decide +kernel
theorem dX8_beds_41 : decode cX8_beds 41 = .ok (.getfield 93, 3) := by decide +kernel
theorem dX8_beds_44 : decode cX8_beds 44 = .ok (.invokestatic 299, 3) := by decide +kernel
theorem dX8_beds_47 : decode cX8_beds 47 = .ok (.istore_n 3, 1) := by decide +kernel
theorem dX8_beds_48 : decode cX8_beds 48 = .ok (.iconst 0, 1) := by decide +kernel
theorem dX8_beds_49 : decode cX8_beds 49 = .ok (.istore 4, 2) := by decide +kernel
theorem dX8_beds_51 : decode cX8_beds 51 = .ok (.iload 4, 2) := by decide +kernel
theorem dX8_beds_53 : decode cX8_beds 53 = .ok (.iload_n 3, 1) := by decide +kernel
theorem dX8_beds_54 : decode cX8_beds 54 = .ok (.if_icmp .ge 45, 3) := by decide +kernel
theorem dX8_beds_57 : decode cX8_beds 57 = .ok (.aload_n 2, 1) := by decide +kernel
theorem dX8_beds_58 : decode cX8_beds 58 = .ok (.getfield 253, 3) := by decide +kernel
theorem dX8_beds_61 : decode cX8_beds 61 = .ok (.iload 4, 2) := by decide +kernel
theorem dX8_beds_63 : decode cX8_beds 63 = .ok (.iaload, 1) := by decide +kernel
theorem dX8_beds_64 : decode cX8_beds 64 = .ok (.iconst 0, 1) := by decide +kernel
theorem dX8_beds_65 : decode cX8_beds 65 = .ok (.bipush 9, 2) := by decide +kernel
theorem dX8_beds_67 : decode cX8_beds 67 = .ok (.invokestatic 82, 3) := by decide +kernel
theorem dX8_beds_70 : decode cX8_beds 70 = .ok (.ifCond .ne 6, 3) := by decide +kernel
theorem dX8_beds_73 : decode cX8_beds 73 = .ok (.iload 4, 2) := by decide +kernel
theorem dX8_beds_75 : decode cX8_beds 75 = .ok (.ireturn, 1) := by decide +kernel
theorem dX8_beds_76 : decode cX8_beds 76 = .ok (.aload_n 0, 1) := by decide +kernel
theorem dX8_beds_77 : decode cX8_beds 77 = .ok (.getfield 10, 3) := by decide +kernel
theorem dX8_beds_80 : decode cX8_beds 80 = .ok (.getfield 100, 3) := by decide +kernel
theorem dX8_beds_83 : decode cX8_beds 83 = .ok (.iload 4, 2) := by decide +kernel
theorem dX8_beds_85 : decode cX8_beds 85 = .ok (.aload_n 2, 1) := by decide +kernel
theorem dX8_beds_86 : decode cX8_beds 86 = .ok (.getfield 253, 3) := by decide +kernel
theorem dX8_beds_89 : decode cX8_beds 89 = .ok (.iload 4, 2) := by decide +kernel
theorem dX8_beds_91 : decode cX8_beds 91 = .ok (.iaload, 1) := by decide +kernel
theorem dX8_beds_92 : decode cX8_beds 92 = .ok (.iastore, 1) := by decide +kernel
theorem dX8_beds_93 : decode cX8_beds 93 = .ok (.iinc 4 1, 3) := by decide +kernel
theorem dX8_beds_96 : decode cX8_beds 96 = .ok (.goto (-45), 3) := by decide +kernel
theorem dX8_beds_99 : decode cX8_beds 99 = .ok (.iload_n 3, 1) := by decide +kernel
theorem dX8_beds_100 : decode cX8_beds 100 = .ok (.ireturn, 1) := by decide +kernel
theorem dX8_judge_0 : decode cX8_judge 0 = .ok (.iload_n 1, 1) := by decide +kernel
theorem dX8_judge_1 : decode cX8_judge 1 = .ok (.invokestatic 239, 3) := by decide +kernel
theorem dX8_judge_4 : decode cX8_judge 4 = .ok (.ifCond .ne 9, 3) := by decide +kernel
theorem dX8_judge_7 : decode cX8_judge 7 = .ok (.aload_n 0, 1) := by decide +kernel
theorem dX8_judge_8 : decode cX8_judge 8 = .ok (.iconst 1, 1) := by decide +kernel
theorem dX8_judge_9 : decode cX8_judge 9 = .ok (.invokevirtual 86, 3) := by decide +kernel
theorem dX8_judge_12 : decode cX8_judge 12 = .ok (.ireturn, 1) := by decide +kernel
theorem dX8_judge_13 : decode cX8_judge 13 = .ok (.aload_n 0, 1) := by decide +kernel
theorem dX8_judge_14 : decode cX8_judge 14 = .ok (.getfield 70, 3) := by decide +kernel
theorem dX8_judge_17 : decode cX8_judge 17 = .ok (.iload_n 1, 1) := by decide +kernel
theorem dX8_judge_18 : decode cX8_judge 18 = .ok (.aaload, 1) := by decide +kernel
theorem dX8_judge_19 : decode cX8_judge 19 = .ok (.astore_n 2, 1) := by decide +kernel
theorem dX8_judge_20 : decode cX8_judge 20 = .ok (.aload_n 2, 1) := by decide +kernel
theorem dX8_judge_21 : decode cX8_judge 21 = .ok (.invokevirtual 242, 3) := by decide +kernel
theorem dX8_judge_24 : decode cX8_judge 24 = .ok (.ifCond .eq 9, 3) := by decide +kernel
theorem dX8_judge_27 : decode cX8_judge 27 = .ok (.aload_n 0, 1) := by decide +kernel
theorem dX8_judge_28 : decode cX8_judge 28 = .ok (.iconst 2, 1) := by decide +kernel
theorem dX8_judge_29 : decode cX8_judge 29 = .ok (.invokevirtual 86, 3) := by decide +kernel
theorem dX8_judge_32 : decode cX8_judge 32 = .ok (.ireturn, 1) := by decide +kernel
theorem dX8_judge_33 : decode cX8_judge 33 = .ok (.aload_n 2, 1) := by decide +kernel
theorem dX8_judge_34 : decode cX8_judge 34 = .ok (.getfield 246, 3) := by decide +kernel
theorem dX8_judge_37 : decode cX8_judge 37 = .ok (.aload_n 0, 1) := by decide +kernel
theorem dX8_judge_38 : decode cX8_judge 38 = .ok (.getfield 19, 3) := by decide +kernel
theorem dX8_judge_41 : decode cX8_judge 41 = .ok (.getfield 90, 3) := by decide +kernel
theorem dX8_judge_44 : decode cX8_judge 44 = .ok (.invokestatic 299, 3) := by decide +kernel
theorem dX8_judge_47 : decode cX8_judge 47 = .ok (.istore_n 3, 1) := by decide +kernel
theorem dX8_judge_48 : decode cX8_judge 48 = .ok (.iconst 0, 1) := by decide +kernel
theorem dX8_judge_49 : decode cX8_judge 49 = .ok (.istore 4, 2) := by decide +kernel
theorem dX8_judge_51 : decode cX8_judge 51 = .ok (.iload 4, 2) := by decide +kernel
theorem dX8_judge_53 : decode cX8_judge 53 = .ok (.iload_n 3, 1) := by decide +kernel
theorem dX8_judge_54 : decode cX8_judge 54 = .ok (.if_icmp .ge 32, 3) := by decide +kernel
theorem dX8_judge_57 : decode cX8_judge 57 = .ok (.aload_n 2, 1) := by decide +kernel
theorem dX8_judge_58 : decode cX8_judge 58 = .ok (.getfield 253, 3) := by decide +kernel
theorem dX8_judge_61 : decode cX8_judge 61 = .ok (.iload 4, 2) := by decide +kernel
theorem dX8_judge_63 : decode cX8_judge 63 = .ok (.iaload, 1) := by decide +kernel
theorem dX8_judge_64 : decode cX8_judge 64 = .ok (.aload_n 0, 1) := by decide +kernel
theorem dX8_judge_65 : decode cX8_judge 65 = .ok (.getfield 19, 3) := by decide +kernel
theorem dX8_judge_68 : decode cX8_judge 68 = .ok (.getfield 143, 3) := by decide +kernel
theorem dX8_judge_71 : decode cX8_judge 71 = .ok (.iload 4, 2) := by decide +kernel
theorem dX8_judge_73 : decode cX8_judge 73 = .ok (.iaload, 1) := by decide +kernel
theorem dX8_judge_74 : decode cX8_judge 74 = .ok (.if_icmp .eq 6, 3) := by decide +kernel
theorem dX8_judge_77 : decode cX8_judge 77 = .ok (.iload 4, 2) := by decide +kernel
theorem dX8_judge_79 : decode cX8_judge 79 = .ok (.ireturn, 1) := by decide +kernel
theorem dX8_judge_80 : decode cX8_judge 80 = .ok (.iinc 4 1, 3) := by decide +kernel
theorem dX8_judge_83 : decode cX8_judge 83 = .ok (.goto (-32), 3) := by decide +kernel
theorem dX8_judge_86 : decode cX8_judge 86 = .ok (.aload_n 2, 1) := by decide +kernel
theorem dX8_judge_87 : decode cX8_judge 87 = .ok (.getfield 246, 3) := by decide +kernel
theorem dX8_judge_90 : decode cX8_judge 90 = .ok (.aload_n 0, 1) := by decide +kernel
theorem dX8_judge_91 : decode cX8_judge 91 = .ok (.getfield 19, 3) := by decide +kernel
theorem dX8_judge_94 : decode cX8_judge 94 = .ok (.getfield 90, 3) := by decide +kernel
theorem dX8_judge_97 : decode cX8_judge 97 = .ok (.if_icmp .ne 7, 3) := by decide +kernel
theorem dX8_judge_100 : decode cX8_judge 100 = .ok (.iconst (-1), 1) := by decide +kernel
theorem dX8_judge_101 : decode cX8_judge 101 = .ok (.goto 4, 3) := by decide +kernel
theorem dX8_judge_104 : decode cX8_judge 104 = .ok (.iload_n 3, 1) := by decide +kernel
theorem dX8_judge_105 : decode cX8_judge 105 = .ok (.ireturn, 1) := by decide +kernel
theorem dX8_image_0 : decode cX8_image 0 = .ok (.aload_n 0, 1) := by decide +kernel
theorem dX8_image_1 : decode cX8_image 1 = .ok (.getfield 30, 3) := by decide +kernel
theorem dX8_image_4 : decode cX8_image 4 = .ok (.aload_n 0, 1) := by decide +kernel
theorem dX8_image_5 : decode cX8_image 5 = .ok (.getfield 10, 3) := by decide +kernel
theorem dX8_image_8 : decode cX8_image 8 = .ok (.invokevirtual 304, 3) := by decide +kernel
theorem dX8_image_11 : decode cX8_image 11 = .ok (.aload_n 0, 1) := by decide +kernel
theorem dX8_image_12 : decode cX8_image 12 = .ok (.getfield 33, 3) := by decide +kernel
theorem dX8_image_15 : decode cX8_image 15 = .ok (.aload_n 0, 1) := by decide +kernel
theorem dX8_image_16 : decode cX8_image 16 = .ok (.getfield 19, 3) := by decide +kernel
theorem dX8_image_19 : decode cX8_image 19 = .ok (.invokevirtual 228, 3) := by decide +kernel
theorem dX8_image_22 : decode cX8_image 22 = .ok (.aload_n 0, 1) := by decide +kernel
theorem dX8_image_23 : decode cX8_image 23 = .ok (.getfield 36, 3) := by decide +kernel
theorem dX8_image_26 : decode cX8_image 26 = .ok (.aload_n 0, 1) := by decide +kernel
theorem dX8_image_27 : decode cX8_image 27 = .ok (.getfield 26, 3) := by decide +kernel
theorem dX8_image_30 : decode cX8_image 30 = .ok (.invokevirtual 307, 3) := by decide +kernel
theorem dX8_image_33 : decode cX8_image 33 = .ok (.aload_n 0, 1) := by decide +kernel
theorem dX8_image_34 : decode cX8_image 34 = .ok (.dup, 1) := by decide +kernel
theorem dX8_image_35 : decode cX8_image 35 = .ok (.getfield 39, 3) := by decide +kernel
theorem dX8_image_38 : decode cX8_image 38 = .ok (.iconst 1, 1) := by decide +kernel
theorem dX8_image_39 : decode cX8_image 39 = .ok (.iadd, 1) := by decide +kernel
theorem dX8_image_40 : decode cX8_image 40 = .ok (.putfield 39, 3) := by decide +kernel
theorem dX8_image_43 : decode cX8_image 43 = .ok (.aload_n 0, 1) := by decide +kernel
theorem dX8_image_44 : decode cX8_image 44 = .ok (.getfield 39, 3) := by decide +kernel
theorem dX8_image_47 : decode cX8_image 47 = .ok (.ireturn, 1) := by decide +kernel
theorem dX8_restore_0 : decode cX8_restore 0 = .ok (.aload_n 0, 1) := by decide +kernel
theorem dX8_restore_1 : decode cX8_restore 1 = .ok (.getfield 39, 3) := by decide +kernel
theorem dX8_restore_4 : decode cX8_restore 4 = .ok (.ifCond .ne 9, 3) := by decide +kernel
theorem dX8_restore_7 : decode cX8_restore 7 = .ok (.aload_n 0, 1) := by decide +kernel
theorem dX8_restore_8 : decode cX8_restore 8 = .ok (.iconst 2, 1) := by decide +kernel
theorem dX8_restore_9 : decode cX8_restore 9 = .ok (.invokevirtual 86, 3) := by decide +kernel
theorem dX8_restore_12 : decode cX8_restore 12 = .ok (.ireturn, 1) := by decide +kernel
theorem dX8_restore_13 : decode cX8_restore 13 = .ok (.aload_n 0, 1) := by decide +kernel
theorem dX8_restore_14 : decode cX8_restore 14 = .ok (.getfield 10, 3) := by decide +kernel
theorem dX8_restore_17 : decode cX8_restore 17 = .ok (.aload_n 0, 1) := by decide +kernel
theorem dX8_restore_18 : decode cX8_restore 18 = .ok (.getfield 30, 3) := by decide +kernel
theorem dX8_restore_21 : decode cX8_restore 21 = .ok (.invokevirtual 304, 3) := by decide +kernel
theorem dX8_restore_24 : decode cX8_restore 24 = .ok (.aload_n 0, 1) := by decide +kernel
theorem dX8_restore_25 : decode cX8_restore 25 = .ok (.getfield 19, 3) := by decide +kernel
theorem dX8_restore_28 : decode cX8_restore 28 = .ok (.aload_n 0, 1) := by decide +kernel
theorem dX8_restore_29 : decode cX8_restore 29 = .ok (.getfield 33, 3) := by decide +kernel
theorem dX8_restore_32 : decode cX8_restore 32 = .ok (.invokevirtual 228, 3) := by decide +kernel
theorem dX8_restore_35 : decode cX8_restore 35 = .ok (.aload_n 0, 1) := by decide +kernel
theorem dX8_restore_36 : decode cX8_restore 36 = .ok (.getfield 26, 3) := by decide +kernel
theorem dX8_restore_39 : decode cX8_restore 39 = .ok (.aload_n 0, 1) := by decide +kernel
theorem dX8_restore_40 : decode cX8_restore 40 = .ok (.getfield 36, 3) := by decide +kernel
theorem dX8_restore_43 : decode cX8_restore 43 = .ok (.invokevirtual 307, 3) := by decide +kernel
theorem dX8_restore_46 : decode cX8_restore 46 = .ok (.aload_n 0, 1) := by decide +kernel
theorem dX8_restore_47 : decode cX8_restore 47 = .ok (.getfield 19, 3) := by decide +kernel
theorem dX8_restore_50 : decode cX8_restore 50 = .ok (.getfield 204, 3) := by decide +kernel
theorem dX8_restore_53 : decode cX8_restore 53 = .ok (.ireturn, 1) := by decide +kernel
theorem dX8_tell_0 : decode cX8_tell 0 = .ok (.aload_n 0, 1) := by decide +kernel
theorem dX8_tell_1 : decode cX8_tell 1 = .ok (.getfield 26, 3) := by decide +kernel
theorem dX8_tell_4 : decode cX8_tell 4 = .ok (.getfield 310, 3) := by decide +kernel
theorem dX8_tell_7 : decode cX8_tell 7 = .ok (.bipush 20, 2) := by decide +kernel
theorem dX8_tell_9 : decode cX8_tell 9 = .ok (.if_icmp .lt 9, 3) := by decide +kernel
theorem dX8_tell_12 : decode cX8_tell 12 = .ok (.aload_n 0, 1) := by decide +kernel
theorem dX8_tell_13 : decode cX8_tell 13 = .ok (.iconst 4, 1) := by decide +kernel
theorem dX8_tell_14 : decode cX8_tell 14 = .ok (.invokevirtual 86, 3) := by decide +kernel
theorem dX8_tell_17 : decode cX8_tell 17 = .ok (.ireturn, 1) := by decide +kernel
theorem dX8_tell_18 : decode cX8_tell 18 = .ok (.aload_n 0, 1) := by decide +kernel
theorem dX8_tell_19 : decode cX8_tell 19 = .ok (.getfield 26, 3) := by decide +kernel
theorem dX8_tell_22 : decode cX8_tell 22 = .ok (.getfield 313, 3) := by decide +kernel
theorem dX8_tell_25 : decode cX8_tell 25 = .ok (.aload_n 0, 1) := by decide +kernel
theorem dX8_tell_26 : decode cX8_tell 26 = .ok (.getfield 26, 3) := by decide +kernel
theorem dX8_tell_29 : decode cX8_tell 29 = .ok (.getfield 310, 3) := by decide +kernel
theorem dX8_tell_32 : decode cX8_tell 32 = .ok (.iload_n 1, 1) := by decide +kernel
theorem dX8_tell_33 : decode cX8_tell 33 = .ok (.iastore, 1) := by decide +kernel
theorem dX8_tell_34 : decode cX8_tell 34 = .ok (.aload_n 0, 1) := by decide +kernel
theorem dX8_tell_35 : decode cX8_tell 35 = .ok (.getfield 26, 3) := by decide +kernel
theorem dX8_tell_38 : decode cX8_tell 38 = .ok (.dup, 1) := by decide +kernel
theorem dX8_tell_39 : decode cX8_tell 39 = .ok (.getfield 310, 3) := by decide +kernel
theorem dX8_tell_42 : decode cX8_tell 42 = .ok (.iconst 1, 1) := by decide +kernel
theorem dX8_tell_43 : decode cX8_tell 43 = .ok (.iadd, 1) := by decide +kernel
theorem dX8_tell_44 : decode cX8_tell 44 = .ok (.putfield 310, 3) := by decide +kernel
theorem dX8_tell_47 : decode cX8_tell 47 = .ok (.aload_n 0, 1) := by decide +kernel
theorem dX8_tell_48 : decode cX8_tell 48 = .ok (.getfield 26, 3) := by decide +kernel
theorem dX8_tell_51 : decode cX8_tell 51 = .ok (.getfield 310, 3) := by decide +kernel
theorem dX8_tell_54 : decode cX8_tell 54 = .ok (.ireturn, 1) := by decide +kernel
theorem dX8_check_0 : decode cX8_check 0 = .ok (.aload_n 0, 1) := by decide +kernel
theorem dX8_check_1 : decode cX8_check 1 = .ok (.getfield 26, 3) := by decide +kernel
theorem dX8_check_4 : decode cX8_check 4 = .ok (.getfield 310, 3) := by decide +kernel
theorem dX8_check_7 : decode cX8_check 7 = .ok (.istore_n 1, 1) := by decide +kernel
theorem dX8_check_8 : decode cX8_check 8 = .ok (.aload_n 0, 1) := by decide +kernel
theorem dX8_check_9 : decode cX8_check 9 = .ok (.getfield 26, 3) := by decide +kernel
theorem dX8_check_12 : decode cX8_check 12 = .ok (.iconst 0, 1) := by decide +kernel
theorem dX8_check_13 : decode cX8_check 13 = .ok (.putfield 310, 3) := by decide +kernel
theorem dX8_check_16 : decode cX8_check 16 = .ok (.aload_n 0, 1) := by decide +kernel
theorem dX8_check_17 : decode cX8_check 17 = .ok (.getfield 49, 3) := by decide +kernel
theorem dX8_check_20 : decode cX8_check 20 = .ok (.aload_n 0, 1) := by decide +kernel
theorem dX8_check_21 : decode cX8_check 21 = .ok (.getfield 10, 3) := by decide +kernel
theorem dX8_check_24 : decode cX8_check 24 = .ok (.aload_n 0, 1) := by decide +kernel
theorem dX8_check_25 : decode cX8_check 25 = .ok (.getfield 10, 3) := by decide +kernel
theorem dX8_check_28 : decode cX8_check 28 = .ok (.getfield 116, 3) := by decide +kernel
theorem dX8_check_31 : decode cX8_check 31 = .ok (.invokevirtual 155, 3) := by decide +kernel
theorem dX8_check_34 : decode cX8_check 34 = .ok (.aload_n 0, 1) := by decide +kernel
theorem dX8_check_35 : decode cX8_check 35 = .ok (.iconst 0, 1) := by decide +kernel
theorem dX8_check_36 : decode cX8_check 36 = .ok (.invokevirtual 225, 3) := by decide +kernel
theorem dX8_check_39 : decode cX8_check 39 = .ok (.iconst 0, 1) := by decide +kernel
theorem dX8_check_40 : decode cX8_check 40 = .ok (.istore_n 2, 1) := by decide +kernel
theorem dX8_check_41 : decode cX8_check 41 = .ok (.iload_n 2, 1) := by decide +kernel
theorem dX8_check_42 : decode cX8_check 42 = .ok (.iload_n 1, 1) := by decide +kernel
theorem dX8_check_43 : decode cX8_check 43 = .ok (.if_icmp .ge 41, 3) := by decide +kernel
theorem dX8_check_46 : decode cX8_check 46 = .ok (.aload_n 0, 1) := by decide +kernel
theorem dX8_check_47 : decode cX8_check 47 = .ok (.aload_n 0, 1) := by decide +kernel
theorem dX8_check_48 : decode cX8_check 48 = .ok (.getfield 43, 3) := by decide +kernel
theorem dX8_check_51 : decode cX8_check 51 = .ok (.invokevirtual 207, 3) := by decide +kernel
theorem dX8_check_54 : decode cX8_check 54 = .ok (.aload_n 0, 1) := by decide +kernel
theorem dX8_check_55 : decode cX8_check 55 = .ok (.getfield 26, 3) := by decide +kernel
theorem dX8_check_58 : decode cX8_check 58 = .ok (.getfield 313, 3) := by decide +kernel
theorem dX8_check_61 : decode cX8_check 61 = .ok (.iload_n 2, 1) := by decide +kernel
theorem dX8_check_62 : decode cX8_check 62 = .ok (.iaload, 1) := by decide +kernel
theorem dX8_check_63 : decode cX8_check 63 = .ok (.aload_n 0, 1) := by decide +kernel
theorem dX8_check_64 : decode cX8_check 64 = .ok (.getfield 43, 3) := by decide +kernel
theorem dX8_check_67 : decode cX8_check 67 = .ok (.iconst 0, 1) := by decide +kernel
theorem dX8_check_68 : decode cX8_check 68 = .ok (.invokevirtual 211, 3) := by decide +kernel
theorem dX8_check_71 : decode cX8_check 71 = .ok (.if_icmp .eq 7, 3) := by decide +kernel
theorem dX8_check_74 : decode cX8_check 74 = .ok (.iconst 1, 1) := by decide +kernel
theorem dX8_check_75 : decode cX8_check 75 = .ok (.iload_n 2, 1) := by decide +kernel
theorem dX8_check_76 : decode cX8_check 76 = .ok (.iadd, 1) := by decide +kernel
theorem dX8_check_77 : decode cX8_check 77 = .ok (.ireturn, 1) := by decide +kernel
theorem dX8_check_78 : decode cX8_check 78 = .ok (.iinc 2 1, 3) := by decide +kernel
theorem dX8_check_81 : decode cX8_check 81 = .ok (.goto (-40), 3) := by decide +kernel
theorem dX8_check_84 : decode cX8_check 84 = .ok (.iconst 0, 1) := by decide +kernel
theorem dX8_check_85 : decode cX8_check 85 = .ok (.ireturn, 1) := by decide +kernel
theorem dX8_count_0 : decode cX8_count 0 = .ok (.iload_n 1, 1) := by decide +kernel
theorem dX8_count_1 : decode cX8_count 1 = .ok (.tableswitch 160 0 11 #[63, 71, 79, 87, 95, 103, 111, 120, 128, 136, 144, 152], 63) := by decide +kernel
theorem dX8_count_64 : decode cX8_count 64 = .ok (.aload_n 0, 1) := by decide +kernel
theorem dX8_count_65 : decode cX8_count 65 = .ok (.getfield 10, 3) := by decide +kernel
theorem dX8_count_68 : decode cX8_count 68 = .ok (.getfield 93, 3) := by decide +kernel
theorem dX8_count_71 : decode cX8_count 71 = .ok (.ireturn, 1) := by decide +kernel
theorem dX8_count_72 : decode cX8_count 72 = .ok (.aload_n 0, 1) := by decide +kernel
theorem dX8_count_73 : decode cX8_count 73 = .ok (.getfield 19, 3) := by decide +kernel
theorem dX8_count_76 : decode cX8_count 76 = .ok (.getfield 90, 3) := by decide +kernel
theorem dX8_count_79 : decode cX8_count 79 = .ok (.ireturn, 1) := by decide +kernel
theorem dX8_count_80 : decode cX8_count 80 = .ok (.aload_n 0, 1) := by decide +kernel
theorem dX8_count_81 : decode cX8_count 81 = .ok (.getfield 19, 3) := by decide +kernel
theorem dX8_count_84 : decode cX8_count 84 = .ok (.getfield 204, 3) := by decide +kernel
theorem dX8_count_87 : decode cX8_count 87 = .ok (.ireturn, 1) := by decide +kernel
theorem dX8_count_88 : decode cX8_count 88 = .ok (.aload_n 0, 1) := by decide +kernel
theorem dX8_count_89 : decode cX8_count 89 = .ok (.getfield 10, 3) := by decide +kernel
theorem dX8_count_92 : decode cX8_count 92 = .ok (.getfield 109, 3) := by decide +kernel
theorem dX8_count_95 : decode cX8_count 95 = .ok (.ireturn, 1) := by decide +kernel
theorem dX8_count_96 : decode cX8_count 96 = .ok (.aload_n 0, 1) := by decide +kernel
theorem dX8_count_97 : decode cX8_count 97 = .ok (.getfield 10, 3) := by decide +kernel
theorem dX8_count_100 : decode cX8_count 100 = .ok (.getfield 116, 3) := by decide +kernel
theorem dX8_count_103 : decode cX8_count 103 = .ok (.ireturn, 1) := by decide +kernel
theorem dX8_count_104 : decode cX8_count 104 = .ok (.aload_n 0, 1) := by decide +kernel
theorem dX8_count_105 : decode cX8_count 105 = .ok (.getfield 10, 3) := by decide +kernel
theorem dX8_count_108 : decode cX8_count 108 = .ok (.getfield 128, 3) := by decide +kernel
theorem dX8_count_111 : decode cX8_count 111 = .ok (.ireturn, 1) := by decide +kernel
theorem dX8_count_112 : decode cX8_count 112 = .ok (.aload_n 0, 1) := by decide +kernel
theorem dX8_count_113 : decode cX8_count 113 = .ok (.getfield 19, 3) := by decide +kernel
theorem dX8_count_116 : decode cX8_count 116 = .ok (.iconst 0, 1) := by decide +kernel
theorem dX8_count_117 : decode cX8_count 117 = .ok (.invokevirtual 211, 3) := by decide +kernel
theorem dX8_count_120 : decode cX8_count 120 = .ok (.ireturn, 1) := by decide +kernel
theorem dX8_count_121 : decode cX8_count 121 = .ok (.aload_n 0, 1) := by decide +kernel
theorem dX8_count_122 : decode cX8_count 122 = .ok (.getfield 19, 3) := by decide +kernel
theorem dX8_count_125 : decode cX8_count 125 = .ok (.invokevirtual 230, 3) := by decide +kernel
theorem dX8_count_128 : decode cX8_count 128 = .ok (.ireturn, 1) := by decide +kernel
theorem dX8_count_129 : decode cX8_count 129 = .ok (.aload_n 0, 1) := by decide +kernel
theorem dX8_count_130 : decode cX8_count 130 = .ok (.getfield 26, 3) := by decide +kernel
theorem dX8_count_133 : decode cX8_count 133 = .ok (.getfield 173, 3) := by decide +kernel
theorem dX8_count_136 : decode cX8_count 136 = .ok (.ireturn, 1) := by decide +kernel
theorem dX8_count_137 : decode cX8_count 137 = .ok (.aload_n 0, 1) := by decide +kernel
theorem dX8_count_138 : decode cX8_count 138 = .ok (.getfield 26, 3) := by decide +kernel
theorem dX8_count_141 : decode cX8_count 141 = .ok (.getfield 310, 3) := by decide +kernel
theorem dX8_count_144 : decode cX8_count 144 = .ok (.ireturn, 1) := by decide +kernel
theorem dX8_count_145 : decode cX8_count 145 = .ok (.aload_n 0, 1) := by decide +kernel
theorem dX8_count_146 : decode cX8_count 146 = .ok (.getfield 63, 3) := by decide +kernel
theorem dX8_count_149 : decode cX8_count 149 = .ok (.getfield 275, 3) := by decide +kernel
theorem dX8_count_152 : decode cX8_count 152 = .ok (.ireturn, 1) := by decide +kernel
theorem dX8_count_153 : decode cX8_count 153 = .ok (.aload_n 0, 1) := by decide +kernel
theorem dX8_count_154 : decode cX8_count 154 = .ok (.getfield 26, 3) := by decide +kernel
theorem dX8_count_157 : decode cX8_count 157 = .ok (.getfield 268, 3) := by decide +kernel
theorem dX8_count_160 : decode cX8_count 160 = .ok (.ireturn, 1) := by decide +kernel
theorem dX8_count_161 : decode cX8_count 161 = .ok (.aload_n 0, 1) := by decide +kernel
theorem dX8_count_162 : decode cX8_count 162 = .ok (.iconst 1, 1) := by decide +kernel
theorem dX8_count_163 : decode cX8_count 163 = .ok (.invokevirtual 86, 3) := by decide +kernel
theorem dX8_count_166 : decode cX8_count 166 = .ok (.ireturn, 1) := by decide +kernel
theorem dX8_told_0 : decode cX8_told 0 = .ok (.iload_n 1, 1) := by decide +kernel
theorem dX8_told_1 : decode cX8_told 1 = .ok (.iconst 1, 1) := by decide +kernel
theorem dX8_told_2 : decode cX8_told 2 = .ok (.iconst 5, 1) := by decide +kernel
theorem dX8_told_3 : decode cX8_told 3 = .ok (.invokestatic 82, 3) := by decide +kernel
theorem dX8_told_6 : decode cX8_told 6 = .ok (.ifCond .eq 12, 3) := by decide +kernel
theorem dX8_told_9 : decode cX8_told 9 = .ok (.aload_n 0, 1) := by decide +kernel
theorem dX8_told_10 : decode cX8_told 10 = .ok (.getfield 74, 3) := by decide +kernel
theorem dX8_told_13 : decode cX8_told 13 = .ok (.iload_n 1, 1) := by decide +kernel
theorem dX8_told_14 : decode cX8_told 14 = .ok (.iaload, 1) := by decide +kernel
theorem dX8_told_15 : decode cX8_told 15 = .ok (.goto 8, 3) := by decide +kernel
theorem dX8_told_18 : decode cX8_told 18 = .ok (.aload_n 0, 1) := by decide +kernel
theorem dX8_told_19 : decode cX8_told 19 = .ok (.iconst 1, 1) := by decide +kernel
theorem dX8_told_20 : decode cX8_told 20 = .ok (.invokevirtual 86, 3) := by decide +kernel
theorem dX8_told_23 : decode cX8_told 23 = .ok (.ireturn, 1) := by decide +kernel
theorem dX8_refuse_0 : decode cX8_refuse 0 = .ok (.aload_n 0, 1) := by decide +kernel
theorem dX8_refuse_1 : decode cX8_refuse 1 = .ok (.getfield 74, 3) := by decide +kernel
theorem dX8_refuse_4 : decode cX8_refuse 4 = .ok (.iload_n 1, 1) := by decide +kernel
theorem dX8_refuse_5 : decode cX8_refuse 5 = .ok (.dup2, 1) := by decide +kernel
theorem dX8_refuse_6 : decode cX8_refuse 6 = .ok (.iaload, 1) := by decide +kernel
theorem dX8_refuse_7 : decode cX8_refuse 7 = .ok (.iconst 1, 1) := by decide +kernel
theorem dX8_refuse_8 : decode cX8_refuse 8 = .ok (.iadd, 1) := by decide +kernel
theorem dX8_refuse_9 : decode cX8_refuse 9 = .ok (.iastore, 1) := by decide +kernel
theorem dX8_refuse_10 : decode cX8_refuse 10 = .ok (.ldc_w 316, 3) := by decide +kernel
theorem dX8_refuse_13 : decode cX8_refuse 13 = .ok (.iload_n 1, 1) := by decide +kernel
theorem dX8_refuse_14 : decode cX8_refuse 14 = .ok (.isub, 1) := by decide +kernel
theorem dX8_refuse_15 : decode cX8_refuse 15 = .ok (.ireturn, 1) := by decide +kernel
theorem dX8_within_0 : decode cX8_within 0 = .ok (.iload_n 0, 1) := by decide +kernel
theorem dX8_within_1 : decode cX8_within 1 = .ok (.iload_n 1, 1) := by decide +kernel
theorem dX8_within_2 : decode cX8_within 2 = .ok (.if_icmp .lt 12, 3) := by decide +kernel
theorem dX8_within_5 : decode cX8_within 5 = .ok (.iload_n 0, 1) := by decide +kernel
theorem dX8_within_6 : decode cX8_within 6 = .ok (.iload_n 2, 1) := by decide +kernel
theorem dX8_within_7 : decode cX8_within 7 = .ok (.if_icmp .gt 7, 3) := by decide +kernel
theorem dX8_within_10 : decode cX8_within 10 = .ok (.iconst 1, 1) := by decide +kernel
theorem dX8_within_11 : decode cX8_within 11 = .ok (.goto 4, 3) := by decide +kernel
theorem dX8_within_14 : decode cX8_within 14 = .ok (.iconst 0, 1) := by decide +kernel
theorem dX8_within_15 : decode cX8_within 15 = .ok (.ireturn, 1) := by decide +kernel
theorem dX8_isCell_0 : decode cX8_isCell 0 = .ok (.iload_n 1, 1) := by decide +kernel
theorem dX8_isCell_1 : decode cX8_isCell 1 = .ok (.iconst 0, 1) := by decide +kernel
theorem dX8_isCell_2 : decode cX8_isCell 2 = .ok (.aload_n 0, 1) := by decide +kernel
theorem dX8_isCell_3 : decode cX8_isCell 3 = .ok (.getfield 10, 3) := by decide +kernel
theorem dX8_isCell_6 : decode cX8_isCell 6 = .ok (.getfield 93, 3) := by decide +kernel
theorem dX8_isCell_9 : decode cX8_isCell 9 = .ok (.iconst 1, 1) := by decide +kernel
theorem dX8_isCell_10 : decode cX8_isCell 10 = .ok (.isub, 1) := by decide +kernel
theorem dX8_isCell_11 : decode cX8_isCell 11 = .ok (.invokestatic 82, 3) := by decide +kernel
theorem dX8_isCell_14 : decode cX8_isCell 14 = .ok (.ireturn, 1) := by decide +kernel
theorem dX8_isShip_0 : decode cX8_isShip 0 = .ok (.iload_n 1, 1) := by decide +kernel
theorem dX8_isShip_1 : decode cX8_isShip 1 = .ok (.iconst 0, 1) := by decide +kernel
theorem dX8_isShip_2 : decode cX8_isShip 2 = .ok (.aload_n 0, 1) := by decide +kernel
theorem dX8_isShip_3 : decode cX8_isShip 3 = .ok (.getfield 19, 3) := by decide +kernel
theorem dX8_isShip_6 : decode cX8_isShip 6 = .ok (.getfield 90, 3) := by decide +kernel
theorem dX8_isShip_9 : decode cX8_isShip 9 = .ok (.iconst 1, 1) := by decide +kernel
theorem dX8_isShip_10 : decode cX8_isShip 10 = .ok (.isub, 1) := by decide +kernel
theorem dX8_isShip_11 : decode cX8_isShip 11 = .ok (.invokestatic 82, 3) := by decide +kernel
theorem dX8_isShip_14 : decode cX8_isShip 14 = .ok (.ireturn, 1) := by decide +kernel
theorem dX8_isKindAndM_0 : decode cX8_isKindAndM 0 = .ok (.iload_n 0, 1) := by decide +kernel
theorem dX8_isKindAndM_1 : decode cX8_isKindAndM 1 = .ok (.iconst 0, 1) := by decide +kernel
theorem dX8_isKindAndM_2 : decode cX8_isKindAndM 2 = .ok (.bipush 69, 2) := by decide +kernel
theorem dX8_isKindAndM_4 : decode cX8_isKindAndM 4 = .ok (.invokestatic 82, 3) := by decide +kernel
theorem dX8_isKindAndM_7 : decode cX8_isKindAndM 7 = .ok (.ireturn, 1) := by decide +kernel
theorem dX8_isUse_0 : decode cX8_isUse 0 = .ok (.iload_n 0, 1) := by decide +kernel
theorem dX8_isUse_1 : decode cX8_isUse 1 = .ok (.iconst 0, 1) := by decide +kernel
theorem dX8_isUse_2 : decode cX8_isUse 2 = .ok (.iconst 1, 1) := by decide +kernel
theorem dX8_isUse_3 : decode cX8_isUse 3 = .ok (.invokestatic 82, 3) := by decide +kernel
theorem dX8_isUse_6 : decode cX8_isUse 6 = .ok (.ireturn, 1) := by decide +kernel
theorem dX8_isSheet_0 : decode cX8_isSheet 0 = .ok (.iload_n 0, 1) := by decide +kernel
theorem dX8_isSheet_1 : decode cX8_isSheet 1 = .ok (.iconst 0, 1) := by decide +kernel
theorem dX8_isSheet_2 : decode cX8_isSheet 2 = .ok (.iconst 3, 1) := by decide +kernel
theorem dX8_isSheet_3 : decode cX8_isSheet 3 = .ok (.invokestatic 82, 3) := by decide +kernel
theorem dX8_isSheet_6 : decode cX8_isSheet 6 = .ok (.ireturn, 1) := by decide +kernel
theorem dX8_has_0 : decode cX8_has 0 = .ok (.iload_n 0, 1) := by decide +kernel
theorem dX8_has_1 : decode cX8_has 1 = .ok (.iload_n 1, 1) := by decide +kernel
theorem dX8_has_2 : decode cX8_has 2 = .ok (.ishr, 1) := by decide +kernel
theorem dX8_has_3 : decode cX8_has 3 = .ok (.iconst 1, 1) := by decide +kernel
theorem dX8_has_4 : decode cX8_has 4 = .ok (.iand, 1) := by decide +kernel
theorem dX8_has_5 : decode cX8_has 5 = .ok (.ifCond .eq 7, 3) := by decide +kernel
theorem dX8_has_8 : decode cX8_has 8 = .ok (.iconst 1, 1) := by decide +kernel
theorem dX8_has_9 : decode cX8_has 9 = .ok (.goto 4, 3) := by decide +kernel
theorem dX8_has_12 : decode cX8_has 12 = .ok (.iconst 0, 1) := by decide +kernel
theorem dX8_has_13 : decode cX8_has 13 = .ok (.ireturn, 1) := by decide +kernel
end
section
theorem dX9_init_0 : decode cX9_init 0 = .ok (.aload_n 0, 1) := by decide +kernel
theorem dX9_init_1 : decode cX9_init 1 = .ok (.invokespecial 3, 3) := by decide +kernel
theorem dX9_init_4 : decode cX9_init 4 = .ok (.aload_n 0, 1) := by decide +kernel
theorem dX9_init_5 : decode cX9_init 5 = .ok (.sipush 242, 3) := by decide +kernel
theorem dX9_init_8 : decode cX9_init 8 = .ok (.newarray .int, 2) := by decide +kernel
theorem dX9_init_10 : decode cX9_init 10 = .ok (.putfield 9, 3) := by decide +kernel
theorem dX9_init_13 : decode cX9_init 13 = .ok (.aload_n 0, 1) := by decide +kernel
theorem dX9_init_14 : decode cX9_init 14 = .ok (.sipush 242, 3) := by decide +kernel
theorem dX9_init_17 : decode cX9_init 17 = .ok (.newarray .int, 2) := by decide +kernel
theorem dX9_init_19 : decode cX9_init 19 = .ok (.putfield 13, 3) := by decide +kernel
theorem dX9_init_22 : decode cX9_init 22 = .ok (.aload_n 0, 1) := by decide +kernel
theorem dX9_init_23 : decode cX9_init 23 = .ok (.sipush 242, 3) := by decide +kernel
theorem dX9_init_26 : decode cX9_init 26 = .ok (.newarray .int, 2) := by decide +kernel
theorem dX9_init_28 : decode cX9_init 28 = .ok (.putfield 16, 3) := by decide +kernel
theorem dX9_init_31 : decode cX9_init 31 = .ok (.aload_n 0, 1) := by decide +kernel
theorem dX9_init_32 : decode cX9_init 32 = .ok (.bipush 6, 2) := by decide +kernel
theorem dX9_init_34 : decode cX9_init 34 = .ok (.newarray .int, 2) := by decide +kernel
theorem dX9_init_36 : decode cX9_init 36 = .ok (.putfield 19, 3) := by decide +kernel
theorem dX9_init_39 : decode cX9_init 39 = .ok (.aload_n 0, 1) := by decide +kernel
theorem dX9_init_40 : decode cX9_init 40 = .ok (.sipush 8000, 3) := by decide +kernel
theorem dX9_init_43 : decode cX9_init 43 = .ok (.newarray .int, 2) := by decide +kernel
theorem dX9_init_45 : decode cX9_init 45 = .ok (.putfield 22, 3) := by decide +kernel
theorem dX9_init_48 : decode cX9_init 48 = .ok (.aload_n 0, 1) := by decide +kernel
theorem dX9_init_49 : decode cX9_init 49 = .ok (.iconst 2, 1) := by decide +kernel
theorem dX9_init_50 : decode cX9_init 50 = .ok (.anewarray 25, 3) := by decide +kernel
theorem dX9_init_53 : decode cX9_init 53 = .ok (.dup, 1) := by decide +kernel
theorem dX9_init_54 : decode cX9_init 54 = .ok (.iconst 0, 1) := by decide +kernel
theorem dX9_init_55 : decode cX9_init 55 = .ok (.ldc 27, 2) := by decide +kernel
theorem dX9_init_57 : decode cX9_init 57 = .ok (.aastore, 1) := by decide +kernel
theorem dX9_init_58 : decode cX9_init 58 = .ok (.dup, 1) := by decide +kernel
theorem dX9_init_59 : decode cX9_init 59 = .ok (.iconst 1, 1) := by decide +kernel
theorem dX9_init_60 : decode cX9_init 60 = .ok (.ldc 29, 2) := by decide +kernel
theorem dX9_init_62 : decode cX9_init 62 = .ok (.aastore, 1) := by decide +kernel
theorem dX9_init_63 : decode cX9_init 63 = .ok (.putfield 31, 3) := by decide +kernel
theorem dX9_init_66 : decode cX9_init 66 = .ok (.aload_n 0, 1) := by decide +kernel
theorem dX9_init_67 : decode cX9_init 67 = .ok (.bipush 60, 2) := by decide +kernel
theorem dX9_init_69 : decode cX9_init 69 = .ok (.newarray .int, 2) := by decide +kernel
theorem dX9_init_71 : decode cX9_init 71 = .ok (.putfield 35, 3) := by decide +kernel
theorem dX9_init_74 : decode cX9_init 74 = .ok (.aload_n 0, 1) := by decide +kernel
theorem dX9_init_75 : decode cX9_init 75 = .ok (.iconst 4, 1) := by decide +kernel
theorem dX9_init_76 : decode cX9_init 76 = .ok (.newarray .int, 2) := by decide +kernel
theorem dX9_init_78 : decode cX9_init 78 = .ok (.putfield 38, 3) := by decide +kernel
theorem dX9_init_81 : decode cX9_init 81 = .ok (.aload_n 0, 1) := by decide +kernel
theorem dX9_init_82 : decode cX9_init 82 = .ok (.bipush 60, 2) := by decide +kernel
theorem dX9_init_84 : decode cX9_init 84 = .ok (.newarray .int, 2) := by decide +kernel
theorem dX9_init_86 : decode cX9_init 86 = .ok (.putfield 41, 3) := by decide +kernel
theorem dX9_init_89 : decode cX9_init 89 = .ok (.aload_n 0, 1) := by decide +kernel
theorem dX9_init_90 : decode cX9_init 90 = .ok (.bipush 40, 2) := by decide +kernel
theorem dX9_init_92 : decode cX9_init 92 = .ok (.newarray .int, 2) := by decide +kernel
theorem dX9_init_94 : decode cX9_init 94 = .ok (.putfield 44, 3) := by decide +kernel
theorem dX9_init_97 : decode cX9_init 97 = .ok (.aload_n 0, 1) := by decide +kernel
theorem dX9_init_98 : decode cX9_init 98 = .ok (.iconst 4, 1) := by decide +kernel
theorem dX9_init_99 : decode cX9_init 99 = .ok (.newarray .int, 2) := by decide +kernel
theorem dX9_init_101 : decode cX9_init 101 = .ok (.putfield 47, 3) := by decide +kernel
theorem dX9_init_104 : decode cX9_init 104 = .ok (.aload_n 0, 1) := by decide +kernel
theorem dX9_init_105 : decode cX9_init 105 = .ok (.iconst 4, 1) := by decide +kernel
theorem dX9_init_106 : decode cX9_init 106 = .ok (.newarray .int, 2) := by decide +kernel
theorem dX9_init_108 : decode cX9_init 108 = .ok (.putfield 50, 3) := by decide +kernel
theorem dX9_init_111 : decode cX9_init 111 = .ok (.aload_n 0, 1) := by decide +kernel
theorem dX9_init_112 : decode cX9_init 112 = .ok (.sipush 160, 3) := by decide +kernel
theorem dX9_init_115 : decode cX9_init 115 = .ok (.newarray .int, 2) := by decide +kernel
theorem dX9_init_117 : decode cX9_init 117 = .ok (.putfield 53, 3) := by decide +kernel
theorem dX9_init_120 : decode cX9_init 120 = .ok (.aload_n 0, 1) := by decide +kernel
theorem dX9_init_121 : decode cX9_init 121 = .ok (.bipush 40, 2) := by decide +kernel
theorem dX9_init_123 : decode cX9_init 123 = .ok (.newarray .int, 2) := by decide +kernel
theorem dX9_init_125 : decode cX9_init 125 = .ok (.putfield 56, 3) := by decide +kernel
theorem dX9_init_128 : decode cX9_init 128 = .ok (.aload_n 0, 1) := by decide +kernel
theorem dX9_init_129 : decode cX9_init 129 = .ok (.getfield 9, 3) := by decide +kernel
theorem dX9_init_132 : decode cX9_init 132 = .ok (.bipush 6, 2) := by decide +kernel
theorem dX9_init_134 : decode cX9_init 134 = .ok (.iconst 1, 1) := by decide +kernel
theorem dX9_init_135 : decode cX9_init 135 = .ok (.iastore, 1) := by decide +kernel
theorem dX9_init_136 : decode cX9_init 136 = .ok (.aload_n 0, 1) := by decide +kernel
theorem dX9_init_137 : decode cX9_init 137 = .ok (.getfield 9, 3) := by decide +kernel
theorem dX9_init_140 : decode cX9_init 140 = .ok (.iconst 3, 1) := by decide +kernel
theorem dX9_init_141 : decode cX9_init 141 = .ok (.sipush 200, 3) := by decide +kernel
theorem dX9_init_144 : decode cX9_init 144 = .ok (.iastore, 1) := by decide +kernel
theorem dX9_init_145 : decode cX9_init 145 = .ok (.aload_n 0, 1) := by decide +kernel
theorem dX9_init_146 : decode cX9_init 146 = .ok (.bipush 8, 2) := by decide +kernel
theorem dX9_init_148 : decode cX9_init 148 = .ok (.invokevirtual 59, 3) := by decide +kernel
theorem dX9_init_151 : decode cX9_init 151 = .ok (.pop, 1) := by decide +kernel
theorem dX9_init_152 : decode cX9_init 152 = .ok (.return_, 1) := by decide +kernel
theorem dX9_finding_0 : decode cX9_finding 0 = .ok (.aload_n 0, 1) := by decide +kernel
theorem dX9_finding_1 : decode cX9_finding 1 = .ok (.getfield 19, 3) := by decide +kernel
theorem dX9_finding_4 : decode cX9_finding 4 = .ok (.ldc 63, 2) := by decide +kernel
theorem dX9_finding_6 : decode cX9_finding 6 = .ok (.iload_n 1, 1) := by decide +kernel
theorem dX9_finding_7 : decode cX9_finding 7 = .ok (.isub, 1) := by decide +kernel
theorem dX9_finding_8 : decode cX9_finding 8 = .ok (.dup2, 1) := by decide +kernel
theorem dX9_finding_9 : decode cX9_finding 9 = .ok (.iaload, 1) := by decide +kernel
theorem dX9_finding_10 : decode cX9_finding 10 = .ok (.iconst 1, 1) := by decide +kernel
theorem dX9_finding_11 : decode cX9_finding 11 = .ok (.iadd, 1) := by decide +kernel
theorem dX9_finding_12 : decode cX9_finding 12 = .ok (.iastore, 1) := by decide +kernel
theorem dX9_finding_13 : decode cX9_finding 13 = .ok (.iload_n 1, 1) := by decide +kernel
theorem dX9_finding_14 : decode cX9_finding 14 = .ok (.ireturn, 1) := by decide +kernel
theorem dX9_within_0 : decode cX9_within 0 = .ok (.iload_n 0, 1) := by decide +kernel
theorem dX9_within_1 : decode cX9_within 1 = .ok (.iload_n 1, 1) := by decide +kernel
theorem dX9_within_2 : decode cX9_within 2 = .ok (.if_icmp .lt 12, 3) := by decide +kernel
theorem dX9_within_5 : decode cX9_within 5 = .ok (.iload_n 0, 1) := by decide +kernel
theorem dX9_within_6 : decode cX9_within 6 = .ok (.iload_n 2, 1) := by decide +kernel
theorem dX9_within_7 : decode cX9_within 7 = .ok (.if_icmp .gt 7, 3) := by decide +kernel
theorem dX9_within_10 : decode cX9_within 10 = .ok (.iconst 1, 1) := by decide +kernel
theorem dX9_within_11 : decode cX9_within 11 = .ok (.goto 4, 3) := by decide +kernel
theorem dX9_within_14 : decode cX9_within 14 = .ok (.iconst 0, 1) := by decide +kernel
theorem dX9_within_15 : decode cX9_within 15 = .ok (.ireturn, 1) := by decide +kernel
theorem dX9_held_0 : decode cX9_held 0 = .ok (.iload_n 1, 1) := by decide +kernel
theorem dX9_held_1 : decode cX9_held 1 = .ok (.iload_n 2, 1) := by decide +kernel
theorem dX9_held_2 : decode cX9_held 2 = .ok (.iload_n 0, 1) := by decide +kernel
theorem dX9_held_3 : decode cX9_held 3 = .ok (.invokestatic 64, 3) := by decide +kernel
theorem dX9_held_6 : decode cX9_held 6 = .ok (.invokestatic 70, 3) := by decide +kernel
theorem dX9_held_9 : decode cX9_held 9 = .ok (.ireturn, 1) := by decide +kernel
theorem dX9_copy_0 : decode cX9_copy 0 = .ok (.iconst 0, 1) := by decide +kernel
theorem dX9_copy_1 : decode cX9_copy 1 = .ok (.istore_n 2, 1) := by decide +kernel
theorem dX9_copy_2 : decode cX9_copy 2 = .ok (.iload_n 2, 1) := by decide +kernel
theorem dX9_copy_3 : decode cX9_copy 3 = .ok (.sipush 242, 3) := by decide +kernel
theorem dX9_copy_6 : decode cX9_copy 6 = .ok (.if_icmp .ge 15, 3) := by decide +kernel
theorem dX9_copy_9 : decode cX9_copy 9 = .ok (.aload_n 1, 1) := by decide +kernel
theorem dX9_copy_10 : decode cX9_copy 10 = .ok (.iload_n 2, 1) := by decide +kernel
theorem dX9_copy_11 : decode cX9_copy 11 = .ok (.aload_n 0, 1) := by decide +kernel
theorem dX9_copy_12 : decode cX9_copy 12 = .ok (.iload_n 2, 1) := by decide +kernel
theorem dX9_copy_13 : decode cX9_copy 13 = .ok (.iaload, 1) := by decide +kernel
theorem dX9_copy_14 : decode cX9_copy 14 = .ok (.iastore, 1) := by decide +kernel
theorem dX9_copy_15 : decode cX9_copy 15 = .ok (.iinc 2 1, 3) := by decide +kernel
theorem dX9_copy_18 : decode cX9_copy 18 = .ok (.goto (-16), 3) := by decide +kernel
theorem dX9_copy_21 : decode cX9_copy 21 = .ok (.return_, 1) := by decide +kernel
theorem dX9_turn_0 : decode cX9_turn 0 = .ok (.aload_n 0, 1) := by decide +kernel
theorem dX9_turn_1 : decode cX9_turn 1 = .ok (.getfield 9, 3) := by decide +kernel
theorem dX9_turn_4 : decode cX9_turn 4 = .ok (.iload_n 1, 1) := by decide +kernel
theorem dX9_turn_5 : decode cX9_turn 5 = .ok (.iaload, 1) := by decide +kernel
theorem dX9_turn_6 : decode cX9_turn 6 = .ok (.istore_n 3, 1) := by decide +kernel
theorem dX9_turn_7 : decode cX9_turn 7 = .ok (.aload_n 0, 1) := by decide +kernel
theorem dX9_turn_8 : decode cX9_turn 8 = .ok (.getfield 9, 3) := by decide +kernel
theorem dX9_turn_11 : decode cX9_turn 11 = .ok (.iload_n 1, 1) := by decide +kernel
theorem dX9_turn_12 : decode cX9_turn 12 = .ok (.iload_n 2, 1) := by decide +kernel
theorem dX9_turn_13 : decode cX9_turn 13 = .ok (.iastore, 1) := by decide +kernel
theorem dX9_turn_14 : decode cX9_turn 14 = .ok (.iload_n 3, 1) := by decide +kernel
theorem dX9_turn_15 : decode cX9_turn 15 = .ok (.ireturn, 1) := by decide +kernel
theorem dX9_putBack_0 : decode cX9_putBack 0 = .ok (.aload_n 0, 1) := by decide +kernel
theorem dX9_putBack_1 : decode cX9_putBack 1 = .ok (.getfield 16, 3) := by decide +kernel
theorem dX9_putBack_4 : decode cX9_putBack 4 = .ok (.aload_n 0, 1) := by decide +kernel
theorem dX9_putBack_5 : decode cX9_putBack 5 = .ok (.getfield 9, 3) := by decide +kernel
theorem dX9_putBack_8 : decode cX9_putBack 8 = .ok (.invokestatic 73, 3) := by decide +kernel
theorem dX9_putBack_11 : decode cX9_putBack 11 = .ok (.iload_n 1, 1) := by decide +kernel
theorem dX9_putBack_12 : decode cX9_putBack 12 = .ok (.ireturn, 1) := by decide +kernel
theorem dX9_feed_0 : decode cX9_feed 0 = .ok (.iload_n 3, 1) := by decide +kernel
theorem dX9_feed_1 : decode cX9_feed 1 = .ok (.iconst 1, 1) := by decide +kernel
theorem dX9_feed_2 : decode cX9_feed 2 = .ok (.bipush 8, 2) := by decide +kernel
theorem dX9_feed_4 : decode cX9_feed 4 = .ok (.invokestatic 77, 3) := by decide +kernel
theorem dX9_feed_7 : decode cX9_feed 7 = .ok (.ifCond .ne 10, 3) := by decide +kernel
theorem dX9_feed_10 : decode cX9_feed 10 = .ok (.aload_n 0, 1) := by decide +kernel
theorem dX9_feed_11 : decode cX9_feed 11 = .ok (.ldc 81, 2) := by decide +kernel
theorem dX9_feed_13 : decode cX9_feed 13 = .ok (.invokevirtual 82, 3) := by decide +kernel
theorem dX9_feed_16 : decode cX9_feed 16 = .ok (.ireturn, 1) := by decide +kernel
theorem dX9_feed_17 : decode cX9_feed 17 = .ok (.aload_n 0, 1) := by decide +kernel
theorem dX9_feed_18 : decode cX9_feed 18 = .ok (.getfield 9, 3) := by decide +kernel
theorem dX9_feed_21 : decode cX9_feed 21 = .ok (.bipush 7, 2) := by decide +kernel
theorem dX9_feed_23 : decode cX9_feed 23 = .ok (.iaload, 1) := by decide +kernel
theorem dX9_feed_24 : decode cX9_feed 24 = .ok (.iload_n 3, 1) := by decide +kernel
theorem dX9_feed_25 : decode cX9_feed 25 = .ok (.iadd, 1) := by decide +kernel
theorem dX9_feed_26 : decode cX9_feed 26 = .ok (.bipush 50, 2) := by decide +kernel
theorem dX9_feed_28 : decode cX9_feed 28 = .ok (.if_icmp .le 10, 3) := by decide +kernel
theorem dX9_feed_31 : decode cX9_feed 31 = .ok (.aload_n 0, 1) := by decide +kernel
theorem dX9_feed_32 : decode cX9_feed 32 = .ok (.ldc 85, 2) := by decide +kernel
theorem dX9_feed_34 : decode cX9_feed 34 = .ok (.invokevirtual 82, 3) := by decide +kernel
theorem dX9_feed_37 : decode cX9_feed 37 = .ok (.ireturn, 1) := by decide +kernel
theorem dX9_feed_38 : decode cX9_feed 38 = .ok (.iconst 0, 1) := by decide +kernel
theorem dX9_feed_39 : decode cX9_feed 39 = .ok (.istore 4, 2) := by decide +kernel
theorem dX9_feed_41 : decode cX9_feed 41 = .ok (.iload 4, 2) := by decide +kernel
theorem dX9_feed_43 : decode cX9_feed 43 = .ok (.iload_n 3, 1) := by decide +kernel
theorem dX9_feed_44 : decode cX9_feed 44 = .ok (.if_icmp .ge 47, 3) := by decide +kernel
theorem dX9_feed_47 : decode cX9_feed 47 = .ok (.aload_n 0, 1) := by decide +kernel
theorem dX9_feed_48 : decode cX9_feed 48 = .ok (.getfield 9, 3) := by decide +kernel
theorem dX9_feed_51 : decode cX9_feed 51 = .ok (.bipush 68, 2) := by decide +kernel
theorem dX9_feed_53 : decode cX9_feed 53 = .ok (.aload_n 0, 1) := by decide +kernel
theorem dX9_feed_54 : decode cX9_feed 54 = .ok (.getfield 9, 3) := by decide +kernel
theorem dX9_feed_57 : decode cX9_feed 57 = .ok (.bipush 7, 2) := by decide +kernel
theorem dX9_feed_59 : decode cX9_feed 59 = .ok (.iaload, 1) := by decide +kernel
theorem dX9_feed_60 : decode cX9_feed 60 = .ok (.iadd, 1) := by decide +kernel
theorem dX9_feed_61 : decode cX9_feed 61 = .ok (.lload_n 1, 1) := by decide +kernel
theorem dX9_feed_62 : decode cX9_feed 62 = .ok (.bipush 8, 2) := by decide +kernel
theorem dX9_feed_64 : decode cX9_feed 64 = .ok (.iload 4, 2) := by decide +kernel
theorem dX9_feed_66 : decode cX9_feed 66 = .ok (.imul, 1) := by decide +kernel
theorem dX9_feed_67 : decode cX9_feed 67 = .ok (.lshr, 1) := by decide +kernel
theorem dX9_feed_68 : decode cX9_feed 68 = .ok (.ldc2_w 86, 3) := by decide +kernel
theorem dX9_feed_71 : decode cX9_feed 71 = .ok (.land, 1) := by decide +kernel
theorem dX9_feed_72 : decode cX9_feed 72 = .ok (.l2i, 1) := by decide +kernel
theorem dX9_feed_73 : decode cX9_feed 73 = .ok (.iastore, 1) := by decide +kernel
theorem dX9_feed_74 : decode cX9_feed 74 = .ok (.aload_n 0, 1) := by decide +kernel
theorem dX9_feed_75 : decode cX9_feed 75 = .ok (.getfield 9, 3) := by decide +kernel
theorem dX9_feed_78 : decode cX9_feed 78 = .ok (.bipush 7, 2) := by decide +kernel
theorem dX9_feed_80 : decode cX9_feed 80 = .ok (.dup2, 1) := by decide +kernel
theorem dX9_feed_81 : decode cX9_feed 81 = .ok (.iaload, 1) := by decide +kernel
theorem dX9_feed_82 : decode cX9_feed 82 = .ok (.iconst 1, 1) := by decide +kernel
theorem dX9_feed_83 : decode cX9_feed 83 = .ok (.iadd, 1) := by decide +kernel
theorem dX9_feed_84 : decode cX9_feed 84 = .ok (.iastore, 1) := by decide +kernel
theorem dX9_feed_85 : decode cX9_feed 85 = .ok (.iinc 4 1, 3) := by decide +kernel
theorem dX9_feed_88 : decode cX9_feed 88 = .ok (.goto (-47), 3) := by decide +kernel
theorem dX9_feed_91 : decode cX9_feed 91 = .ok (.aload_n 0, 1) := by decide +kernel
theorem dX9_feed_92 : decode cX9_feed 92 = .ok (.getfield 9, 3) := by decide +kernel
theorem dX9_feed_95 : decode cX9_feed 95 = .ok (.bipush 7, 2) := by decide +kernel
theorem dX9_feed_97 : decode cX9_feed 97 = .ok (.iaload, 1) := by decide +kernel
theorem dX9_feed_98 : decode cX9_feed 98 = .ok (.ireturn, 1) := by decide +kernel
theorem dX9_here_0 : decode cX9_here 0 = .ok (.aload_n 0, 1) := by decide +kernel
theorem dX9_here_1 : decode cX9_here 1 = .ok (.getfield 88, 3) := by decide +kernel
theorem dX9_here_4 : decode cX9_here 4 = .ok (.ifCond .ne 32, 3) := by decide +kernel
theorem dX9_here_7 : decode cX9_here 7 = .ok (.aload_n 0, 1) := by decide +kernel
theorem dX9_here_8 : decode cX9_here 8 = .ok (.getfield 92, 3) := by decide +kernel
theorem dX9_here_11 : decode cX9_here 11 = .ok (.aload_n 0, 1) := by decide +kernel
theorem dX9_here_12 : decode cX9_here 12 = .ok (.getfield 9, 3) := by decide +kernel
theorem dX9_here_15 : decode cX9_here 15 = .ok (.bipush 7, 2) := by decide +kernel
theorem dX9_here_17 : decode cX9_here 17 = .ok (.iaload, 1) := by decide +kernel
theorem dX9_here_18 : decode cX9_here 18 = .ok (.if_icmp .ge 18, 3) := by decide +kernel
theorem dX9_here_21 : decode cX9_here 21 = .ok (.aload_n 0, 1) := by decide +kernel
theorem dX9_here_22 : decode cX9_here 22 = .ok (.getfield 9, 3) := by decide +kernel
theorem dX9_here_25 : decode cX9_here 25 = .ok (.bipush 68, 2) := by decide +kernel
theorem dX9_here_27 : decode cX9_here 27 = .ok (.aload_n 0, 1) := by decide +kernel
theorem dX9_here_28 : decode cX9_here 28 = .ok (.getfield 92, 3) := by decide +kernel
theorem dX9_here_31 : decode cX9_here 31 = .ok (.iadd, 1) := by decide +kernel
theorem dX9_here_32 : decode cX9_here 32 = .ok (.iaload, 1) := by decide +kernel
theorem dX9_here_33 : decode cX9_here 33 = .ok (.goto 4, 3) := by decide +kernel
theorem dX9_here_36 : decode cX9_here 36 = .ok (.iconst (-1), 1) := by decide +kernel
theorem dX9_here_37 : decode cX9_here 37 = .ok (.ireturn, 1) := by decide +kernel
theorem dX9_takes_0 : decode cX9_takes 0 = .ok (.aload_n 0, 1) := by decide +kernel
theorem dX9_takes_1 : decode cX9_takes 1 = .ok (.invokevirtual 96, 3) := by decide +kernel
theorem dX9_takes_4 : decode cX9_takes 4 = .ok (.iload_n 1, 1) := by decide +kernel
theorem dX9_takes_5 : decode cX9_takes 5 = .ok (.if_icmp .ne 7, 3) := by decide +kernel
theorem dX9_takes_8 : decode cX9_takes 8 = .ok (.iconst 1, 1) := by decide +kernel
theorem dX9_takes_9 : decode cX9_takes 9 = .ok (.goto 4, 3) := by decide +kernel
theorem dX9_takes_12 : decode cX9_takes 12 = .ok (.iconst 0, 1) := by decide +kernel
theorem dX9_takes_13 : decode cX9_takes 13 = .ok (.istore_n 2, 1) := by decide +kernel
theorem dX9_takes_14 : decode cX9_takes 14 = .ok (.aload_n 0, 1) := by decide +kernel
theorem dX9_takes_15 : decode cX9_takes 15 = .ok (.dup, 1) := by decide +kernel
theorem dX9_takes_16 : decode cX9_takes 16 = .ok (.getfield 92, 3) := by decide +kernel
theorem dX9_takes_19 : decode cX9_takes 19 = .ok (.iload_n 2, 1) := by decide +kernel
theorem dX9_takes_20 : decode cX9_takes 20 = .ok (.ifCond .eq 7, 3) := by decide +kernel
theorem dX9_takes_23 : decode cX9_takes 23 = .ok (.iconst 1, 1) := by decide +kernel
theorem dX9_takes_24 : decode cX9_takes 24 = .ok (.goto 4, 3) := by decide +kernel
theorem dX9_takes_27 : decode cX9_takes 27 = .ok (.iconst 0, 1) := by decide +kernel
theorem dX9_takes_28 : decode cX9_takes 28 = .ok (.iadd, 1) := by decide +kernel
theorem dX9_takes_29 : decode cX9_takes 29 = .ok (.putfield 92, 3) := by decide +kernel
theorem dX9_takes_32 : decode cX9_takes 32 = .ok (.iload_n 2, 1) := by decide +kernel
theorem dX9_takes_33 : decode cX9_takes 33 = .ok (.ireturn, 1) := by decide +kernel
theorem dX9_codes_0 : decode cX9_codes 0 = .ok (.aload_n 0, 1) := by decide +kernel
theorem dX9_codes_1 : decode cX9_codes 1 = .ok (.getfield 88, 3) := by decide +kernel
theorem dX9_codes_4 : decode cX9_codes 4 = .ok (.ifCond .ne 23, 3) := by decide +kernel
theorem dX9_codes_7 : decode cX9_codes 7 = .ok (.aload_n 0, 1) := by decide +kernel
theorem dX9_codes_8 : decode cX9_codes 8 = .ok (.getfield 35, 3) := by decide +kernel
theorem dX9_codes_11 : decode cX9_codes 11 = .ok (.aload_n 0, 1) := by decide +kernel
theorem dX9_codes_12 : decode cX9_codes 12 = .ok (.getfield 100, 3) := by decide +kernel
theorem dX9_codes_15 : decode cX9_codes 15 = .ok (.iload_n 1, 1) := by decide +kernel
theorem dX9_codes_16 : decode cX9_codes 16 = .ok (.iastore, 1) := by decide +kernel
theorem dX9_codes_17 : decode cX9_codes 17 = .ok (.aload_n 0, 1) := by decide +kernel
theorem dX9_codes_18 : decode cX9_codes 18 = .ok (.dup, 1) := by decide +kernel
theorem dX9_codes_19 : decode cX9_codes 19 = .ok (.getfield 100, 3) := by decide +kernel
theorem dX9_codes_22 : decode cX9_codes 22 = .ok (.iconst 1, 1) := by decide +kernel
theorem dX9_codes_23 : decode cX9_codes 23 = .ok (.iadd, 1) := by decide +kernel
theorem dX9_codes_24 : decode cX9_codes 24 = .ok (.putfield 100, 3) := by decide +kernel
theorem dX9_codes_27 : decode cX9_codes 27 = .ok (.return_, 1) := by decide +kernel
theorem dX9_either_0 : decode cX9_either 0 = .ok (.aload_n 0, 1) := by decide +kernel
theorem dX9_either_1 : decode cX9_either 1 = .ok (.invokevirtual 103, 3) := by decide +kernel
theorem dX9_either_4 : decode cX9_either 4 = .ok (.aload_n 0, 1) := by decide +kernel
theorem dX9_either_5 : decode cX9_either 5 = .ok (.bipush 124, 2) := by decide +kernel
theorem dX9_either_7 : decode cX9_either 7 = .ok (.invokevirtual 106, 3) := by decide +kernel
theorem dX9_either_10 : decode cX9_either 10 = .ok (.ifCond .eq 17, 3) := by decide +kernel
theorem dX9_either_13 : decode cX9_either 13 = .ok (.aload_n 0, 1) := by decide +kernel
theorem dX9_either_14 : decode cX9_either 14 = .ok (.invokevirtual 103, 3) := by decide +kernel
theorem dX9_either_17 : decode cX9_either 17 = .ok (.aload_n 0, 1) := by decide +kernel
theorem dX9_either_18 : decode cX9_either 18 = .ok (.sipush 20000, 3) := by decide +kernel
theorem dX9_either_21 : decode cX9_either 21 = .ok (.invokevirtual 110, 3) := by decide +kernel
theorem dX9_either_24 : decode cX9_either 24 = .ok (.goto (-20), 3) := by decide +kernel
theorem dX9_either_27 : decode cX9_either 27 = .ok (.return_, 1) := by decide +kernel
theorem dX9_both_0 : decode cX9_both 0 = .ok (.aload_n 0, 1) := by decide +kernel
theorem dX9_both_1 : decode cX9_both 1 = .ok (.invokevirtual 114, 3) := by decide +kernel
theorem dX9_both_4 : decode cX9_both 4 = .ok (.aload_n 0, 1) := by decide +kernel
theorem dX9_both_5 : decode cX9_both 5 = .ok (.bipush 38, 2) := by decide +kernel
theorem dX9_both_7 : decode cX9_both 7 = .ok (.invokevirtual 106, 3) := by decide +kernel
theorem dX9_both_10 : decode cX9_both 10 = .ok (.ifCond .eq 17, 3) := by decide +kernel
theorem dX9_both_13 : decode cX9_both 13 = .ok (.aload_n 0, 1) := by decide +kernel
theorem dX9_both_14 : decode cX9_both 14 = .ok (.invokevirtual 114, 3) := by decide +kernel
theorem dX9_both_17 : decode cX9_both 17 = .ok (.aload_n 0, 1) := by decide +kernel
theorem dX9_both_18 : decode cX9_both 18 = .ok (.sipush 20001, 3) := by decide +kernel
theorem dX9_both_21 : decode cX9_both 21 = .ok (.invokevirtual 110, 3) := by decide +kernel
theorem dX9_both_24 : decode cX9_both 24 = .ok (.goto (-20), 3) := by decide +kernel
theorem dX9_both_27 : decode cX9_both 27 = .ok (.return_, 1) := by decide +kernel
theorem dX9_compared_0 : decode cX9_compared 0 = .ok (.aload_n 0, 1) := by decide +kernel
theorem dX9_compared_1 : decode cX9_compared 1 = .ok (.invokevirtual 117, 3) := by decide +kernel
theorem dX9_compared_4 : decode cX9_compared 4 = .ok (.aload_n 0, 1) := by decide +kernel
theorem dX9_compared_5 : decode cX9_compared 5 = .ok (.bipush 60, 2) := by decide +kernel
theorem dX9_compared_7 : decode cX9_compared 7 = .ok (.invokevirtual 106, 3) := by decide +kernel
theorem dX9_compared_10 : decode cX9_compared 10 = .ok (.ifCond .eq 9, 3) := by decide +kernel
theorem dX9_compared_13 : decode cX9_compared 13 = .ok (.sipush 20002, 3) := by decide +kernel
theorem dX9_compared_16 : decode cX9_compared 16 = .ok (.goto 34, 3) := by decide +kernel
theorem dX9_compared_19 : decode cX9_compared 19 = .ok (.aload_n 0, 1) := by decide +kernel
theorem dX9_compared_20 : decode cX9_compared 20 = .ok (.bipush 61, 2) := by decide +kernel
theorem dX9_compared_22 : decode cX9_compared 22 = .ok (.invokevirtual 106, 3) := by decide +kernel
theorem dX9_compared_25 : decode cX9_compared 25 = .ok (.ifCond .eq 9, 3) := by decide +kernel
theorem dX9_compared_28 : decode cX9_compared 28 = .ok (.sipush 20003, 3) := by decide +kernel
theorem dX9_compared_31 : decode cX9_compared 31 = .ok (.goto 19, 3) := by decide +kernel
theorem dX9_compared_34 : decode cX9_compared 34 = .ok (.aload_n 0, 1) := by decide +kernel
theorem dX9_compared_35 : decode cX9_compared 35 = .ok (.bipush 62, 2) := by decide +kernel
theorem dX9_compared_37 : decode cX9_compared 37 = .ok (.invokevirtual 106, 3) := by decide +kernel
theorem dX9_compared_40 : decode cX9_compared 40 = .ok (.ifCond .eq 9, 3) := by decide +kernel
theorem dX9_compared_43 : decode cX9_compared 43 = .ok (.sipush 20004, 3) := by decide +kernel
theorem dX9_compared_46 : decode cX9_compared 46 = .ok (.goto 4, 3) := by decide +kernel
theorem dX9_compared_49 : decode cX9_compared 49 = .ok (.iconst 0, 1) := by decide +kernel
theorem dX9_compared_50 : decode cX9_compared 50 = .ok (.istore_n 1, 1) := by decide +kernel
theorem dX9_compared_51 : decode cX9_compared 51 = .ok (.iload_n 1, 1) := by decide +kernel
theorem dX9_compared_52 : decode cX9_compared 52 = .ok (.ifCond .le 12, 3) := by decide +kernel
theorem dX9_compared_55 : decode cX9_compared 55 = .ok (.aload_n 0, 1) := by decide +kernel
theorem dX9_compared_56 : decode cX9_compared 56 = .ok (.invokevirtual 117, 3) := by decide +kernel
theorem dX9_compared_59 : decode cX9_compared 59 = .ok (.aload_n 0, 1) := by decide +kernel
theorem dX9_compared_60 : decode cX9_compared 60 = .ok (.iload_n 1, 1) := by decide +kernel
theorem dX9_compared_61 : decode cX9_compared 61 = .ok (.invokevirtual 110, 3) := by decide +kernel
theorem dX9_compared_64 : decode cX9_compared 64 = .ok (.return_, 1) := by decide +kernel
theorem dX9_sum_0 : decode cX9_sum 0 = .ok (.aload_n 0, 1) := by decide +kernel
theorem dX9_sum_1 : decode cX9_sum 1 = .ok (.invokevirtual 120, 3) := by decide +kernel
theorem dX9_sum_4 : decode cX9_sum 4 = .ok (.aload_n 0, 1) := by decide +kernel
theorem dX9_sum_5 : decode cX9_sum 5 = .ok (.bipush 43, 2) := by decide +kernel
theorem dX9_sum_7 : decode cX9_sum 7 = .ok (.invokevirtual 106, 3) := by decide +kernel
theorem dX9_sum_10 : decode cX9_sum 10 = .ok (.ifCond .eq 9, 3) := by decide +kernel
theorem dX9_sum_13 : decode cX9_sum 13 = .ok (.sipush 20005, 3) := by decide +kernel
theorem dX9_sum_16 : decode cX9_sum 16 = .ok (.goto 19, 3) := by decide +kernel
theorem dX9_sum_19 : decode cX9_sum 19 = .ok (.aload_n 0, 1) := by decide +kernel
theorem dX9_sum_20 : decode cX9_sum 20 = .ok (.bipush 45, 2) := by decide +kernel
theorem dX9_sum_22 : decode cX9_sum 22 = .ok (.invokevirtual 106, 3) := by decide +kernel
theorem dX9_sum_25 : decode cX9_sum 25 = .ok (.ifCond .eq 9, 3) := by decide +kernel
theorem dX9_sum_28 : decode cX9_sum 28 = .ok (.sipush 20006, 3) := by decide +kernel
theorem dX9_sum_31 : decode cX9_sum 31 = .ok (.goto 4, 3) := by decide +kernel
theorem dX9_sum_34 : decode cX9_sum 34 = .ok (.iconst 0, 1) := by decide +kernel
theorem dX9_sum_35 : decode cX9_sum 35 = .ok (.istore_n 1, 1) := by decide +kernel
theorem dX9_sum_36 : decode cX9_sum 36 = .ok (.iload_n 1, 1) := by decide +kernel
theorem dX9_sum_37 : decode cX9_sum 37 = .ok (.ifCond .le 47, 3) := by decide +kernel
theorem dX9_sum_40 : decode cX9_sum 40 = .ok (.aload_n 0, 1) := by decide +kernel
theorem dX9_sum_41 : decode cX9_sum 41 = .ok (.invokevirtual 120, 3) := by decide +kernel
theorem dX9_sum_44 : decode cX9_sum 44 = .ok (.aload_n 0, 1) := by decide +kernel
theorem dX9_sum_45 : decode cX9_sum 45 = .ok (.iload_n 1, 1) := by decide +kernel
theorem dX9_sum_46 : decode cX9_sum 46 = .ok (.invokevirtual 110, 3) := by decide +kernel
theorem dX9_sum_49 : decode cX9_sum 49 = .ok (.aload_n 0, 1) := by decide +kernel
theorem dX9_sum_50 : decode cX9_sum 50 = .ok (.bipush 43, 2) := by decide +kernel
theorem dX9_sum_52 : decode cX9_sum 52 = .ok (.invokevirtual 106, 3) := by decide +kernel
theorem dX9_sum_55 : decode cX9_sum 55 = .ok (.ifCond .eq 9, 3) := by decide +kernel
theorem dX9_sum_58 : decode cX9_sum 58 = .ok (.sipush 20005, 3) := by decide +kernel
theorem dX9_sum_61 : decode cX9_sum 61 = .ok (.goto 19, 3) := by decide +kernel
theorem dX9_sum_64 : decode cX9_sum 64 = .ok (.aload_n 0, 1) := by decide +kernel
theorem dX9_sum_65 : decode cX9_sum 65 = .ok (.bipush 45, 2) := by decide +kernel
theorem dX9_sum_67 : decode cX9_sum 67 = .ok (.invokevirtual 106, 3) := by decide +kernel
theorem dX9_sum_70 : decode cX9_sum 70 = .ok (.ifCond .eq 9, 3) := by decide +kernel
theorem dX9_sum_73 : decode cX9_sum 73 = .ok (.sipush 20006, 3) := by decide +kernel
theorem dX9_sum_76 : decode cX9_sum 76 = .ok (.goto 4, 3) := by decide +kernel
theorem dX9_sum_79 : decode cX9_sum 79 = .ok (.iconst 0, 1) := by decide +kernel
theorem dX9_sum_80 : decode cX9_sum 80 = .ok (.istore_n 1, 1) := by decide +kernel
theorem dX9_sum_81 : decode cX9_sum 81 = .ok (.goto (-45), 3) := by decide +kernel
theorem dX9_sum_84 : decode cX9_sum 84 = .ok (.return_, 1) := by decide +kernel
theorem dX9_product_0 : decode cX9_product 0 = .ok (.aload_n 0, 1) := by decide +kernel
theorem dX9_product_1 : decode cX9_product 1 = .ok (.invokevirtual 123, 3) := by decide +kernel
theorem dX9_product_4 : decode cX9_product 4 = .ok (.aload_n 0, 1) := by decide +kernel
theorem dX9_product_5 : decode cX9_product 5 = .ok (.bipush 42, 2) := by decide +kernel
theorem dX9_product_7 : decode cX9_product 7 = .ok (.invokevirtual 106, 3) := by decide +kernel
theorem dX9_product_10 : decode cX9_product 10 = .ok (.ifCond .eq 9, 3) := by decide +kernel
theorem dX9_product_13 : decode cX9_product 13 = .ok (.sipush 20007, 3) := by decide +kernel
theorem dX9_product_16 : decode cX9_product 16 = .ok (.goto 34, 3) := by decide +kernel
theorem dX9_product_19 : decode cX9_product 19 = .ok (.aload_n 0, 1) := by decide +kernel
theorem dX9_product_20 : decode cX9_product 20 = .ok (.bipush 47, 2) := by decide +kernel
theorem dX9_product_22 : decode cX9_product 22 = .ok (.invokevirtual 106, 3) := by decide +kernel
theorem dX9_product_25 : decode cX9_product 25 = .ok (.ifCond .eq 9, 3) := by decide +kernel
theorem dX9_product_28 : decode cX9_product 28 = .ok (.sipush 20008, 3) := by decide +kernel
theorem dX9_product_31 : decode cX9_product 31 = .ok (.goto 19, 3) := by decide +kernel
theorem dX9_product_34 : decode cX9_product 34 = .ok (.aload_n 0, 1) := by decide +kernel
theorem dX9_product_35 : decode cX9_product 35 = .ok (.bipush 37, 2) := by decide +kernel
theorem dX9_product_37 : decode cX9_product 37 = .ok (.invokevirtual 106, 3) := by decide +kernel
theorem dX9_product_40 : decode cX9_product 40 = .ok (.ifCond .eq 9, 3) := by decide +kernel
theorem dX9_product_43 : decode cX9_product 43 = .ok (.sipush 20009, 3) := by decide +kernel
theorem dX9_product_46 : decode cX9_product 46 = .ok (.goto 4, 3) := by decide +kernel
theorem dX9_product_49 : decode cX9_product 49 = .ok (.iconst 0, 1) := by decide +kernel
theorem dX9_product_50 : decode cX9_product 50 = .ok (.istore_n 1, 1) := by decide +kernel
theorem dX9_product_51 : decode cX9_product 51 = .ok (.iload_n 1, 1) := by decide +kernel
theorem dX9_product_52 : decode cX9_product 52 = .ok (.ifCond .le 62, 3) := by decide +kernel
theorem dX9_product_55 : decode cX9_product 55 = .ok (.aload_n 0, 1) := by decide +kernel
theorem dX9_product_56 : decode cX9_product 56 = .ok (.invokevirtual 123, 3) := by decide +kernel
theorem dX9_product_59 : decode cX9_product 59 = .ok (.aload_n 0, 1) := by decide +kernel
theorem dX9_product_60 : decode cX9_product 60 = .ok (.iload_n 1, 1) := by decide +kernel
theorem dX9_product_61 : decode cX9_product 61 = .ok (.invokevirtual 110, 3) := by decide +kernel
theorem dX9_product_64 : decode cX9_product 64 = .ok (.aload_n 0, 1) := by decide +kernel
theorem dX9_product_65 : decode cX9_product 65 = .ok (.bipush 42, 2) := by decide +kernel
theorem dX9_product_67 : decode cX9_product 67 = .ok (.invokevirtual 106, 3) := by decide +kernel
theorem dX9_product_70 : decode cX9_product 70 = .ok (.ifCond .eq 9, 3) := by decide +kernel
theorem dX9_product_73 : decode cX9_product 73 = .ok (.sipush 20007, 3) := by decide +kernel
theorem dX9_product_76 : decode cX9_product 76 = .ok (.goto 34, 3) := by decide +kernel
theorem dX9_product_79 : decode cX9_product 79 = .ok (.aload_n 0, 1) := by decide +kernel
theorem dX9_product_80 : decode cX9_product 80 = .ok (.bipush 47, 2) := by decide +kernel
theorem dX9_product_82 : decode cX9_product 82 = .ok (.invokevirtual 106, 3) := by decide +kernel
theorem dX9_product_85 : decode cX9_product 85 = .ok (.ifCond .eq 9, 3) := by decide +kernel
theorem dX9_product_88 : decode cX9_product 88 = .ok (.sipush 20008, 3) := by decide +kernel
theorem dX9_product_91 : decode cX9_product 91 = .ok (.goto 19, 3) := by decide +kernel
theorem dX9_product_94 : decode cX9_product 94 = .ok (.aload_n 0, 1) := by decide +kernel
theorem dX9_product_95 : decode cX9_product 95 = .ok (.bipush 37, 2) := by decide +kernel
theorem dX9_product_97 : decode cX9_product 97 = .ok (.invokevirtual 106, 3) := by decide +kernel
theorem dX9_product_100 : decode cX9_product 100 = .ok (.ifCond .eq 9, 3) := by decide +kernel
theorem dX9_product_103 : decode cX9_product 103 = .ok (.sipush 20009, 3) := by decide +kernel
theorem dX9_product_106 : decode cX9_product 106 = .ok (.goto 4, 3) := by decide +kernel
theorem dX9_product_109 : decode cX9_product 109 = .ok (.iconst 0, 1) := by decide +kernel
theorem dX9_product_110 : decode cX9_product 110 = .ok (.istore_n 1, 1) := by decide +kernel
theorem dX9_product_111 : decode cX9_product 111 = .ok (.goto (-60), 3) := by decide +kernel
theorem dX9_product_114 : decode cX9_product 114 = .ok (.return_, 1) := by decide +kernel
theorem dX9_nameOf_0 : decode cX9_nameOf 0 = .ok (.iconst (-1), 1) := by decide +kernel
theorem dX9_nameOf_1 : decode cX9_nameOf 1 = .ok (.istore_n 2, 1) := by decide +kernel
theorem dX9_nameOf_2 : decode cX9_nameOf 2 = .ok (.iconst 0, 1) := by decide +kernel
theorem dX9_nameOf_3 : decode cX9_nameOf 3 = .ok (.istore_n 3, 1) := by decide +kernel
theorem dX9_nameOf_4 : decode cX9_nameOf 4 = .ok (.iload_n 3, 1) := by decide +kernel
theorem dX9_nameOf_5 : decode cX9_nameOf 5 = .ok (.aload_n 0, 1) := by decide +kernel
theorem dX9_nameOf_6 : decode cX9_nameOf 6 = .ok (.getfield 31, 3) := by decide +kernel
theorem dX9_nameOf_9 : decode cX9_nameOf 9 = .ok (.aload_n 0, 1) := by decide +kernel
theorem dX9_nameOf_10 : decode cX9_nameOf 10 = .ok (.getfield 126, 3) := by decide +kernel
theorem dX9_nameOf_13 : decode cX9_nameOf 13 = .ok (.aaload, 1) := by decide +kernel
theorem dX9_nameOf_14 : decode cX9_nameOf 14 = .ok (.invokevirtual 129, 3) := by decide +kernel
theorem dX9_nameOf_17 : decode cX9_nameOf 17 = .ok (.if_icmp .ge 32, 3) := by decide +kernel
theorem dX9_nameOf_20 : decode cX9_nameOf 20 = .ok (.aload_n 0, 1) := by decide +kernel
theorem dX9_nameOf_21 : decode cX9_nameOf 21 = .ok (.getfield 31, 3) := by decide +kernel
theorem dX9_nameOf_24 : decode cX9_nameOf 24 = .ok (.aload_n 0, 1) := by decide +kernel
theorem dX9_nameOf_25 : decode cX9_nameOf 25 = .ok (.getfield 126, 3) := by decide +kernel
theorem dX9_nameOf_28 : decode cX9_nameOf 28 = .ok (.aaload, 1) := by decide +kernel
theorem dX9_nameOf_29 : decode cX9_nameOf 29 = .ok (.iload_n 3, 1) := by decide +kernel
theorem dX9_nameOf_30 : decode cX9_nameOf 30 = .ok (.invokevirtual 132, 3) := by decide +kernel
theorem dX9_nameOf_33 : decode cX9_nameOf 33 = .ok (.iload_n 1, 1) := by decide +kernel
theorem dX9_nameOf_34 : decode cX9_nameOf 34 = .ok (.if_icmp .ne 7, 3) := by decide +kernel
theorem dX9_nameOf_37 : decode cX9_nameOf 37 = .ok (.iload_n 3, 1) := by decide +kernel
theorem dX9_nameOf_38 : decode cX9_nameOf 38 = .ok (.goto 4, 3) := by decide +kernel
theorem dX9_nameOf_41 : decode cX9_nameOf 41 = .ok (.iload_n 2, 1) := by decide +kernel
theorem dX9_nameOf_42 : decode cX9_nameOf 42 = .ok (.istore_n 2, 1) := by decide +kernel
theorem dX9_nameOf_43 : decode cX9_nameOf 43 = .ok (.iinc 3 1, 3) := by decide +kernel
theorem dX9_nameOf_46 : decode cX9_nameOf 46 = .ok (.goto (-42), 3) := by decide +kernel
theorem dX9_nameOf_49 : decode cX9_nameOf 49 = .ok (.iload_n 2, 1) := by decide +kernel
theorem dX9_nameOf_50 : decode cX9_nameOf 50 = .ok (.ireturn, 1) := by decide +kernel
theorem dX9_one_0 : decode cX9_one 0 = .ok (.aload_n 0, 1) := by decide +kernel
theorem dX9_one_1 : decode cX9_one 1 = .ok (.invokevirtual 96, 3) := by decide +kernel
theorem dX9_one_4 : decode cX9_one 4 = .ok (.istore_n 1, 1) := by decide +kernel
theorem dX9_one_5 : decode cX9_one 5 = .ok (.iload_n 1, 1) := by decide +kernel
theorem dX9_one_6 : decode cX9_one 6 = .ok (.bipush 33, 2) := by decide +kernel
theorem dX9_one_8 : decode cX9_one 8 = .ok (.if_icmp .eq 9, 3) := by decide +kernel
theorem dX9_one_11 : decode cX9_one 11 = .ok (.iload_n 1, 1) := by decide +kernel
theorem dX9_one_12 : decode cX9_one 12 = .ok (.bipush 40, 2) := by decide +kernel
theorem dX9_one_14 : decode cX9_one 14 = .ok (.if_icmp .ne 102, 3) := by decide +kernel
theorem dX9_one_17 : decode cX9_one 17 = .ok (.aload_n 0, 1) := by decide +kernel
theorem dX9_one_18 : decode cX9_one 18 = .ok (.aload_n 0, 1) := by decide +kernel
theorem dX9_one_19 : decode cX9_one 19 = .ok (.getfield 136, 3) := by decide +kernel
theorem dX9_one_22 : decode cX9_one 22 = .ok (.iconst 5, 1) := by decide +kernel
theorem dX9_one_23 : decode cX9_one 23 = .ok (.if_icmp .ne 7, 3) := by decide +kernel
theorem dX9_one_26 : decode cX9_one 26 = .ok (.iconst 1, 1) := by decide +kernel
theorem dX9_one_27 : decode cX9_one 27 = .ok (.goto 4, 3) := by decide +kernel
theorem dX9_one_30 : decode cX9_one 30 = .ok (.iconst 0, 1) := by decide +kernel
theorem dX9_one_31 : decode cX9_one 31 = .ok (.putfield 88, 3) := by decide +kernel
theorem dX9_one_34 : decode cX9_one 34 = .ok (.aload_n 0, 1) := by decide +kernel
theorem dX9_one_35 : decode cX9_one 35 = .ok (.getfield 88, 3) := by decide +kernel
theorem dX9_one_38 : decode cX9_one 38 = .ok (.ifCond .ne 209, 3) := by decide +kernel
theorem dX9_one_41 : decode cX9_one 41 = .ok (.aload_n 0, 1) := by decide +kernel
theorem dX9_one_42 : decode cX9_one 42 = .ok (.dup, 1) := by decide +kernel
theorem dX9_one_43 : decode cX9_one 43 = .ok (.getfield 136, 3) := by decide +kernel
theorem dX9_one_46 : decode cX9_one 46 = .ok (.iconst 1, 1) := by decide +kernel
theorem dX9_one_47 : decode cX9_one 47 = .ok (.iadd, 1) := by decide +kernel
theorem dX9_one_48 : decode cX9_one 48 = .ok (.putfield 136, 3) := by decide +kernel
theorem dX9_one_51 : decode cX9_one 51 = .ok (.aload_n 0, 1) := by decide +kernel
theorem dX9_one_52 : decode cX9_one 52 = .ok (.dup, 1) := by decide +kernel
theorem dX9_one_53 : decode cX9_one 53 = .ok (.getfield 92, 3) := by decide +kernel
theorem dX9_one_56 : decode cX9_one 56 = .ok (.iconst 1, 1) := by decide +kernel
theorem dX9_one_57 : decode cX9_one 57 = .ok (.iadd, 1) := by decide +kernel
theorem dX9_one_58 : decode cX9_one 58 = .ok (.putfield 92, 3) := by decide +kernel
theorem dX9_one_61 : decode cX9_one 61 = .ok (.iload_n 1, 1) := by decide +kernel
theorem dX9_one_62 : decode cX9_one 62 = .ok (.bipush 33, 2) := by decide +kernel
theorem dX9_one_64 : decode cX9_one 64 = .ok (.if_icmp .ne 17, 3) := by decide +kernel
theorem dX9_one_67 : decode cX9_one 67 = .ok (.aload_n 0, 1) := by decide +kernel
theorem dX9_one_68 : decode cX9_one 68 = .ok (.invokevirtual 123, 3) := by decide +kernel
theorem dX9_one_71 : decode cX9_one 71 = .ok (.aload_n 0, 1) := by decide +kernel
theorem dX9_one_72 : decode cX9_one 72 = .ok (.sipush 20010, 3) := by decide +kernel
theorem dX9_one_75 : decode cX9_one 75 = .ok (.invokevirtual 110, 3) := by decide +kernel
theorem dX9_one_78 : decode cX9_one 78 = .ok (.goto 25, 3) := by decide +kernel
theorem dX9_one_81 : decode cX9_one 81 = .ok (.aload_n 0, 1) := by decide +kernel
theorem dX9_one_82 : decode cX9_one 82 = .ok (.invokevirtual 139, 3) := by decide +kernel
theorem dX9_one_85 : decode cX9_one 85 = .ok (.aload_n 0, 1) := by decide +kernel
theorem dX9_one_86 : decode cX9_one 86 = .ok (.aload_n 0, 1) := by decide +kernel
theorem dX9_one_87 : decode cX9_one 87 = .ok (.bipush 41, 2) := by decide +kernel
theorem dX9_one_89 : decode cX9_one 89 = .ok (.invokevirtual 106, 3) := by decide +kernel
theorem dX9_one_92 : decode cX9_one 92 = .ok (.ifCond .ne 7, 3) := by decide +kernel
theorem dX9_one_95 : decode cX9_one 95 = .ok (.iconst 1, 1) := by decide +kernel
theorem dX9_one_96 : decode cX9_one 96 = .ok (.goto 4, 3) := by decide +kernel
theorem dX9_one_99 : decode cX9_one 99 = .ok (.iconst 0, 1) := by decide +kernel
theorem dX9_one_100 : decode cX9_one 100 = .ok (.putfield 88, 3) := by decide +kernel
theorem dX9_one_103 : decode cX9_one 103 = .ok (.aload_n 0, 1) := by decide +kernel
theorem dX9_one_104 : decode cX9_one 104 = .ok (.dup, 1) := by decide +kernel
theorem dX9_one_105 : decode cX9_one 105 = .ok (.getfield 136, 3) := by decide +kernel
theorem dX9_one_108 : decode cX9_one 108 = .ok (.iconst 1, 1) := by decide +kernel
theorem dX9_one_109 : decode cX9_one 109 = .ok (.isub, 1) := by decide +kernel
theorem dX9_one_110 : decode cX9_one 110 = .ok (.putfield 136, 3) := by decide +kernel
theorem dX9_one_113 : decode cX9_one 113 = .ok (.goto 134, 3) := by decide +kernel
theorem dX9_one_116 : decode cX9_one 116 = .ok (.iload_n 1, 1) := by decide +kernel
theorem dX9_one_117 : decode cX9_one 117 = .ok (.bipush 48, 2) := by decide +kernel
theorem dX9_one_119 : decode cX9_one 119 = .ok (.bipush 57, 2) := by decide +kernel
theorem dX9_one_121 : decode cX9_one 121 = .ok (.invokestatic 77, 3) := by decide +kernel
theorem dX9_one_124 : decode cX9_one 124 = .ok (.ifCond .eq 63, 3) := by decide +kernel
theorem dX9_one_127 : decode cX9_one 127 = .ok (.iconst 0, 1) := by decide +kernel
theorem dX9_one_128 : decode cX9_one 128 = .ok (.istore_n 2, 1) := by decide +kernel
theorem dX9_one_129 : decode cX9_one 129 = .ok (.iconst 0, 1) := by decide +kernel
theorem dX9_one_130 : decode cX9_one 130 = .ok (.istore_n 3, 1) := by decide +kernel
theorem dX9_one_131 : decode cX9_one 131 = .ok (.iload_n 3, 1) := by decide +kernel
theorem dX9_one_132 : decode cX9_one 132 = .ok (.iconst 4, 1) := by decide +kernel
theorem dX9_one_133 : decode cX9_one 133 = .ok (.if_icmp .ge 46, 3) := by decide +kernel
theorem dX9_one_136 : decode cX9_one 136 = .ok (.aload_n 0, 1) := by decide +kernel
theorem dX9_one_137 : decode cX9_one 137 = .ok (.invokevirtual 96, 3) := by decide +kernel
theorem dX9_one_140 : decode cX9_one 140 = .ok (.bipush 48, 2) := by decide +kernel
theorem dX9_one_142 : decode cX9_one 142 = .ok (.bipush 57, 2) := by decide +kernel
theorem dX9_one_144 : decode cX9_one 144 = .ok (.invokestatic 77, 3) := by decide +kernel
theorem dX9_one_147 : decode cX9_one 147 = .ok (.ifCond .eq 32, 3) := by decide +kernel
theorem dX9_one_150 : decode cX9_one 150 = .ok (.bipush 10, 2) := by decide +kernel
theorem dX9_one_152 : decode cX9_one 152 = .ok (.iload_n 2, 1) := by decide +kernel
theorem dX9_one_153 : decode cX9_one 153 = .ok (.imul, 1) := by decide +kernel
theorem dX9_one_154 : decode cX9_one 154 = .ok (.aload_n 0, 1) := by decide +kernel
theorem dX9_one_155 : decode cX9_one 155 = .ok (.invokevirtual 96, 3) := by decide +kernel
theorem dX9_one_158 : decode cX9_one 158 = .ok (.iadd, 1) := by decide +kernel
theorem dX9_one_159 : decode cX9_one 159 = .ok (.bipush 48, 2) := by decide +kernel
theorem dX9_one_161 : decode cX9_one 161 = .ok (.isub, 1) := by decide +kernel
theorem dX9_one_162 : decode cX9_one 162 = .ok (.istore_n 2, 1) := by decide +kernel
theorem dX9_one_163 : decode cX9_one 163 = .ok (.aload_n 0, 1) := by decide +kernel
theorem dX9_one_164 : decode cX9_one 164 = .ok (.dup, 1) := by decide +kernel
theorem dX9_one_165 : decode cX9_one 165 = .ok (.getfield 92, 3) := by decide +kernel
theorem dX9_one_168 : decode cX9_one 168 = .ok (.iconst 1, 1) := by decide +kernel
theorem dX9_one_169 : decode cX9_one 169 = .ok (.iadd, 1) := by decide +kernel
theorem dX9_one_170 : decode cX9_one 170 = .ok (.putfield 92, 3) := by decide +kernel
theorem dX9_one_173 : decode cX9_one 173 = .ok (.iinc 3 1, 3) := by decide +kernel
theorem dX9_one_176 : decode cX9_one 176 = .ok (.goto (-45), 3) := by decide +kernel
theorem dX9_one_179 : decode cX9_one 179 = .ok (.aload_n 0, 1) := by decide +kernel
theorem dX9_one_180 : decode cX9_one 180 = .ok (.iload_n 2, 1) := by decide +kernel
theorem dX9_one_181 : decode cX9_one 181 = .ok (.invokevirtual 110, 3) := by decide +kernel
theorem dX9_one_184 : decode cX9_one 184 = .ok (.goto 63, 3) := by decide +kernel
theorem dX9_one_187 : decode cX9_one 187 = .ok (.iload_n 1, 1) := by decide +kernel
theorem dX9_one_188 : decode cX9_one 188 = .ok (.ifCond .ge 7, 3) := by decide +kernel
theorem dX9_one_191 : decode cX9_one 191 = .ok (.iconst (-1), 1) := by decide +kernel
theorem dX9_one_192 : decode cX9_one 192 = .ok (.goto 8, 3) := by decide +kernel
theorem dX9_one_195 : decode cX9_one 195 = .ok (.aload_n 0, 1) := by decide +kernel
theorem dX9_one_196 : decode cX9_one 196 = .ok (.iload_n 1, 1) := by decide +kernel
theorem dX9_one_197 : decode cX9_one 197 = .ok (.invokevirtual 142, 3) := by decide +kernel
theorem dX9_one_200 : decode cX9_one 200 = .ok (.istore_n 2, 1) := by decide +kernel
theorem dX9_one_201 : decode cX9_one 201 = .ok (.aload_n 0, 1) := by decide +kernel
theorem dX9_one_202 : decode cX9_one 202 = .ok (.aload_n 0, 1) := by decide +kernel
theorem dX9_one_203 : decode cX9_one 203 = .ok (.getfield 88, 3) := by decide +kernel
theorem dX9_one_206 : decode cX9_one 206 = .ok (.ifCond .ne 7, 3) := by decide +kernel
theorem dX9_one_209 : decode cX9_one 209 = .ok (.iload_n 2, 1) := by decide +kernel
theorem dX9_one_210 : decode cX9_one 210 = .ok (.ifCond .ge 7, 3) := by decide +kernel
theorem dX9_one_213 : decode cX9_one 213 = .ok (.iconst 1, 1) := by decide +kernel
theorem dX9_one_214 : decode cX9_one 214 = .ok (.goto 4, 3) := by decide +kernel
theorem dX9_one_217 : decode cX9_one 217 = .ok (.iconst 0, 1) := by decide +kernel
theorem dX9_one_218 : decode cX9_one 218 = .ok (.putfield 88, 3) := by decide +kernel
theorem dX9_one_221 : decode cX9_one 221 = .ok (.aload_n 0, 1) := by decide +kernel
theorem dX9_one_222 : decode cX9_one 222 = .ok (.getfield 88, 3) := by decide +kernel
theorem dX9_one_225 : decode cX9_one 225 = .ok (.ifCond .ne 22, 3) := by decide +kernel
theorem dX9_one_228 : decode cX9_one 228 = .ok (.aload_n 0, 1) := by decide +kernel
theorem dX9_one_229 : decode cX9_one 229 = .ok (.sipush 10000, 3) := by decide +kernel
theorem dX9_one_232 : decode cX9_one 232 = .ok (.iload_n 2, 1) := by decide +kernel
theorem dX9_one_233 : decode cX9_one 233 = .ok (.iadd, 1) := by decide +kernel
theorem dX9_one_234 : decode cX9_one 234 = .ok (.invokevirtual 110, 3) := by decide +kernel
theorem dX9_one_237 : decode cX9_one 237 = .ok (.aload_n 0, 1) := by decide +kernel
theorem dX9_one_238 : decode cX9_one 238 = .ok (.dup, 1) := by decide +kernel
theorem dX9_one_239 : decode cX9_one 239 = .ok (.getfield 92, 3) := by decide +kernel
theorem dX9_one_242 : decode cX9_one 242 = .ok (.iconst 1, 1) := by decide +kernel
theorem dX9_one_243 : decode cX9_one 243 = .ok (.iadd, 1) := by decide +kernel
theorem dX9_one_244 : decode cX9_one 244 = .ok (.putfield 92, 3) := by decide +kernel
theorem dX9_one_247 : decode cX9_one 247 = .ok (.return_, 1) := by decide +kernel
theorem dX9_text_0 : decode cX9_text 0 = .ok (.iload_n 1, 1) := by decide +kernel
theorem dX9_text_1 : decode cX9_text 1 = .ok (.iconst 0, 1) := by decide +kernel
theorem dX9_text_2 : decode cX9_text 2 = .ok (.iconst 1, 1) := by decide +kernel
theorem dX9_text_3 : decode cX9_text 3 = .ok (.invokestatic 77, 3) := by decide +kernel
theorem dX9_text_6 : decode cX9_text 6 = .ok (.ifCond .ne 10, 3) := by decide +kernel
theorem dX9_text_9 : decode cX9_text 9 = .ok (.aload_n 0, 1) := by decide +kernel
theorem dX9_text_10 : decode cX9_text 10 = .ok (.ldc 81, 2) := by decide +kernel
theorem dX9_text_12 : decode cX9_text 12 = .ok (.invokevirtual 82, 3) := by decide +kernel
theorem dX9_text_15 : decode cX9_text 15 = .ok (.ireturn, 1) := by decide +kernel
theorem dX9_text_16 : decode cX9_text 16 = .ok (.aload_n 0, 1) := by decide +kernel
theorem dX9_text_17 : decode cX9_text 17 = .ok (.iload_n 1, 1) := by decide +kernel
theorem dX9_text_18 : decode cX9_text 18 = .ok (.putfield 126, 3) := by decide +kernel
theorem dX9_text_21 : decode cX9_text 21 = .ok (.aload_n 0, 1) := by decide +kernel
theorem dX9_text_22 : decode cX9_text 22 = .ok (.iconst 0, 1) := by decide +kernel
theorem dX9_text_23 : decode cX9_text 23 = .ok (.putfield 92, 3) := by decide +kernel
theorem dX9_text_26 : decode cX9_text 26 = .ok (.aload_n 0, 1) := by decide +kernel
theorem dX9_text_27 : decode cX9_text 27 = .ok (.iconst 0, 1) := by decide +kernel
theorem dX9_text_28 : decode cX9_text 28 = .ok (.putfield 136, 3) := by decide +kernel
theorem dX9_text_31 : decode cX9_text 31 = .ok (.aload_n 0, 1) := by decide +kernel
theorem dX9_text_32 : decode cX9_text 32 = .ok (.iconst 0, 1) := by decide +kernel
theorem dX9_text_33 : decode cX9_text 33 = .ok (.putfield 88, 3) := by decide +kernel
theorem dX9_text_36 : decode cX9_text 36 = .ok (.aload_n 0, 1) := by decide +kernel
theorem dX9_text_37 : decode cX9_text 37 = .ok (.iconst 0, 1) := by decide +kernel
theorem dX9_text_38 : decode cX9_text 38 = .ok (.putfield 100, 3) := by decide +kernel
theorem dX9_text_41 : decode cX9_text 41 = .ok (.aload_n 0, 1) := by decide +kernel
theorem dX9_text_42 : decode cX9_text 42 = .ok (.invokevirtual 139, 3) := by decide +kernel
theorem dX9_text_45 : decode cX9_text 45 = .ok (.aload_n 0, 1) := by decide +kernel
theorem dX9_text_46 : decode cX9_text 46 = .ok (.aload_n 0, 1) := by decide +kernel
theorem dX9_text_47 : decode cX9_text 47 = .ok (.getfield 88, 3) := by decide +kernel
theorem dX9_text_50 : decode cX9_text 50 = .ok (.ifCond .ne 17, 3) := by decide +kernel
theorem dX9_text_53 : decode cX9_text 53 = .ok (.aload_n 0, 1) := by decide +kernel
theorem dX9_text_54 : decode cX9_text 54 = .ok (.getfield 92, 3) := by decide +kernel
theorem dX9_text_57 : decode cX9_text 57 = .ok (.aload_n 0, 1) := by decide +kernel
theorem dX9_text_58 : decode cX9_text 58 = .ok (.getfield 9, 3) := by decide +kernel
theorem dX9_text_61 : decode cX9_text 61 = .ok (.bipush 7, 2) := by decide +kernel
theorem dX9_text_63 : decode cX9_text 63 = .ok (.iaload, 1) := by decide +kernel
theorem dX9_text_64 : decode cX9_text 64 = .ok (.if_icmp .ge 7, 3) := by decide +kernel
theorem dX9_text_67 : decode cX9_text 67 = .ok (.iconst 1, 1) := by decide +kernel
theorem dX9_text_68 : decode cX9_text 68 = .ok (.goto 4, 3) := by decide +kernel
theorem dX9_text_71 : decode cX9_text 71 = .ok (.iconst 0, 1) := by decide +kernel
theorem dX9_text_72 : decode cX9_text 72 = .ok (.putfield 88, 3) := by decide +kernel
theorem dX9_text_75 : decode cX9_text 75 = .ok (.aload_n 0, 1) := by decide +kernel
theorem dX9_text_76 : decode cX9_text 76 = .ok (.getfield 9, 3) := by decide +kernel
theorem dX9_text_79 : decode cX9_text 79 = .ok (.bipush 7, 2) := by decide +kernel
theorem dX9_text_81 : decode cX9_text 81 = .ok (.iconst 0, 1) := by decide +kernel
theorem dX9_text_82 : decode cX9_text 82 = .ok (.iastore, 1) := by decide +kernel
theorem dX9_text_83 : decode cX9_text 83 = .ok (.aload_n 0, 1) := by decide +kernel
theorem dX9_text_84 : decode cX9_text 84 = .ok (.getfield 88, 3) := by decide +kernel
theorem dX9_text_87 : decode cX9_text 87 = .ok (.ifCond .eq 11, 3) := by decide +kernel
theorem dX9_text_90 : decode cX9_text 90 = .ok (.bipush (-10), 2) := by decide +kernel
theorem dX9_text_92 : decode cX9_text 92 = .ok (.aload_n 0, 1) := by decide +kernel
theorem dX9_text_93 : decode cX9_text 93 = .ok (.getfield 92, 3) := by decide +kernel
theorem dX9_text_96 : decode cX9_text 96 = .ok (.isub, 1) := by decide +kernel
theorem dX9_text_97 : decode cX9_text 97 = .ok (.ireturn, 1) := by decide +kernel
theorem dX9_text_98 : decode cX9_text 98 = .ok (.aload_n 0, 1) := by decide +kernel
theorem dX9_text_99 : decode cX9_text 99 = .ok (.getfield 9, 3) := by decide +kernel
theorem dX9_text_102 : decode cX9_text 102 = .ok (.sipush 138, 3) := by decide +kernel
theorem dX9_text_105 : decode cX9_text 105 = .ok (.bipush 52, 2) := by decide +kernel
theorem dX9_text_107 : decode cX9_text 107 = .ok (.aload_n 0, 1) := by decide +kernel
theorem dX9_text_108 : decode cX9_text 108 = .ok (.getfield 126, 3) := by decide +kernel
theorem dX9_text_111 : decode cX9_text 111 = .ok (.imul, 1) := by decide +kernel
theorem dX9_text_112 : decode cX9_text 112 = .ok (.iadd, 1) := by decide +kernel
theorem dX9_text_113 : decode cX9_text 113 = .ok (.aload_n 0, 1) := by decide +kernel
theorem dX9_text_114 : decode cX9_text 114 = .ok (.getfield 100, 3) := by decide +kernel
theorem dX9_text_117 : decode cX9_text 117 = .ok (.iastore, 1) := by decide +kernel
theorem dX9_text_118 : decode cX9_text 118 = .ok (.iconst 0, 1) := by decide +kernel
theorem dX9_text_119 : decode cX9_text 119 = .ok (.istore_n 2, 1) := by decide +kernel
theorem dX9_text_120 : decode cX9_text 120 = .ok (.iload_n 2, 1) := by decide +kernel
theorem dX9_text_121 : decode cX9_text 121 = .ok (.aload_n 0, 1) := by decide +kernel
theorem dX9_text_122 : decode cX9_text 122 = .ok (.getfield 100, 3) := by decide +kernel
theorem dX9_text_125 : decode cX9_text 125 = .ok (.if_icmp .ge 35, 3) := by decide +kernel
theorem dX9_text_128 : decode cX9_text 128 = .ok (.aload_n 0, 1) := by decide +kernel
theorem dX9_text_129 : decode cX9_text 129 = .ok (.getfield 9, 3) := by decide +kernel
theorem dX9_text_132 : decode cX9_text 132 = .ok (.sipush 138, 3) := by decide +kernel
theorem dX9_text_135 : decode cX9_text 135 = .ok (.bipush 52, 2) := by decide +kernel
theorem dX9_text_137 : decode cX9_text 137 = .ok (.aload_n 0, 1) := by decide +kernel
theorem dX9_text_138 : decode cX9_text 138 = .ok (.getfield 126, 3) := by decide +kernel
theorem dX9_text_141 : decode cX9_text 141 = .ok (.imul, 1) := by decide +kernel
theorem dX9_text_142 : decode cX9_text 142 = .ok (.iadd, 1) := by decide +kernel
theorem dX9_text_143 : decode cX9_text 143 = .ok (.iconst 1, 1) := by decide +kernel
theorem dX9_text_144 : decode cX9_text 144 = .ok (.iadd, 1) := by decide +kernel
theorem dX9_text_145 : decode cX9_text 145 = .ok (.iload_n 2, 1) := by decide +kernel
theorem dX9_text_146 : decode cX9_text 146 = .ok (.iadd, 1) := by decide +kernel
theorem dX9_text_147 : decode cX9_text 147 = .ok (.aload_n 0, 1) := by decide +kernel
theorem dX9_text_148 : decode cX9_text 148 = .ok (.getfield 35, 3) := by decide +kernel
theorem dX9_text_151 : decode cX9_text 151 = .ok (.iload_n 2, 1) := by decide +kernel
theorem dX9_text_152 : decode cX9_text 152 = .ok (.iaload, 1) := by decide +kernel
theorem dX9_text_153 : decode cX9_text 153 = .ok (.iastore, 1) := by decide +kernel
theorem dX9_text_154 : decode cX9_text 154 = .ok (.iinc 2 1, 3) := by decide +kernel
theorem dX9_text_157 : decode cX9_text 157 = .ok (.goto (-37), 3) := by decide +kernel
theorem dX9_text_160 : decode cX9_text 160 = .ok (.aload_n 0, 1) := by decide +kernel
theorem dX9_text_161 : decode cX9_text 161 = .ok (.invokevirtual 145, 3) := by decide +kernel
theorem dX9_text_164 : decode cX9_text 164 = .ok (.iconst 1, 1) := by decide +kernel
theorem dX9_text_165 : decode cX9_text 165 = .ok (.ireturn, 1) := by decide +kernel
theorem dX9_done_0 : decode cX9_done 0 = .ok (.iload_n 0, 1) := by decide +kernel
theorem dX9_done_1 : decode cX9_done 1 = .ok (.tableswitch 136 20000 20008 #[51, 65, 79, 90, 101, 112, 116, 120, 124], 51) := by decide +kernel
theorem dX9_done_52 : decode cX9_done 52 = .ok (.iload_n 1, 1) := by decide +kernel
theorem dX9_done_53 : decode cX9_done 53 = .ok (.ifCond .ne 7, 3) := by decide +kernel
theorem dX9_done_56 : decode cX9_done 56 = .ok (.iload_n 2, 1) := by decide +kernel
theorem dX9_done_57 : decode cX9_done 57 = .ok (.ifCond .eq 7, 3) := by decide +kernel
theorem dX9_done_60 : decode cX9_done 60 = .ok (.iconst 1, 1) := by decide +kernel
theorem dX9_done_61 : decode cX9_done 61 = .ok (.goto 4, 3) := by decide +kernel
theorem dX9_done_64 : decode cX9_done 64 = .ok (.iconst 0, 1) := by decide +kernel
theorem dX9_done_65 : decode cX9_done 65 = .ok (.ireturn, 1) := by decide +kernel
theorem dX9_done_66 : decode cX9_done 66 = .ok (.iload_n 1, 1) := by decide +kernel
theorem dX9_done_67 : decode cX9_done 67 = .ok (.ifCond .eq 11, 3) := by decide +kernel
theorem dX9_done_70 : decode cX9_done 70 = .ok (.iload_n 2, 1) := by decide +kernel
theorem dX9_done_71 : decode cX9_done 71 = .ok (.ifCond .eq 7, 3) := by decide +kernel
theorem dX9_done_74 : decode cX9_done 74 = .ok (.iconst 1, 1) := by decide +kernel
theorem dX9_done_75 : decode cX9_done 75 = .ok (.goto 4, 3) := by decide +kernel
theorem dX9_done_78 : decode cX9_done 78 = .ok (.iconst 0, 1) := by decide +kernel
theorem dX9_done_79 : decode cX9_done 79 = .ok (.ireturn, 1) := by decide +kernel
theorem dX9_done_80 : decode cX9_done 80 = .ok (.iload_n 1, 1) := by decide +kernel
theorem dX9_done_81 : decode cX9_done 81 = .ok (.iload_n 2, 1) := by decide +kernel
theorem dX9_done_82 : decode cX9_done 82 = .ok (.if_icmp .ge 7, 3) := by decide +kernel
theorem dX9_done_85 : decode cX9_done 85 = .ok (.iconst 1, 1) := by decide +kernel
theorem dX9_done_86 : decode cX9_done 86 = .ok (.goto 4, 3) := by decide +kernel
theorem dX9_done_89 : decode cX9_done 89 = .ok (.iconst 0, 1) := by decide +kernel
theorem dX9_done_90 : decode cX9_done 90 = .ok (.ireturn, 1) := by decide +kernel
theorem dX9_done_91 : decode cX9_done 91 = .ok (.iload_n 1, 1) := by decide +kernel
theorem dX9_done_92 : decode cX9_done 92 = .ok (.iload_n 2, 1) := by decide +kernel
theorem dX9_done_93 : decode cX9_done 93 = .ok (.if_icmp .ne 7, 3) := by decide +kernel
theorem dX9_done_96 : decode cX9_done 96 = .ok (.iconst 1, 1) := by decide +kernel
theorem dX9_done_97 : decode cX9_done 97 = .ok (.goto 4, 3) := by decide +kernel
theorem dX9_done_100 : decode cX9_done 100 = .ok (.iconst 0, 1) := by decide +kernel
theorem dX9_done_101 : decode cX9_done 101 = .ok (.ireturn, 1) := by decide +kernel
theorem dX9_done_102 : decode cX9_done 102 = .ok (.iload_n 1, 1) := by decide +kernel
theorem dX9_done_103 : decode cX9_done 103 = .ok (.iload_n 2, 1) := by decide +kernel
theorem dX9_done_104 : decode cX9_done 104 = .ok (.if_icmp .le 7, 3) := by decide +kernel
theorem dX9_done_107 : decode cX9_done 107 = .ok (.iconst 1, 1) := by decide +kernel
theorem dX9_done_108 : decode cX9_done 108 = .ok (.goto 4, 3) := by decide +kernel
theorem dX9_done_111 : decode cX9_done 111 = .ok (.iconst 0, 1) := by decide +kernel
theorem dX9_done_112 : decode cX9_done 112 = .ok (.ireturn, 1) := by decide +kernel
theorem dX9_done_113 : decode cX9_done 113 = .ok (.iload_n 1, 1) := by decide +kernel
theorem dX9_done_114 : decode cX9_done 114 = .ok (.iload_n 2, 1) := by decide +kernel
theorem dX9_done_115 : decode cX9_done 115 = .ok (.iadd, 1) := by decide +kernel
theorem dX9_done_116 : decode cX9_done 116 = .ok (.ireturn, 1) := by decide +kernel
theorem dX9_done_117 : decode cX9_done 117 = .ok (.iload_n 1, 1) := by decide +kernel
theorem dX9_done_118 : decode cX9_done 118 = .ok (.iload_n 2, 1) := by decide +kernel
theorem dX9_done_119 : decode cX9_done 119 = .ok (.isub, 1) := by decide +kernel
theorem dX9_done_120 : decode cX9_done 120 = .ok (.ireturn, 1) := by decide +kernel
theorem dX9_done_121 : decode cX9_done 121 = .ok (.iload_n 1, 1) := by decide +kernel
theorem dX9_done_122 : decode cX9_done 122 = .ok (.iload_n 2, 1) := by decide +kernel
theorem dX9_done_123 : decode cX9_done 123 = .ok (.imul, 1) := by decide +kernel
theorem dX9_done_124 : decode cX9_done 124 = .ok (.ireturn, 1) := by decide +kernel
theorem dX9_done_125 : decode cX9_done 125 = .ok (.iload_n 2, 1) := by decide +kernel
theorem dX9_done_126 : decode cX9_done 126 = .ok (.ifCond .ne 7, 3) := by decide +kernel
theorem dX9_done_129 : decode cX9_done 129 = .ok (.iconst 0, 1) := by decide +kernel
theorem dX9_done_130 : decode cX9_done 130 = .ok (.goto 6, 3) := by decide +kernel
theorem dX9_done_133 : decode cX9_done 133 = .ok (.iload_n 1, 1) := by decide +kernel
theorem dX9_done_134 : decode cX9_done 134 = .ok (.iload_n 2, 1) := by decide +kernel
theorem dX9_done_135 : decode cX9_done 135 = .ok (.idiv, 1) := by decide +kernel
theorem dX9_done_136 : decode cX9_done 136 = .ok (.ireturn, 1) := by decide +kernel
theorem dX9_done_137 : decode cX9_done 137 = .ok (.iload_n 2, 1) := by decide +kernel
theorem dX9_done_138 : decode cX9_done 138 = .ok (.ifCond .ne 7, 3) := by decide +kernel
theorem dX9_done_141 : decode cX9_done 141 = .ok (.iconst 0, 1) := by decide +kernel
theorem dX9_done_142 : decode cX9_done 142 = .ok (.goto 6, 3) := by decide +kernel
theorem dX9_done_145 : decode cX9_done 145 = .ok (.iload_n 1, 1) := by decide +kernel
theorem dX9_done_146 : decode cX9_done 146 = .ok (.iload_n 2, 1) := by decide +kernel
theorem dX9_done_147 : decode cX9_done 147 = .ok (.irem, 1) := by decide +kernel
theorem dX9_done_148 : decode cX9_done 148 = .ok (.ireturn, 1) := by decide +kernel
theorem dX9_worked_0 : decode cX9_worked 0 = .ok (.iconst 0, 1) := by decide +kernel
theorem dX9_worked_1 : decode cX9_worked 1 = .ok (.istore_n 2, 1) := by decide +kernel
theorem dX9_worked_2 : decode cX9_worked 2 = .ok (.iload_n 1, 1) := by decide +kernel
theorem dX9_worked_3 : decode cX9_worked 3 = .ok (.istore_n 3, 1) := by decide +kernel
theorem dX9_worked_4 : decode cX9_worked 4 = .ok (.iload_n 3, 1) := by decide +kernel
theorem dX9_worked_5 : decode cX9_worked 5 = .ok (.iload_n 1, 1) := by decide +kernel
theorem dX9_worked_6 : decode cX9_worked 6 = .ok (.aload_n 0, 1) := by decide +kernel
theorem dX9_worked_7 : decode cX9_worked 7 = .ok (.getfield 9, 3) := by decide +kernel
theorem dX9_worked_10 : decode cX9_worked 10 = .ok (.iload_n 1, 1) := by decide +kernel
theorem dX9_worked_11 : decode cX9_worked 11 = .ok (.iconst 1, 1) := by decide +kernel
theorem dX9_worked_12 : decode cX9_worked 12 = .ok (.isub, 1) := by decide +kernel
theorem dX9_worked_13 : decode cX9_worked 13 = .ok (.iaload, 1) := by decide +kernel
theorem dX9_worked_14 : decode cX9_worked 14 = .ok (.iadd, 1) := by decide +kernel
theorem dX9_worked_15 : decode cX9_worked 15 = .ok (.if_icmp .ge 126, 3) := by decide +kernel
theorem dX9_worked_18 : decode cX9_worked 18 = .ok (.aload_n 0, 1) := by decide +kernel
theorem dX9_worked_19 : decode cX9_worked 19 = .ok (.getfield 9, 3) := by decide +kernel
theorem dX9_worked_22 : decode cX9_worked 22 = .ok (.iload_n 3, 1) := by decide +kernel
theorem dX9_worked_23 : decode cX9_worked 23 = .ok (.iaload, 1) := by decide +kernel
theorem dX9_worked_24 : decode cX9_worked 24 = .ok (.istore 4, 2) := by decide +kernel
theorem dX9_worked_26 : decode cX9_worked 26 = .ok (.iload 4, 2) := by decide +kernel
theorem dX9_worked_28 : decode cX9_worked 28 = .ok (.sipush 20000, 3) := by decide +kernel
theorem dX9_worked_31 : decode cX9_worked 31 = .ok (.if_icmp .ge 39, 3) := by decide +kernel
theorem dX9_worked_34 : decode cX9_worked 34 = .ok (.aload_n 0, 1) := by decide +kernel
theorem dX9_worked_35 : decode cX9_worked 35 = .ok (.getfield 41, 3) := by decide +kernel
theorem dX9_worked_38 : decode cX9_worked 38 = .ok (.iload_n 2, 1) := by decide +kernel
theorem dX9_worked_39 : decode cX9_worked 39 = .ok (.iload 4, 2) := by decide +kernel
theorem dX9_worked_41 : decode cX9_worked 41 = .ok (.sipush 10000, 3) := by decide +kernel
theorem dX9_worked_44 : decode cX9_worked 44 = .ok (.if_icmp .ge 8, 3) := by decide +kernel
theorem dX9_worked_47 : decode cX9_worked 47 = .ok (.iload 4, 2) := by decide +kernel
theorem dX9_worked_49 : decode cX9_worked 49 = .ok (.goto 14, 3) := by decide +kernel
theorem dX9_worked_52 : decode cX9_worked 52 = .ok (.aload_n 0, 1) := by decide +kernel
theorem dX9_worked_53 : decode cX9_worked 53 = .ok (.getfield 38, 3) := by decide +kernel
theorem dX9_worked_56 : decode cX9_worked 56 = .ok (.iload 4, 2) := by decide +kernel
theorem dX9_worked_58 : decode cX9_worked 58 = .ok (.sipush 10000, 3) := by decide +kernel
theorem dX9_worked_61 : decode cX9_worked 61 = .ok (.isub, 1) := by decide +kernel
theorem dX9_worked_62 : decode cX9_worked 62 = .ok (.iaload, 1) := by decide +kernel
theorem dX9_worked_63 : decode cX9_worked 63 = .ok (.iastore, 1) := by decide +kernel
theorem dX9_worked_64 : decode cX9_worked 64 = .ok (.iinc 2 1, 3) := by decide +kernel
theorem dX9_worked_67 : decode cX9_worked 67 = .ok (.goto 68, 3) := by decide +kernel
theorem dX9_worked_70 : decode cX9_worked 70 = .ok (.iload 4, 2) := by decide +kernel
theorem dX9_worked_72 : decode cX9_worked 72 = .ok (.sipush 20010, 3) := by decide +kernel
theorem dX9_worked_75 : decode cX9_worked 75 = .ok (.if_icmp .ne 30, 3) := by decide +kernel
theorem dX9_worked_78 : decode cX9_worked 78 = .ok (.aload_n 0, 1) := by decide +kernel
theorem dX9_worked_79 : decode cX9_worked 79 = .ok (.getfield 41, 3) := by decide +kernel
theorem dX9_worked_82 : decode cX9_worked 82 = .ok (.iload_n 2, 1) := by decide +kernel
theorem dX9_worked_83 : decode cX9_worked 83 = .ok (.iconst 1, 1) := by decide +kernel
theorem dX9_worked_84 : decode cX9_worked 84 = .ok (.isub, 1) := by decide +kernel
theorem dX9_worked_85 : decode cX9_worked 85 = .ok (.aload_n 0, 1) := by decide +kernel
theorem dX9_worked_86 : decode cX9_worked 86 = .ok (.getfield 41, 3) := by decide +kernel
theorem dX9_worked_89 : decode cX9_worked 89 = .ok (.iload_n 2, 1) := by decide +kernel
theorem dX9_worked_90 : decode cX9_worked 90 = .ok (.iconst 1, 1) := by decide +kernel
theorem dX9_worked_91 : decode cX9_worked 91 = .ok (.isub, 1) := by decide +kernel
theorem dX9_worked_92 : decode cX9_worked 92 = .ok (.iaload, 1) := by decide +kernel
theorem dX9_worked_93 : decode cX9_worked 93 = .ok (.ifCond .ne 7, 3) := by decide +kernel
theorem dX9_worked_96 : decode cX9_worked 96 = .ok (.iconst 1, 1) := by decide +kernel
theorem dX9_worked_97 : decode cX9_worked 97 = .ok (.goto 4, 3) := by decide +kernel
theorem dX9_worked_100 : decode cX9_worked 100 = .ok (.iconst 0, 1) := by decide +kernel
theorem dX9_worked_101 : decode cX9_worked 101 = .ok (.iastore, 1) := by decide +kernel
theorem dX9_worked_102 : decode cX9_worked 102 = .ok (.goto 33, 3) := by decide +kernel
theorem dX9_worked_105 : decode cX9_worked 105 = .ok (.iinc 2 (-1), 3) := by decide +kernel
theorem dX9_worked_108 : decode cX9_worked 108 = .ok (.aload_n 0, 1) := by decide +kernel
theorem dX9_worked_109 : decode cX9_worked 109 = .ok (.getfield 41, 3) := by decide +kernel
theorem dX9_worked_112 : decode cX9_worked 112 = .ok (.iload_n 2, 1) := by decide +kernel
theorem dX9_worked_113 : decode cX9_worked 113 = .ok (.iconst 1, 1) := by decide +kernel
theorem dX9_worked_114 : decode cX9_worked 114 = .ok (.isub, 1) := by decide +kernel
theorem dX9_worked_115 : decode cX9_worked 115 = .ok (.iload 4, 2) := by decide +kernel
theorem dX9_worked_117 : decode cX9_worked 117 = .ok (.aload_n 0, 1) := by decide +kernel
theorem dX9_worked_118 : decode cX9_worked 118 = .ok (.getfield 41, 3) := by decide +kernel
theorem dX9_worked_121 : decode cX9_worked 121 = .ok (.iload_n 2, 1) := by decide +kernel
theorem dX9_worked_122 : decode cX9_worked 122 = .ok (.iconst 1, 1) := by decide +kernel
theorem dX9_worked_123 : decode cX9_worked 123 = .ok (.isub, 1) := by decide +kernel
theorem dX9_worked_124 : decode cX9_worked 124 = .ok (.iaload, 1) := by decide +kernel
theorem dX9_worked_125 : decode cX9_worked 125 = .ok (.aload_n 0, 1) := by decide +kernel
theorem dX9_worked_126 : decode cX9_worked 126 = .ok (.getfield 41, 3) := by decide +kernel
theorem dX9_worked_129 : decode cX9_worked 129 = .ok (.iload_n 2, 1) := by decide +kernel
theorem dX9_worked_130 : decode cX9_worked 130 = .ok (.iaload, 1) := by decide +kernel
theorem dX9_worked_131 : decode cX9_worked 131 = .ok (.invokestatic 148, 3) := by decide +kernel
theorem dX9_worked_134 : decode cX9_worked 134 = .ok (.iastore, 1) := by decide +kernel
theorem dX9_worked_135 : decode cX9_worked 135 = .ok (.iinc 3 1, 3) := by decide +kernel
theorem dX9_worked_138 : decode cX9_worked 138 = .ok (.goto (-134), 3) := by decide +kernel
theorem dX9_worked_141 : decode cX9_worked 141 = .ok (.aload_n 0, 1) := by decide +kernel
theorem dX9_worked_142 : decode cX9_worked 142 = .ok (.getfield 41, 3) := by decide +kernel
theorem dX9_worked_145 : decode cX9_worked 145 = .ok (.iconst 0, 1) := by decide +kernel
theorem dX9_worked_146 : decode cX9_worked 146 = .ok (.iaload, 1) := by decide +kernel
theorem dX9_worked_147 : decode cX9_worked 147 = .ok (.ireturn, 1) := by decide +kernel
theorem dX9_hasText_0 : decode cX9_hasText 0 = .ok (.aload_n 0, 1) := by decide +kernel
theorem dX9_hasText_1 : decode cX9_hasText 1 = .ok (.getfield 9, 3) := by decide +kernel
theorem dX9_hasText_4 : decode cX9_hasText 4 = .ok (.sipush 138, 3) := by decide +kernel
theorem dX9_hasText_7 : decode cX9_hasText 7 = .ok (.bipush 52, 2) := by decide +kernel
theorem dX9_hasText_9 : decode cX9_hasText 9 = .ok (.iload_n 1, 1) := by decide +kernel
theorem dX9_hasText_10 : decode cX9_hasText 10 = .ok (.imul, 1) := by decide +kernel
theorem dX9_hasText_11 : decode cX9_hasText 11 = .ok (.iadd, 1) := by decide +kernel
theorem dX9_hasText_12 : decode cX9_hasText 12 = .ok (.iaload, 1) := by decide +kernel
theorem dX9_hasText_13 : decode cX9_hasText 13 = .ok (.ifCond .le 7, 3) := by decide +kernel
theorem dX9_hasText_16 : decode cX9_hasText 16 = .ok (.iconst 1, 1) := by decide +kernel
theorem dX9_hasText_17 : decode cX9_hasText 17 = .ok (.goto 4, 3) := by decide +kernel
theorem dX9_hasText_20 : decode cX9_hasText 20 = .ok (.iconst 0, 1) := by decide +kernel
theorem dX9_hasText_21 : decode cX9_hasText 21 = .ok (.ireturn, 1) := by decide +kernel
theorem dX9_given_0 : decode cX9_given 0 = .ok (.aload_n 0, 1) := by decide +kernel
theorem dX9_given_1 : decode cX9_given 1 = .ok (.getfield 38, 3) := by decide +kernel
theorem dX9_given_4 : decode cX9_given 4 = .ok (.iconst 0, 1) := by decide +kernel
theorem dX9_given_5 : decode cX9_given 5 = .ok (.iload_n 2, 1) := by decide +kernel
theorem dX9_given_6 : decode cX9_given 6 = .ok (.iastore, 1) := by decide +kernel
theorem dX9_given_7 : decode cX9_given 7 = .ok (.aload_n 0, 1) := by decide +kernel
theorem dX9_given_8 : decode cX9_given 8 = .ok (.getfield 38, 3) := by decide +kernel
theorem dX9_given_11 : decode cX9_given 11 = .ok (.iconst 1, 1) := by decide +kernel
theorem dX9_given_12 : decode cX9_given 12 = .ok (.iload_n 3, 1) := by decide +kernel
theorem dX9_given_13 : decode cX9_given 13 = .ok (.iastore, 1) := by decide +kernel
theorem dX9_given_14 : decode cX9_given 14 = .ok (.aload_n 0, 1) := by decide +kernel
theorem dX9_given_15 : decode cX9_given 15 = .ok (.getfield 38, 3) := by decide +kernel
theorem dX9_given_18 : decode cX9_given 18 = .ok (.iconst 2, 1) := by decide +kernel
theorem dX9_given_19 : decode cX9_given 19 = .ok (.iload 4, 2) := by decide +kernel
theorem dX9_given_21 : decode cX9_given 21 = .ok (.iastore, 1) := by decide +kernel
theorem dX9_given_22 : decode cX9_given 22 = .ok (.iload_n 1, 1) := by decide +kernel
theorem dX9_given_23 : decode cX9_given 23 = .ok (.ifCond .ne 8, 3) := by decide +kernel
theorem dX9_given_26 : decode cX9_given 26 = .ok (.iload 4, 2) := by decide +kernel
theorem dX9_given_28 : decode cX9_given 28 = .ok (.goto 4, 3) := by decide +kernel
theorem dX9_given_31 : decode cX9_given 31 = .ok (.iconst 0, 1) := by decide +kernel
theorem dX9_given_32 : decode cX9_given 32 = .ok (.istore 5, 2) := by decide +kernel
theorem dX9_given_34 : decode cX9_given 34 = .ok (.aload_n 0, 1) := by decide +kernel
theorem dX9_given_35 : decode cX9_given 35 = .ok (.iload_n 1, 1) := by decide +kernel
theorem dX9_given_36 : decode cX9_given 36 = .ok (.invokevirtual 152, 3) := by decide +kernel
theorem dX9_given_39 : decode cX9_given 39 = .ok (.ifCond .eq 20, 3) := by decide +kernel
theorem dX9_given_42 : decode cX9_given 42 = .ok (.aload_n 0, 1) := by decide +kernel
theorem dX9_given_43 : decode cX9_given 43 = .ok (.sipush 138, 3) := by decide +kernel
theorem dX9_given_46 : decode cX9_given 46 = .ok (.bipush 52, 2) := by decide +kernel
theorem dX9_given_48 : decode cX9_given 48 = .ok (.iload_n 1, 1) := by decide +kernel
theorem dX9_given_49 : decode cX9_given 49 = .ok (.imul, 1) := by decide +kernel
theorem dX9_given_50 : decode cX9_given 50 = .ok (.iadd, 1) := by decide +kernel
theorem dX9_given_51 : decode cX9_given 51 = .ok (.iconst 1, 1) := by decide +kernel
theorem dX9_given_52 : decode cX9_given 52 = .ok (.iadd, 1) := by decide +kernel
theorem dX9_given_53 : decode cX9_given 53 = .ok (.invokevirtual 155, 3) := by decide +kernel
theorem dX9_given_56 : decode cX9_given 56 = .ok (.goto 5, 3) := by decide +kernel
theorem dX9_given_59 : decode cX9_given 59 = .ok (.iload 5, 2) := by decide +kernel
theorem dX9_given_61 : decode cX9_given 61 = .ok (.iconst 0, 1) := by decide +kernel
theorem dX9_given_62 : decode cX9_given 62 = .ok (.iload_n 1, 1) := by decide +kernel
theorem dX9_given_63 : decode cX9_given 63 = .ok (.ifCond .ne 8, 3) := by decide +kernel
theorem dX9_given_66 : decode cX9_given 66 = .ok (.bipush 19, 2) := by decide +kernel
theorem dX9_given_68 : decode cX9_given 68 = .ok (.goto 4, 3) := by decide +kernel
theorem dX9_given_71 : decode cX9_given 71 = .ok (.iconst 1, 1) := by decide +kernel
theorem dX9_given_72 : decode cX9_given 72 = .ok (.invokestatic 158, 3) := by decide +kernel
theorem dX9_given_75 : decode cX9_given 75 = .ok (.ireturn, 1) := by decide +kernel
theorem dX9_law_0 : decode cX9_law 0 = .ok (.iload_n 1, 1) := by decide +kernel
theorem dX9_law_1 : decode cX9_law 1 = .ok (.iconst 0, 1) := by decide +kernel
theorem dX9_law_2 : decode cX9_law 2 = .ok (.iconst 1, 1) := by decide +kernel
theorem dX9_law_3 : decode cX9_law 3 = .ok (.invokestatic 77, 3) := by decide +kernel
theorem dX9_law_6 : decode cX9_law 6 = .ok (.ifCond .eq 15, 3) := by decide +kernel
theorem dX9_law_9 : decode cX9_law 9 = .ok (.aload_n 0, 1) := by decide +kernel
theorem dX9_law_10 : decode cX9_law 10 = .ok (.iload_n 1, 1) := by decide +kernel
theorem dX9_law_11 : decode cX9_law 11 = .ok (.iload_n 2, 1) := by decide +kernel
theorem dX9_law_12 : decode cX9_law 12 = .ok (.iload_n 3, 1) := by decide +kernel
theorem dX9_law_13 : decode cX9_law 13 = .ok (.iload 4, 2) := by decide +kernel
theorem dX9_law_15 : decode cX9_law 15 = .ok (.invokevirtual 161, 3) := by decide +kernel
theorem dX9_law_18 : decode cX9_law 18 = .ok (.goto 9, 3) := by decide +kernel
theorem dX9_law_21 : decode cX9_law 21 = .ok (.aload_n 0, 1) := by decide +kernel
theorem dX9_law_22 : decode cX9_law 22 = .ok (.ldc 81, 2) := by decide +kernel
theorem dX9_law_24 : decode cX9_law 24 = .ok (.invokevirtual 82, 3) := by decide +kernel
theorem dX9_law_27 : decode cX9_law 27 = .ok (.ireturn, 1) := by decide +kernel
theorem dX9_hasBit_0 : decode cX9_hasBit 0 = .ok (.iload_n 0, 1) := by decide +kernel
theorem dX9_hasBit_1 : decode cX9_hasBit 1 = .ok (.iload_n 1, 1) := by decide +kernel
theorem dX9_hasBit_2 : decode cX9_hasBit 2 = .ok (.ishr, 1) := by decide +kernel
theorem dX9_hasBit_3 : decode cX9_hasBit 3 = .ok (.iconst 1, 1) := by decide +kernel
theorem dX9_hasBit_4 : decode cX9_hasBit 4 = .ok (.iand, 1) := by decide +kernel
theorem dX9_hasBit_5 : decode cX9_hasBit 5 = .ok (.iconst 1, 1) := by decide +kernel
theorem dX9_hasBit_6 : decode cX9_hasBit 6 = .ok (.if_icmp .ne 7, 3) := by decide +kernel
theorem dX9_hasBit_9 : decode cX9_hasBit 9 = .ok (.iconst 1, 1) := by decide +kernel
theorem dX9_hasBit_10 : decode cX9_hasBit 10 = .ok (.goto 4, 3) := by decide +kernel
theorem dX9_hasBit_13 : decode cX9_hasBit 13 = .ok (.iconst 0, 1) := by decide +kernel
theorem dX9_hasBit_14 : decode cX9_hasBit 14 = .ok (.ireturn, 1) := by decide +kernel
theorem dX9_bits_0 : decode cX9_bits 0 = .ok (.iconst 0, 1) := by decide +kernel
theorem dX9_bits_1 : decode cX9_bits 1 = .ok (.istore_n 1, 1) := by decide +kernel
theorem dX9_bits_2 : decode cX9_bits 2 = .ok (.iload_n 0, 1) := by decide +kernel
theorem dX9_bits_3 : decode cX9_bits 3 = .ok (.istore_n 2, 1) := by decide +kernel
theorem dX9_bits_4 : decode cX9_bits 4 = .ok (.iload_n 2, 1) := by decide +kernel
theorem dX9_bits_5 : decode cX9_bits 5 = .ok (.ifCond .eq 15, 3) := by decide +kernel
theorem dX9_bits_8 : decode cX9_bits 8 = .ok (.iinc 1 1, 3) := by decide +kernel
theorem dX9_bits_11 : decode cX9_bits 11 = .ok (.iload_n 2, 1) := by decide +kernel
theorem dX9_bits_12 : decode cX9_bits 12 = .ok (.iload_n 2, 1) := by decide +kernel
theorem dX9_bits_13 : decode cX9_bits 13 = .ok (.iconst 1, 1) := by decide +kernel
theorem dX9_bits_14 : decode cX9_bits 14 = .ok (.isub, 1) := by decide +kernel
theorem dX9_bits_15 : decode cX9_bits 15 = .ok (.iand, 1) := by decide +kernel
theorem dX9_bits_16 : decode cX9_bits 16 = .ok (.istore_n 2, 1) := by decide +kernel
theorem dX9_bits_17 : decode cX9_bits 17 = .ok (.goto (-13), 3) := by decide +kernel
theorem dX9_bits_20 : decode cX9_bits 20 = .ok (.iload_n 1, 1) := by decide +kernel
theorem dX9_bits_21 : decode cX9_bits 21 = .ok (.ireturn, 1) := by decide +kernel
theorem dX9_forgetDepths_0 : decode cX9_forgetDepths 0 = .ok (.iconst 0, 1) := by decide +kernel
theorem dX9_forgetDepths_1 : decode cX9_forgetDepths 1 = .ok (.istore_n 1, 1) := by decide +kernel
theorem dX9_forgetDepths_2 : decode cX9_forgetDepths 2 = .ok (.iload_n 1, 1) := by decide +kernel
theorem dX9_forgetDepths_3 : decode cX9_forgetDepths 3 = .ok (.sipush 8000, 3) := by decide +kernel
theorem dX9_forgetDepths_6 : decode cX9_forgetDepths 6 = .ok (.if_icmp .ge 16, 3) := by decide +kernel
theorem dX9_forgetDepths_9 : decode cX9_forgetDepths 9 = .ok (.aload_n 0, 1) := by decide +kernel
theorem dX9_forgetDepths_10 : decode cX9_forgetDepths 10 = .ok (.getfield 22, 3) := by decide +kernel
theorem dX9_forgetDepths_13 : decode cX9_forgetDepths 13 = .ok (.iload_n 1, 1) := by decide +kernel
theorem dX9_forgetDepths_14 : decode cX9_forgetDepths 14 = .ok (.iconst 0, 1) := by decide +kernel
theorem dX9_forgetDepths_15 : decode cX9_forgetDepths 15 = .ok (.iastore, 1) := by decide +kernel
theorem dX9_forgetDepths_16 : decode cX9_forgetDepths 16 = .ok (.iinc 1 1, 3) := by decide +kernel
theorem dX9_forgetDepths_19 : decode cX9_forgetDepths 19 = .ok (.goto (-17), 3) := by decide +kernel
theorem dX9_forgetDepths_22 : decode cX9_forgetDepths 22 = .ok (.return_, 1) := by decide +kernel
theorem dX9_isCell_0 : decode cX9_isCell 0 = .ok (.iload_n 1, 1) := by decide +kernel
theorem dX9_isCell_1 : decode cX9_isCell 1 = .ok (.iconst 0, 1) := by decide +kernel
theorem dX9_isCell_2 : decode cX9_isCell 2 = .ok (.aload_n 0, 1) := by decide +kernel
theorem dX9_isCell_3 : decode cX9_isCell 3 = .ok (.getfield 9, 3) := by decide +kernel
theorem dX9_isCell_6 : decode cX9_isCell 6 = .ok (.iconst 1, 1) := by decide +kernel
theorem dX9_isCell_7 : decode cX9_isCell 7 = .ok (.iaload, 1) := by decide +kernel
theorem dX9_isCell_8 : decode cX9_isCell 8 = .ok (.iconst 1, 1) := by decide +kernel
theorem dX9_isCell_9 : decode cX9_isCell 9 = .ok (.isub, 1) := by decide +kernel
theorem dX9_isCell_10 : decode cX9_isCell 10 = .ok (.invokestatic 77, 3) := by decide +kernel
theorem dX9_isCell_13 : decode cX9_isCell 13 = .ok (.ireturn, 1) := by decide +kernel
theorem dX9_isShip_0 : decode cX9_isShip 0 = .ok (.iload_n 1, 1) := by decide +kernel
theorem dX9_isShip_1 : decode cX9_isShip 1 = .ok (.iconst 0, 1) := by decide +kernel
theorem dX9_isShip_2 : decode cX9_isShip 2 = .ok (.aload_n 0, 1) := by decide +kernel
theorem dX9_isShip_3 : decode cX9_isShip 3 = .ok (.getfield 9, 3) := by decide +kernel
theorem dX9_isShip_6 : decode cX9_isShip 6 = .ok (.iconst 2, 1) := by decide +kernel
theorem dX9_isShip_7 : decode cX9_isShip 7 = .ok (.iaload, 1) := by decide +kernel
theorem dX9_isShip_8 : decode cX9_isShip 8 = .ok (.iconst 1, 1) := by decide +kernel
theorem dX9_isShip_9 : decode cX9_isShip 9 = .ok (.isub, 1) := by decide +kernel
theorem dX9_isShip_10 : decode cX9_isShip 10 = .ok (.invokestatic 77, 3) := by decide +kernel
theorem dX9_isShip_13 : decode cX9_isShip 13 = .ok (.ireturn, 1) := by decide +kernel
theorem dX9_isDigit_0 : decode cX9_isDigit 0 = .ok (.iload_n 0, 1) := by decide +kernel
theorem dX9_isDigit_1 : decode cX9_isDigit 1 = .ok (.iconst 0, 1) := by decide +kernel
theorem dX9_isDigit_2 : decode cX9_isDigit 2 = .ok (.bipush 9, 2) := by decide +kernel
theorem dX9_isDigit_4 : decode cX9_isDigit 4 = .ok (.invokestatic 77, 3) := by decide +kernel
theorem dX9_isDigit_7 : decode cX9_isDigit 7 = .ok (.ireturn, 1) := by decide +kernel
theorem dX9_isYear_0 : decode cX9_isYear 0 = .ok (.iload_n 0, 1) := by decide +kernel
theorem dX9_isYear_1 : decode cX9_isYear 1 = .ok (.iconst 0, 1) := by decide +kernel
theorem dX9_isYear_2 : decode cX9_isYear 2 = .ok (.sipush 999, 3) := by decide +kernel
theorem dX9_isYear_5 : decode cX9_isYear 5 = .ok (.invokestatic 77, 3) := by decide +kernel
theorem dX9_isYear_8 : decode cX9_isYear 8 = .ok (.ireturn, 1) := by decide +kernel
theorem dX9_cellAt_0 : decode cX9_cellAt 0 = .ok (.bipush 9, 2) := by decide +kernel
theorem dX9_cellAt_2 : decode cX9_cellAt 2 = .ok (.iconst 3, 1) := by decide +kernel
theorem dX9_cellAt_3 : decode cX9_cellAt 3 = .ok (.iload_n 0, 1) := by decide +kernel
theorem dX9_cellAt_4 : decode cX9_cellAt 4 = .ok (.imul, 1) := by decide +kernel
theorem dX9_cellAt_5 : decode cX9_cellAt 5 = .ok (.iadd, 1) := by decide +kernel
theorem dX9_cellAt_6 : decode cX9_cellAt 6 = .ok (.iload_n 1, 1) := by decide +kernel
theorem dX9_cellAt_7 : decode cX9_cellAt 7 = .ok (.iadd, 1) := by decide +kernel
theorem dX9_cellAt_8 : decode cX9_cellAt 8 = .ok (.ireturn, 1) := by decide +kernel
theorem dX9_cellIs_0 : decode cX9_cellIs 0 = .ok (.aload_n 0, 1) := by decide +kernel
theorem dX9_cellIs_1 : decode cX9_cellIs 1 = .ok (.getfield 9, 3) := by decide +kernel
theorem dX9_cellIs_4 : decode cX9_cellIs 4 = .ok (.iload_n 1, 1) := by decide +kernel
theorem dX9_cellIs_5 : decode cX9_cellIs 5 = .ok (.iload_n 2, 1) := by decide +kernel
theorem dX9_cellIs_6 : decode cX9_cellIs 6 = .ok (.invokestatic 165, 3) := by decide +kernel
theorem dX9_cellIs_9 : decode cX9_cellIs 9 = .ok (.iaload, 1) := by decide +kernel
theorem dX9_cellIs_10 : decode cX9_cellIs 10 = .ok (.ireturn, 1) := by decide +kernel
theorem dX9_shipAt_0 : decode cX9_shipAt 0 = .ok (.bipush 33, 2) := by decide +kernel
theorem dX9_shipAt_2 : decode cX9_shipAt 2 = .ok (.iconst 5, 1) := by decide +kernel
theorem dX9_shipAt_3 : decode cX9_shipAt 3 = .ok (.iload_n 0, 1) := by decide +kernel
theorem dX9_shipAt_4 : decode cX9_shipAt 4 = .ok (.imul, 1) := by decide +kernel
theorem dX9_shipAt_5 : decode cX9_shipAt 5 = .ok (.iadd, 1) := by decide +kernel
theorem dX9_shipAt_6 : decode cX9_shipAt 6 = .ok (.iload_n 1, 1) := by decide +kernel
theorem dX9_shipAt_7 : decode cX9_shipAt 7 = .ok (.iadd, 1) := by decide +kernel
theorem dX9_shipAt_8 : decode cX9_shipAt 8 = .ok (.ireturn, 1) := by decide +kernel
theorem dX9_shipIs_0 : decode cX9_shipIs 0 = .ok (.aload_n 0, 1) := by decide +kernel
theorem dX9_shipIs_1 : decode cX9_shipIs 1 = .ok (.getfield 9, 3) := by decide +kernel
theorem dX9_shipIs_4 : decode cX9_shipIs 4 = .ok (.iload_n 1, 1) := by decide +kernel
theorem dX9_shipIs_5 : decode cX9_shipIs 5 = .ok (.iload_n 2, 1) := by decide +kernel
theorem dX9_shipIs_6 : decode cX9_shipIs 6 = .ok (.invokestatic 168, 3) := by decide +kernel
theorem dX9_shipIs_9 : decode cX9_shipIs 9 = .ok (.iaload, 1) := by decide +kernel
theorem dX9_shipIs_10 : decode cX9_shipIs 10 = .ok (.ireturn, 1) := by decide +kernel
theorem dX9_flat_0 : decode cX9_flat 0 = .ok (.iconst 0, 1) := by decide +kernel
theorem dX9_flat_1 : decode cX9_flat 1 = .ok (.istore_n 2, 1) := by decide +kernel
theorem dX9_flat_2 : decode cX9_flat 2 = .ok (.iload_n 2, 1) := by decide +kernel
theorem dX9_flat_3 : decode cX9_flat 3 = .ok (.bipush 8, 2) := by decide +kernel
theorem dX9_flat_5 : decode cX9_flat 5 = .ok (.if_icmp .ge 42, 3) := by decide +kernel
theorem dX9_flat_8 : decode cX9_flat 8 = .ok (.aload_n 0, 1) := by decide +kernel
theorem dX9_flat_9 : decode cX9_flat 9 = .ok (.getfield 9, 3) := by decide +kernel
theorem dX9_flat_12 : decode cX9_flat 12 = .ok (.iload_n 2, 1) := by decide +kernel
theorem dX9_flat_13 : decode cX9_flat 13 = .ok (.iconst 0, 1) := by decide +kernel
theorem dX9_flat_14 : decode cX9_flat 14 = .ok (.invokestatic 165, 3) := by decide +kernel
theorem dX9_flat_17 : decode cX9_flat 17 = .ok (.iconst 5, 1) := by decide +kernel
theorem dX9_flat_18 : decode cX9_flat 18 = .ok (.iastore, 1) := by decide +kernel
theorem dX9_flat_19 : decode cX9_flat 19 = .ok (.aload_n 0, 1) := by decide +kernel
theorem dX9_flat_20 : decode cX9_flat 20 = .ok (.getfield 9, 3) := by decide +kernel
theorem dX9_flat_23 : decode cX9_flat 23 = .ok (.iload_n 2, 1) := by decide +kernel
theorem dX9_flat_24 : decode cX9_flat 24 = .ok (.iconst 1, 1) := by decide +kernel
theorem dX9_flat_25 : decode cX9_flat 25 = .ok (.invokestatic 165, 3) := by decide +kernel
theorem dX9_flat_28 : decode cX9_flat 28 = .ok (.iconst 1, 1) := by decide +kernel
theorem dX9_flat_29 : decode cX9_flat 29 = .ok (.iastore, 1) := by decide +kernel
theorem dX9_flat_30 : decode cX9_flat 30 = .ok (.aload_n 0, 1) := by decide +kernel
theorem dX9_flat_31 : decode cX9_flat 31 = .ok (.getfield 9, 3) := by decide +kernel
theorem dX9_flat_34 : decode cX9_flat 34 = .ok (.iload_n 2, 1) := by decide +kernel
theorem dX9_flat_35 : decode cX9_flat 35 = .ok (.iconst 2, 1) := by decide +kernel
theorem dX9_flat_36 : decode cX9_flat 36 = .ok (.invokestatic 165, 3) := by decide +kernel
theorem dX9_flat_39 : decode cX9_flat 39 = .ok (.iconst 0, 1) := by decide +kernel
theorem dX9_flat_40 : decode cX9_flat 40 = .ok (.iastore, 1) := by decide +kernel
theorem dX9_flat_41 : decode cX9_flat 41 = .ok (.iinc 2 1, 3) := by decide +kernel
theorem dX9_flat_44 : decode cX9_flat 44 = .ok (.goto (-42), 3) := by decide +kernel
theorem dX9_flat_47 : decode cX9_flat 47 = .ok (.aload_n 0, 1) := by decide +kernel
theorem dX9_flat_48 : decode cX9_flat 48 = .ok (.getfield 9, 3) := by decide +kernel
theorem dX9_flat_51 : decode cX9_flat 51 = .ok (.iconst 5, 1) := by decide +kernel
theorem dX9_flat_52 : decode cX9_flat 52 = .ok (.iconst 0, 1) := by decide +kernel
theorem dX9_flat_53 : decode cX9_flat 53 = .ok (.iastore, 1) := by decide +kernel
theorem dX9_flat_54 : decode cX9_flat 54 = .ok (.aload_n 0, 1) := by decide +kernel
theorem dX9_flat_55 : decode cX9_flat 55 = .ok (.invokevirtual 145, 3) := by decide +kernel
theorem dX9_flat_58 : decode cX9_flat 58 = .ok (.aload_n 0, 1) := by decide +kernel
theorem dX9_flat_59 : decode cX9_flat 59 = .ok (.iconst 1, 1) := by decide +kernel
theorem dX9_flat_60 : decode cX9_flat 60 = .ok (.iload_n 1, 1) := by decide +kernel
theorem dX9_flat_61 : decode cX9_flat 61 = .ok (.invokevirtual 171, 3) := by decide +kernel
theorem dX9_flat_64 : decode cX9_flat 64 = .ok (.ireturn, 1) := by decide +kernel
theorem dX9_bay_0 : decode cX9_bay 0 = .ok (.iload_n 1, 1) := by decide +kernel
theorem dX9_bay_1 : decode cX9_bay 1 = .ok (.iconst 3, 1) := by decide +kernel
theorem dX9_bay_2 : decode cX9_bay 2 = .ok (.bipush 8, 2) := by decide +kernel
theorem dX9_bay_4 : decode cX9_bay 4 = .ok (.invokestatic 77, 3) := by decide +kernel
theorem dX9_bay_7 : decode cX9_bay 7 = .ok (.ifCond .ne 10, 3) := by decide +kernel
theorem dX9_bay_10 : decode cX9_bay 10 = .ok (.aload_n 0, 1) := by decide +kernel
theorem dX9_bay_11 : decode cX9_bay 11 = .ok (.ldc 81, 2) := by decide +kernel
theorem dX9_bay_13 : decode cX9_bay 13 = .ok (.invokevirtual 82, 3) := by decide +kernel
theorem dX9_bay_16 : decode cX9_bay 16 = .ok (.ireturn, 1) := by decide +kernel
theorem dX9_bay_17 : decode cX9_bay 17 = .ok (.aload_n 0, 1) := by decide +kernel
theorem dX9_bay_18 : decode cX9_bay 18 = .ok (.getfield 9, 3) := by decide +kernel
theorem dX9_bay_21 : decode cX9_bay 21 = .ok (.iconst 2, 1) := by decide +kernel
theorem dX9_bay_22 : decode cX9_bay 22 = .ok (.iaload, 1) := by decide +kernel
theorem dX9_bay_23 : decode cX9_bay 23 = .ok (.ifCond .le 12, 3) := by decide +kernel
theorem dX9_bay_26 : decode cX9_bay 26 = .ok (.aload_n 0, 1) := by decide +kernel
theorem dX9_bay_27 : decode cX9_bay 27 = .ok (.ldc 174, 2) := by decide +kernel
theorem dX9_bay_29 : decode cX9_bay 29 = .ok (.invokevirtual 82, 3) := by decide +kernel
theorem dX9_bay_32 : decode cX9_bay 32 = .ok (.goto 8, 3) := by decide +kernel
theorem dX9_bay_35 : decode cX9_bay 35 = .ok (.aload_n 0, 1) := by decide +kernel
theorem dX9_bay_36 : decode cX9_bay 36 = .ok (.iload_n 1, 1) := by decide +kernel
theorem dX9_bay_37 : decode cX9_bay 37 = .ok (.invokevirtual 59, 3) := by decide +kernel
theorem dX9_bay_40 : decode cX9_bay 40 = .ok (.ireturn, 1) := by decide +kernel
theorem dX9_lay_0 : decode cX9_lay 0 = .ok (.aload_n 0, 1) := by decide +kernel
theorem dX9_lay_1 : decode cX9_lay 1 = .ok (.iload_n 1, 1) := by decide +kernel
theorem dX9_lay_2 : decode cX9_lay 2 = .ok (.invokevirtual 175, 3) := by decide +kernel
theorem dX9_lay_5 : decode cX9_lay 5 = .ok (.ifCond .eq 32, 3) := by decide +kernel
theorem dX9_lay_8 : decode cX9_lay 8 = .ok (.iload_n 2, 1) := by decide +kernel
theorem dX9_lay_9 : decode cX9_lay 9 = .ok (.iconst 0, 1) := by decide +kernel
theorem dX9_lay_10 : decode cX9_lay 10 = .ok (.iconst 2, 1) := by decide +kernel
theorem dX9_lay_11 : decode cX9_lay 11 = .ok (.invokestatic 77, 3) := by decide +kernel
theorem dX9_lay_14 : decode cX9_lay 14 = .ok (.ifCond .eq 23, 3) := by decide +kernel
theorem dX9_lay_17 : decode cX9_lay 17 = .ok (.iload_n 3, 1) := by decide +kernel
theorem dX9_lay_18 : decode cX9_lay 18 = .ok (.iconst 0, 1) := by decide +kernel
theorem dX9_lay_19 : decode cX9_lay 19 = .ok (.iload_n 2, 1) := by decide +kernel
theorem dX9_lay_20 : decode cX9_lay 20 = .ok (.ifCond .ne 8, 3) := by decide +kernel
theorem dX9_lay_23 : decode cX9_lay 23 = .ok (.bipush 9, 2) := by decide +kernel
theorem dX9_lay_25 : decode cX9_lay 25 = .ok (.goto 6, 3) := by decide +kernel
theorem dX9_lay_28 : decode cX9_lay 28 = .ok (.sipush 999, 3) := by decide +kernel
theorem dX9_lay_31 : decode cX9_lay 31 = .ok (.invokestatic 77, 3) := by decide +kernel
theorem dX9_lay_34 : decode cX9_lay 34 = .ok (.ifCond .ne 10, 3) := by decide +kernel
theorem dX9_lay_37 : decode cX9_lay 37 = .ok (.aload_n 0, 1) := by decide +kernel
theorem dX9_lay_38 : decode cX9_lay 38 = .ok (.ldc 81, 2) := by decide +kernel
theorem dX9_lay_40 : decode cX9_lay 40 = .ok (.invokevirtual 82, 3) := by decide +kernel
theorem dX9_lay_43 : decode cX9_lay 43 = .ok (.ireturn, 1) := by decide +kernel
theorem dX9_lay_44 : decode cX9_lay 44 = .ok (.aload_n 0, 1) := by decide +kernel
theorem dX9_lay_45 : decode cX9_lay 45 = .ok (.invokevirtual 145, 3) := by decide +kernel
theorem dX9_lay_48 : decode cX9_lay 48 = .ok (.aload_n 0, 1) := by decide +kernel
theorem dX9_lay_49 : decode cX9_lay 49 = .ok (.iload_n 1, 1) := by decide +kernel
theorem dX9_lay_50 : decode cX9_lay 50 = .ok (.iload_n 2, 1) := by decide +kernel
theorem dX9_lay_51 : decode cX9_lay 51 = .ok (.invokestatic 165, 3) := by decide +kernel
theorem dX9_lay_54 : decode cX9_lay 54 = .ok (.iload_n 3, 1) := by decide +kernel
theorem dX9_lay_55 : decode cX9_lay 55 = .ok (.invokevirtual 171, 3) := by decide +kernel
theorem dX9_lay_58 : decode cX9_lay 58 = .ok (.ireturn, 1) := by decide +kernel
theorem dX9_depthFor_0 : decode cX9_depthFor 0 = .ok (.aload_n 0, 1) := by decide +kernel
theorem dX9_depthFor_1 : decode cX9_depthFor 1 = .ok (.iload_n 1, 1) := by decide +kernel
theorem dX9_depthFor_2 : decode cX9_depthFor 2 = .ok (.iconst 1, 1) := by decide +kernel
theorem dX9_depthFor_3 : decode cX9_depthFor 3 = .ok (.invokevirtual 178, 3) := by decide +kernel
theorem dX9_depthFor_6 : decode cX9_depthFor 6 = .ok (.iload_n 2, 1) := by decide +kernel
theorem dX9_depthFor_7 : decode cX9_depthFor 7 = .ok (.if_icmp .gt 17, 3) := by decide +kernel
theorem dX9_depthFor_10 : decode cX9_depthFor 10 = .ok (.iload_n 2, 1) := by decide +kernel
theorem dX9_depthFor_11 : decode cX9_depthFor 11 = .ok (.aload_n 0, 1) := by decide +kernel
theorem dX9_depthFor_12 : decode cX9_depthFor 12 = .ok (.iload_n 1, 1) := by decide +kernel
theorem dX9_depthFor_13 : decode cX9_depthFor 13 = .ok (.iconst 2, 1) := by decide +kernel
theorem dX9_depthFor_14 : decode cX9_depthFor 14 = .ok (.invokevirtual 178, 3) := by decide +kernel
theorem dX9_depthFor_17 : decode cX9_depthFor 17 = .ok (.if_icmp .gt 7, 3) := by decide +kernel
theorem dX9_depthFor_20 : decode cX9_depthFor 20 = .ok (.iconst 1, 1) := by decide +kernel
theorem dX9_depthFor_21 : decode cX9_depthFor 21 = .ok (.goto 4, 3) := by decide +kernel
theorem dX9_depthFor_24 : decode cX9_depthFor 24 = .ok (.iconst 0, 1) := by decide +kernel
theorem dX9_depthFor_25 : decode cX9_depthFor 25 = .ok (.istore_n 3, 1) := by decide +kernel
theorem dX9_depthFor_26 : decode cX9_depthFor 26 = .ok (.iload_n 3, 1) := by decide +kernel
theorem dX9_depthFor_27 : decode cX9_depthFor 27 = .ok (.ifCond .eq 7, 3) := by decide +kernel
theorem dX9_depthFor_30 : decode cX9_depthFor 30 = .ok (.iconst 0, 1) := by decide +kernel
theorem dX9_depthFor_31 : decode cX9_depthFor 31 = .ok (.goto 16, 3) := by decide +kernel
theorem dX9_depthFor_34 : decode cX9_depthFor 34 = .ok (.aload_n 0, 1) := by decide +kernel
theorem dX9_depthFor_35 : decode cX9_depthFor 35 = .ok (.iconst 0, 1) := by decide +kernel
theorem dX9_depthFor_36 : decode cX9_depthFor 36 = .ok (.iload_n 1, 1) := by decide +kernel
theorem dX9_depthFor_37 : decode cX9_depthFor 37 = .ok (.iload_n 2, 1) := by decide +kernel
theorem dX9_depthFor_38 : decode cX9_depthFor 38 = .ok (.aload_n 0, 1) := by decide +kernel
theorem dX9_depthFor_39 : decode cX9_depthFor 39 = .ok (.iload_n 1, 1) := by decide +kernel
theorem dX9_depthFor_40 : decode cX9_depthFor 40 = .ok (.iconst 0, 1) := by decide +kernel
theorem dX9_depthFor_41 : decode cX9_depthFor 41 = .ok (.invokevirtual 178, 3) := by decide +kernel
theorem dX9_depthFor_44 : decode cX9_depthFor 44 = .ok (.invokevirtual 161, 3) := by decide +kernel
theorem dX9_depthFor_47 : decode cX9_depthFor 47 = .ok (.ireturn, 1) := by decide +kernel
theorem dX9_depthIn_0 : decode cX9_depthIn 0 = .ok (.iconst 0, 1) := by decide +kernel
theorem dX9_depthIn_1 : decode cX9_depthIn 1 = .ok (.iload_n 2, 1) := by decide +kernel
theorem dX9_depthIn_2 : decode cX9_depthIn 2 = .ok (.invokestatic 70, 3) := by decide +kernel
theorem dX9_depthIn_5 : decode cX9_depthIn 5 = .ok (.istore_n 3, 1) := by decide +kernel
theorem dX9_depthIn_6 : decode cX9_depthIn 6 = .ok (.sipush 1000, 3) := by decide +kernel
theorem dX9_depthIn_9 : decode cX9_depthIn 9 = .ok (.iload_n 1, 1) := by decide +kernel
theorem dX9_depthIn_10 : decode cX9_depthIn 10 = .ok (.imul, 1) := by decide +kernel
theorem dX9_depthIn_11 : decode cX9_depthIn 11 = .ok (.iload_n 3, 1) := by decide +kernel
theorem dX9_depthIn_12 : decode cX9_depthIn 12 = .ok (.iadd, 1) := by decide +kernel
theorem dX9_depthIn_13 : decode cX9_depthIn 13 = .ok (.istore 4, 2) := by decide +kernel
theorem dX9_depthIn_15 : decode cX9_depthIn 15 = .ok (.aload_n 0, 1) := by decide +kernel
theorem dX9_depthIn_16 : decode cX9_depthIn 16 = .ok (.getfield 22, 3) := by decide +kernel
theorem dX9_depthIn_19 : decode cX9_depthIn 19 = .ok (.iload 4, 2) := by decide +kernel
theorem dX9_depthIn_21 : decode cX9_depthIn 21 = .ok (.iaload, 1) := by decide +kernel
theorem dX9_depthIn_22 : decode cX9_depthIn 22 = .ok (.ifCond .ne 18, 3) := by decide +kernel
theorem dX9_depthIn_25 : decode cX9_depthIn 25 = .ok (.aload_n 0, 1) := by decide +kernel
theorem dX9_depthIn_26 : decode cX9_depthIn 26 = .ok (.getfield 22, 3) := by decide +kernel
theorem dX9_depthIn_29 : decode cX9_depthIn 29 = .ok (.iload 4, 2) := by decide +kernel
theorem dX9_depthIn_31 : decode cX9_depthIn 31 = .ok (.iconst 1, 1) := by decide +kernel
theorem dX9_depthIn_32 : decode cX9_depthIn 32 = .ok (.aload_n 0, 1) := by decide +kernel
theorem dX9_depthIn_33 : decode cX9_depthIn 33 = .ok (.iload_n 1, 1) := by decide +kernel
theorem dX9_depthIn_34 : decode cX9_depthIn 34 = .ok (.iload_n 3, 1) := by decide +kernel
theorem dX9_depthIn_35 : decode cX9_depthIn 35 = .ok (.invokevirtual 181, 3) := by decide +kernel
theorem dX9_depthIn_38 : decode cX9_depthIn 38 = .ok (.iadd, 1) := by decide +kernel
theorem dX9_depthIn_39 : decode cX9_depthIn 39 = .ok (.iastore, 1) := by decide +kernel
theorem dX9_depthIn_40 : decode cX9_depthIn 40 = .ok (.aload_n 0, 1) := by decide +kernel
theorem dX9_depthIn_41 : decode cX9_depthIn 41 = .ok (.getfield 22, 3) := by decide +kernel
theorem dX9_depthIn_44 : decode cX9_depthIn 44 = .ok (.iload 4, 2) := by decide +kernel
theorem dX9_depthIn_46 : decode cX9_depthIn 46 = .ok (.iaload, 1) := by decide +kernel
theorem dX9_depthIn_47 : decode cX9_depthIn 47 = .ok (.iconst 1, 1) := by decide +kernel
theorem dX9_depthIn_48 : decode cX9_depthIn 48 = .ok (.isub, 1) := by decide +kernel
theorem dX9_depthIn_49 : decode cX9_depthIn 49 = .ok (.ireturn, 1) := by decide +kernel
theorem dX9_trueDepth_0 : decode cX9_trueDepth 0 = .ok (.aload_n 0, 1) := by decide +kernel
theorem dX9_trueDepth_1 : decode cX9_trueDepth 1 = .ok (.iload_n 1, 1) := by decide +kernel
theorem dX9_trueDepth_2 : decode cX9_trueDepth 2 = .ok (.aload_n 0, 1) := by decide +kernel
theorem dX9_trueDepth_3 : decode cX9_trueDepth 3 = .ok (.getfield 9, 3) := by decide +kernel
theorem dX9_trueDepth_6 : decode cX9_trueDepth 6 = .ok (.iconst 3, 1) := by decide +kernel
theorem dX9_trueDepth_7 : decode cX9_trueDepth 7 = .ok (.iaload, 1) := by decide +kernel
theorem dX9_trueDepth_8 : decode cX9_trueDepth 8 = .ok (.invokevirtual 184, 3) := by decide +kernel
theorem dX9_trueDepth_11 : decode cX9_trueDepth 11 = .ok (.ireturn, 1) := by decide +kernel
theorem dX9_shown_0 : decode cX9_shown 0 = .ok (.aload_n 0, 1) := by decide +kernel
theorem dX9_shown_1 : decode cX9_shown 1 = .ok (.iload_n 1, 1) := by decide +kernel
theorem dX9_shown_2 : decode cX9_shown 2 = .ok (.aload_n 0, 1) := by decide +kernel
theorem dX9_shown_3 : decode cX9_shown 3 = .ok (.getfield 9, 3) := by decide +kernel
theorem dX9_shown_6 : decode cX9_shown 6 = .ok (.iconst 5, 1) := by decide +kernel
theorem dX9_shown_7 : decode cX9_shown 7 = .ok (.iaload, 1) := by decide +kernel
theorem dX9_shown_8 : decode cX9_shown 8 = .ok (.iload_n 1, 1) := by decide +kernel
theorem dX9_shown_9 : decode cX9_shown 9 = .ok (.invokestatic 187, 3) := by decide +kernel
theorem dX9_shown_12 : decode cX9_shown 12 = .ok (.ifCond .eq 14, 3) := by decide +kernel
theorem dX9_shown_15 : decode cX9_shown 15 = .ok (.aload_n 0, 1) := by decide +kernel
theorem dX9_shown_16 : decode cX9_shown 16 = .ok (.getfield 9, 3) := by decide +kernel
theorem dX9_shown_19 : decode cX9_shown 19 = .ok (.iconst 3, 1) := by decide +kernel
theorem dX9_shown_20 : decode cX9_shown 20 = .ok (.iaload, 1) := by decide +kernel
theorem dX9_shown_21 : decode cX9_shown 21 = .ok (.iload_n 2, 1) := by decide +kernel
theorem dX9_shown_22 : decode cX9_shown 22 = .ok (.isub, 1) := by decide +kernel
theorem dX9_shown_23 : decode cX9_shown 23 = .ok (.goto 9, 3) := by decide +kernel
theorem dX9_shown_26 : decode cX9_shown 26 = .ok (.aload_n 0, 1) := by decide +kernel
theorem dX9_shown_27 : decode cX9_shown 27 = .ok (.getfield 9, 3) := by decide +kernel
theorem dX9_shown_30 : decode cX9_shown 30 = .ok (.iconst 3, 1) := by decide +kernel
theorem dX9_shown_31 : decode cX9_shown 31 = .ok (.iaload, 1) := by decide +kernel
theorem dX9_shown_32 : decode cX9_shown 32 = .ok (.invokevirtual 184, 3) := by decide +kernel
theorem dX9_shown_35 : decode cX9_shown 35 = .ok (.ireturn, 1) := by decide +kernel
theorem dX9_shipsAt_0 : decode cX9_shipsAt 0 = .ok (.iconst 0, 1) := by decide +kernel
theorem dX9_shipsAt_1 : decode cX9_shipsAt 1 = .ok (.istore_n 2, 1) := by decide +kernel
theorem dX9_shipsAt_2 : decode cX9_shipsAt 2 = .ok (.iconst 0, 1) := by decide +kernel
theorem dX9_shipsAt_3 : decode cX9_shipsAt 3 = .ok (.istore_n 3, 1) := by decide +kernel
theorem dX9_shipsAt_4 : decode cX9_shipsAt 4 = .ok (.iload_n 3, 1) := by decide +kernel
theorem dX9_shipsAt_5 : decode cX9_shipsAt 5 = .ok (.aload_n 0, 1) := by decide +kernel
theorem dX9_shipsAt_6 : decode cX9_shipsAt 6 = .ok (.getfield 9, 3) := by decide +kernel
theorem dX9_shipsAt_9 : decode cX9_shipsAt 9 = .ok (.iconst 2, 1) := by decide +kernel
theorem dX9_shipsAt_10 : decode cX9_shipsAt 10 = .ok (.iaload, 1) := by decide +kernel
theorem dX9_shipsAt_11 : decode cX9_shipsAt 11 = .ok (.if_icmp .ge 29, 3) := by decide +kernel
theorem dX9_shipsAt_14 : decode cX9_shipsAt 14 = .ok (.iload_n 2, 1) := by decide +kernel
theorem dX9_shipsAt_15 : decode cX9_shipsAt 15 = .ok (.aload_n 0, 1) := by decide +kernel
theorem dX9_shipsAt_16 : decode cX9_shipsAt 16 = .ok (.iload_n 3, 1) := by decide +kernel
theorem dX9_shipsAt_17 : decode cX9_shipsAt 17 = .ok (.iconst 3, 1) := by decide +kernel
theorem dX9_shipsAt_18 : decode cX9_shipsAt 18 = .ok (.invokevirtual 191, 3) := by decide +kernel
theorem dX9_shipsAt_21 : decode cX9_shipsAt 21 = .ok (.iload_n 1, 1) := by decide +kernel
theorem dX9_shipsAt_22 : decode cX9_shipsAt 22 = .ok (.if_icmp .ne 9, 3) := by decide +kernel
theorem dX9_shipsAt_25 : decode cX9_shipsAt 25 = .ok (.iconst 1, 1) := by decide +kernel
theorem dX9_shipsAt_26 : decode cX9_shipsAt 26 = .ok (.iload_n 3, 1) := by decide +kernel
theorem dX9_shipsAt_27 : decode cX9_shipsAt 27 = .ok (.ishl, 1) := by decide +kernel
theorem dX9_shipsAt_28 : decode cX9_shipsAt 28 = .ok (.goto 4, 3) := by decide +kernel
theorem dX9_shipsAt_31 : decode cX9_shipsAt 31 = .ok (.iconst 0, 1) := by decide +kernel
theorem dX9_shipsAt_32 : decode cX9_shipsAt 32 = .ok (.ior, 1) := by decide +kernel
theorem dX9_shipsAt_33 : decode cX9_shipsAt 33 = .ok (.istore_n 2, 1) := by decide +kernel
theorem dX9_shipsAt_34 : decode cX9_shipsAt 34 = .ok (.iinc 3 1, 3) := by decide +kernel
theorem dX9_shipsAt_37 : decode cX9_shipsAt 37 = .ok (.goto (-33), 3) := by decide +kernel
theorem dX9_shipsAt_40 : decode cX9_shipsAt 40 = .ok (.iload_n 2, 1) := by decide +kernel
theorem dX9_shipsAt_41 : decode cX9_shipsAt 41 = .ok (.ireturn, 1) := by decide +kernel
theorem dX9_ofCell_0 : decode cX9_ofCell 0 = .ok (.aload_n 0, 1) := by decide +kernel
theorem dX9_ofCell_1 : decode cX9_ofCell 1 = .ok (.iload_n 1, 1) := by decide +kernel
theorem dX9_ofCell_2 : decode cX9_ofCell 2 = .ok (.invokevirtual 175, 3) := by decide +kernel
theorem dX9_ofCell_5 : decode cX9_ofCell 5 = .ok (.ifCond .eq 12, 3) := by decide +kernel
theorem dX9_ofCell_8 : decode cX9_ofCell 8 = .ok (.iload_n 2, 1) := by decide +kernel
theorem dX9_ofCell_9 : decode cX9_ofCell 9 = .ok (.iconst 0, 1) := by decide +kernel
theorem dX9_ofCell_10 : decode cX9_ofCell 10 = .ok (.iconst 5, 1) := by decide +kernel
theorem dX9_ofCell_11 : decode cX9_ofCell 11 = .ok (.invokestatic 77, 3) := by decide +kernel
theorem dX9_ofCell_14 : decode cX9_ofCell 14 = .ok (.ifCond .ne 10, 3) := by decide +kernel
theorem dX9_ofCell_17 : decode cX9_ofCell 17 = .ok (.aload_n 0, 1) := by decide +kernel
theorem dX9_ofCell_18 : decode cX9_ofCell 18 = .ok (.ldc 81, 2) := by decide +kernel
theorem dX9_ofCell_20 : decode cX9_ofCell 20 = .ok (.invokevirtual 82, 3) := by decide +kernel
theorem dX9_ofCell_23 : decode cX9_ofCell 23 = .ok (.ireturn, 1) := by decide +kernel
theorem dX9_ofCell_24 : decode cX9_ofCell 24 = .ok (.iload_n 2, 1) := by decide +kernel
theorem dX9_ofCell_25 : decode cX9_ofCell 25 = .ok (.iconst 3, 1) := by decide +kernel
theorem dX9_ofCell_26 : decode cX9_ofCell 26 = .ok (.if_icmp .ge 12, 3) := by decide +kernel
theorem dX9_ofCell_29 : decode cX9_ofCell 29 = .ok (.aload_n 0, 1) := by decide +kernel
theorem dX9_ofCell_30 : decode cX9_ofCell 30 = .ok (.iload_n 1, 1) := by decide +kernel
theorem dX9_ofCell_31 : decode cX9_ofCell 31 = .ok (.iload_n 2, 1) := by decide +kernel
theorem dX9_ofCell_32 : decode cX9_ofCell 32 = .ok (.invokevirtual 178, 3) := by decide +kernel
theorem dX9_ofCell_35 : decode cX9_ofCell 35 = .ok (.goto 40, 3) := by decide +kernel
theorem dX9_ofCell_38 : decode cX9_ofCell 38 = .ok (.iload_n 2, 1) := by decide +kernel
theorem dX9_ofCell_39 : decode cX9_ofCell 39 = .ok (.iconst 3, 1) := by decide +kernel
theorem dX9_ofCell_40 : decode cX9_ofCell 40 = .ok (.if_icmp .ne 11, 3) := by decide +kernel
theorem dX9_ofCell_43 : decode cX9_ofCell 43 = .ok (.aload_n 0, 1) := by decide +kernel
theorem dX9_ofCell_44 : decode cX9_ofCell 44 = .ok (.iload_n 1, 1) := by decide +kernel
theorem dX9_ofCell_45 : decode cX9_ofCell 45 = .ok (.invokevirtual 194, 3) := by decide +kernel
theorem dX9_ofCell_48 : decode cX9_ofCell 48 = .ok (.goto 27, 3) := by decide +kernel
theorem dX9_ofCell_51 : decode cX9_ofCell 51 = .ok (.iload_n 2, 1) := by decide +kernel
theorem dX9_ofCell_52 : decode cX9_ofCell 52 = .ok (.iconst 4, 1) := by decide +kernel
theorem dX9_ofCell_53 : decode cX9_ofCell 53 = .ok (.if_icmp .ne 17, 3) := by decide +kernel
theorem dX9_ofCell_56 : decode cX9_ofCell 56 = .ok (.aload_n 0, 1) := by decide +kernel
theorem dX9_ofCell_57 : decode cX9_ofCell 57 = .ok (.iload_n 1, 1) := by decide +kernel
theorem dX9_ofCell_58 : decode cX9_ofCell 58 = .ok (.aload_n 0, 1) := by decide +kernel
theorem dX9_ofCell_59 : decode cX9_ofCell 59 = .ok (.getfield 9, 3) := by decide +kernel
theorem dX9_ofCell_62 : decode cX9_ofCell 62 = .ok (.iconst 4, 1) := by decide +kernel
theorem dX9_ofCell_63 : decode cX9_ofCell 63 = .ok (.iaload, 1) := by decide +kernel
theorem dX9_ofCell_64 : decode cX9_ofCell 64 = .ok (.invokevirtual 197, 3) := by decide +kernel
theorem dX9_ofCell_67 : decode cX9_ofCell 67 = .ok (.goto 8, 3) := by decide +kernel
theorem dX9_ofCell_70 : decode cX9_ofCell 70 = .ok (.aload_n 0, 1) := by decide +kernel
theorem dX9_ofCell_71 : decode cX9_ofCell 71 = .ok (.iload_n 1, 1) := by decide +kernel
theorem dX9_ofCell_72 : decode cX9_ofCell 72 = .ok (.invokevirtual 200, 3) := by decide +kernel
theorem dX9_ofCell_75 : decode cX9_ofCell 75 = .ok (.ireturn, 1) := by decide +kernel
theorem dX9_set_0 : decode cX9_set 0 = .ok (.iload_n 1, 1) := by decide +kernel
theorem dX9_set_1 : decode cX9_set 1 = .ok (.ifCond .ne 10, 3) := by decide +kernel
theorem dX9_set_4 : decode cX9_set 4 = .ok (.iload_n 2, 1) := by decide +kernel
theorem dX9_set_5 : decode cX9_set 5 = .ok (.invokestatic 203, 3) := by decide +kernel
theorem dX9_set_8 : decode cX9_set 8 = .ok (.goto 46, 3) := by decide +kernel
theorem dX9_set_11 : decode cX9_set 11 = .ok (.iload_n 1, 1) := by decide +kernel
theorem dX9_set_12 : decode cX9_set 12 = .ok (.iconst 1, 1) := by decide +kernel
theorem dX9_set_13 : decode cX9_set 13 = .ok (.if_icmp .ne 13, 3) := by decide +kernel
theorem dX9_set_16 : decode cX9_set 16 = .ok (.iload_n 2, 1) := by decide +kernel
theorem dX9_set_17 : decode cX9_set 17 = .ok (.iconst 0, 1) := by decide +kernel
theorem dX9_set_18 : decode cX9_set 18 = .ok (.bipush 99, 2) := by decide +kernel
theorem dX9_set_20 : decode cX9_set 20 = .ok (.invokestatic 77, 3) := by decide +kernel
theorem dX9_set_23 : decode cX9_set 23 = .ok (.goto 31, 3) := by decide +kernel
theorem dX9_set_26 : decode cX9_set 26 = .ok (.iload_n 1, 1) := by decide +kernel
theorem dX9_set_27 : decode cX9_set 27 = .ok (.iconst 2, 1) := by decide +kernel
theorem dX9_set_28 : decode cX9_set 28 = .ok (.if_icmp .ne 25, 3) := by decide +kernel
theorem dX9_set_31 : decode cX9_set 31 = .ok (.iload_n 2, 1) := by decide +kernel
theorem dX9_set_32 : decode cX9_set 32 = .ok (.iconst 0, 1) := by decide +kernel
theorem dX9_set_33 : decode cX9_set 33 = .ok (.iconst 1, 1) := by decide +kernel
theorem dX9_set_34 : decode cX9_set 34 = .ok (.aload_n 0, 1) := by decide +kernel
theorem dX9_set_35 : decode cX9_set 35 = .ok (.getfield 9, 3) := by decide +kernel
theorem dX9_set_38 : decode cX9_set 38 = .ok (.iconst 1, 1) := by decide +kernel
theorem dX9_set_39 : decode cX9_set 39 = .ok (.iaload, 1) := by decide +kernel
theorem dX9_set_40 : decode cX9_set 40 = .ok (.ishl, 1) := by decide +kernel
theorem dX9_set_41 : decode cX9_set 41 = .ok (.iconst 1, 1) := by decide +kernel
theorem dX9_set_42 : decode cX9_set 42 = .ok (.isub, 1) := by decide +kernel
theorem dX9_set_43 : decode cX9_set 43 = .ok (.invokestatic 77, 3) := by decide +kernel
theorem dX9_set_46 : decode cX9_set 46 = .ok (.ifCond .eq 7, 3) := by decide +kernel
theorem dX9_set_49 : decode cX9_set 49 = .ok (.iconst 1, 1) := by decide +kernel
theorem dX9_set_50 : decode cX9_set 50 = .ok (.goto 4, 3) := by decide +kernel
theorem dX9_set_53 : decode cX9_set 53 = .ok (.iconst 0, 1) := by decide +kernel
theorem dX9_set_54 : decode cX9_set 54 = .ok (.istore_n 3, 1) := by decide +kernel
theorem dX9_set_55 : decode cX9_set 55 = .ok (.iload_n 3, 1) := by decide +kernel
theorem dX9_set_56 : decode cX9_set 56 = .ok (.ifCond .eq 14, 3) := by decide +kernel
theorem dX9_set_59 : decode cX9_set 59 = .ok (.aload_n 0, 1) := by decide +kernel
theorem dX9_set_60 : decode cX9_set 60 = .ok (.iconst 3, 1) := by decide +kernel
theorem dX9_set_61 : decode cX9_set 61 = .ok (.iload_n 1, 1) := by decide +kernel
theorem dX9_set_62 : decode cX9_set 62 = .ok (.iadd, 1) := by decide +kernel
theorem dX9_set_63 : decode cX9_set 63 = .ok (.iload_n 2, 1) := by decide +kernel
theorem dX9_set_64 : decode cX9_set 64 = .ok (.invokevirtual 171, 3) := by decide +kernel
theorem dX9_set_67 : decode cX9_set 67 = .ok (.goto 9, 3) := by decide +kernel
theorem dX9_set_70 : decode cX9_set 70 = .ok (.aload_n 0, 1) := by decide +kernel
theorem dX9_set_71 : decode cX9_set 71 = .ok (.ldc 81, 2) := by decide +kernel
theorem dX9_set_73 : decode cX9_set 73 = .ok (.invokevirtual 82, 3) := by decide +kernel
theorem dX9_set_76 : decode cX9_set 76 = .ok (.ireturn, 1) := by decide +kernel
theorem dX9_depth_0 : decode cX9_depth 0 = .ok (.aload_n 0, 1) := by decide +kernel
theorem dX9_depth_1 : decode cX9_depth 1 = .ok (.iload_n 1, 1) := by decide +kernel
theorem dX9_depth_2 : decode cX9_depth 2 = .ok (.invokevirtual 175, 3) := by decide +kernel
theorem dX9_depth_5 : decode cX9_depth 5 = .ok (.ifCond .eq 24, 3) := by decide +kernel
theorem dX9_depth_8 : decode cX9_depth 8 = .ok (.iload_n 2, 1) := by decide +kernel
theorem dX9_depth_9 : decode cX9_depth 9 = .ok (.bipush (-99), 2) := by decide +kernel
theorem dX9_depth_11 : decode cX9_depth 11 = .ok (.sipush 999, 3) := by decide +kernel
theorem dX9_depth_14 : decode cX9_depth 14 = .ok (.invokestatic 77, 3) := by decide +kernel
theorem dX9_depth_17 : decode cX9_depth 17 = .ok (.ifCond .eq 12, 3) := by decide +kernel
theorem dX9_depth_20 : decode cX9_depth 20 = .ok (.aload_n 0, 1) := by decide +kernel
theorem dX9_depth_21 : decode cX9_depth 21 = .ok (.iload_n 1, 1) := by decide +kernel
theorem dX9_depth_22 : decode cX9_depth 22 = .ok (.iload_n 2, 1) := by decide +kernel
theorem dX9_depth_23 : decode cX9_depth 23 = .ok (.invokevirtual 184, 3) := by decide +kernel
theorem dX9_depth_26 : decode cX9_depth 26 = .ok (.goto 9, 3) := by decide +kernel
theorem dX9_depth_29 : decode cX9_depth 29 = .ok (.aload_n 0, 1) := by decide +kernel
theorem dX9_depth_30 : decode cX9_depth 30 = .ok (.ldc 81, 2) := by decide +kernel
theorem dX9_depth_32 : decode cX9_depth 32 = .ok (.invokevirtual 82, 3) := by decide +kernel
theorem dX9_depth_35 : decode cX9_depth 35 = .ok (.ireturn, 1) := by decide +kernel
theorem dX9_isKindM_0 : decode cX9_isKindM 0 = .ok (.iload_n 0, 1) := by decide +kernel
theorem dX9_isKindM_1 : decode cX9_isKindM 1 = .ok (.iconst 0, 1) := by decide +kernel
theorem dX9_isKindM_2 : decode cX9_isKindM 2 = .ok (.bipush 69, 2) := by decide +kernel
theorem dX9_isKindM_4 : decode cX9_isKindM 4 = .ok (.invokestatic 77, 3) := by decide +kernel
theorem dX9_isKindM_7 : decode cX9_isKindM 7 = .ok (.ireturn, 1) := by decide +kernel
theorem dX9_shipComes_0 : decode cX9_shipComes 0 = .ok (.aload_n 0, 1) := by decide +kernel
theorem dX9_shipComes_1 : decode cX9_shipComes 1 = .ok (.getfield 9, 3) := by decide +kernel
theorem dX9_shipComes_4 : decode cX9_shipComes 4 = .ok (.iconst 2, 1) := by decide +kernel
theorem dX9_shipComes_5 : decode cX9_shipComes 5 = .ok (.iaload, 1) := by decide +kernel
theorem dX9_shipComes_6 : decode cX9_shipComes 6 = .ok (.istore 4, 2) := by decide +kernel
theorem dX9_shipComes_8 : decode cX9_shipComes 8 = .ok (.aload_n 0, 1) := by decide +kernel
theorem dX9_shipComes_9 : decode cX9_shipComes 9 = .ok (.getfield 9, 3) := by decide +kernel
theorem dX9_shipComes_12 : decode cX9_shipComes 12 = .ok (.iload 4, 2) := by decide +kernel
theorem dX9_shipComes_14 : decode cX9_shipComes 14 = .ok (.iconst 0, 1) := by decide +kernel
theorem dX9_shipComes_15 : decode cX9_shipComes 15 = .ok (.invokestatic 168, 3) := by decide +kernel
theorem dX9_shipComes_18 : decode cX9_shipComes 18 = .ok (.iload_n 1, 1) := by decide +kernel
theorem dX9_shipComes_19 : decode cX9_shipComes 19 = .ok (.bipush 10, 2) := by decide +kernel
theorem dX9_shipComes_21 : decode cX9_shipComes 21 = .ok (.idiv, 1) := by decide +kernel
theorem dX9_shipComes_22 : decode cX9_shipComes 22 = .ok (.iastore, 1) := by decide +kernel
theorem dX9_shipComes_23 : decode cX9_shipComes 23 = .ok (.aload_n 0, 1) := by decide +kernel
theorem dX9_shipComes_24 : decode cX9_shipComes 24 = .ok (.getfield 9, 3) := by decide +kernel
theorem dX9_shipComes_27 : decode cX9_shipComes 27 = .ok (.iload 4, 2) := by decide +kernel
theorem dX9_shipComes_29 : decode cX9_shipComes 29 = .ok (.iconst 1, 1) := by decide +kernel
theorem dX9_shipComes_30 : decode cX9_shipComes 30 = .ok (.invokestatic 168, 3) := by decide +kernel
theorem dX9_shipComes_33 : decode cX9_shipComes 33 = .ok (.iload_n 1, 1) := by decide +kernel
theorem dX9_shipComes_34 : decode cX9_shipComes 34 = .ok (.bipush 10, 2) := by decide +kernel
theorem dX9_shipComes_36 : decode cX9_shipComes 36 = .ok (.irem, 1) := by decide +kernel
theorem dX9_shipComes_37 : decode cX9_shipComes 37 = .ok (.iastore, 1) := by decide +kernel
theorem dX9_shipComes_38 : decode cX9_shipComes 38 = .ok (.aload_n 0, 1) := by decide +kernel
theorem dX9_shipComes_39 : decode cX9_shipComes 39 = .ok (.getfield 9, 3) := by decide +kernel
theorem dX9_shipComes_42 : decode cX9_shipComes 42 = .ok (.iload 4, 2) := by decide +kernel
theorem dX9_shipComes_44 : decode cX9_shipComes 44 = .ok (.iconst 2, 1) := by decide +kernel
theorem dX9_shipComes_45 : decode cX9_shipComes 45 = .ok (.invokestatic 168, 3) := by decide +kernel
theorem dX9_shipComes_48 : decode cX9_shipComes 48 = .ok (.iload_n 2, 1) := by decide +kernel
theorem dX9_shipComes_49 : decode cX9_shipComes 49 = .ok (.iastore, 1) := by decide +kernel
theorem dX9_shipComes_50 : decode cX9_shipComes 50 = .ok (.aload_n 0, 1) := by decide +kernel
theorem dX9_shipComes_51 : decode cX9_shipComes 51 = .ok (.getfield 9, 3) := by decide +kernel
theorem dX9_shipComes_54 : decode cX9_shipComes 54 = .ok (.iload 4, 2) := by decide +kernel
theorem dX9_shipComes_56 : decode cX9_shipComes 56 = .ok (.iconst 3, 1) := by decide +kernel
theorem dX9_shipComes_57 : decode cX9_shipComes 57 = .ok (.invokestatic 168, 3) := by decide +kernel
theorem dX9_shipComes_60 : decode cX9_shipComes 60 = .ok (.iload_n 3, 1) := by decide +kernel
theorem dX9_shipComes_61 : decode cX9_shipComes 61 = .ok (.iastore, 1) := by decide +kernel
theorem dX9_shipComes_62 : decode cX9_shipComes 62 = .ok (.aload_n 0, 1) := by decide +kernel
theorem dX9_shipComes_63 : decode cX9_shipComes 63 = .ok (.getfield 9, 3) := by decide +kernel
theorem dX9_shipComes_66 : decode cX9_shipComes 66 = .ok (.iload 4, 2) := by decide +kernel
theorem dX9_shipComes_68 : decode cX9_shipComes 68 = .ok (.iconst 4, 1) := by decide +kernel
theorem dX9_shipComes_69 : decode cX9_shipComes 69 = .ok (.invokestatic 168, 3) := by decide +kernel
theorem dX9_shipComes_72 : decode cX9_shipComes 72 = .ok (.iconst 0, 1) := by decide +kernel
theorem dX9_shipComes_73 : decode cX9_shipComes 73 = .ok (.iastore, 1) := by decide +kernel
theorem dX9_shipComes_74 : decode cX9_shipComes 74 = .ok (.aload_n 0, 1) := by decide +kernel
theorem dX9_shipComes_75 : decode cX9_shipComes 75 = .ok (.getfield 9, 3) := by decide +kernel
theorem dX9_shipComes_78 : decode cX9_shipComes 78 = .ok (.iconst 2, 1) := by decide +kernel
theorem dX9_shipComes_79 : decode cX9_shipComes 79 = .ok (.dup2, 1) := by decide +kernel
theorem dX9_shipComes_80 : decode cX9_shipComes 80 = .ok (.iaload, 1) := by decide +kernel
theorem dX9_shipComes_81 : decode cX9_shipComes 81 = .ok (.iconst 1, 1) := by decide +kernel
theorem dX9_shipComes_82 : decode cX9_shipComes 82 = .ok (.iadd, 1) := by decide +kernel
theorem dX9_shipComes_83 : decode cX9_shipComes 83 = .ok (.iastore, 1) := by decide +kernel
theorem dX9_shipComes_84 : decode cX9_shipComes 84 = .ok (.iload 4, 2) := by decide +kernel
theorem dX9_shipComes_86 : decode cX9_shipComes 86 = .ok (.ireturn, 1) := by decide +kernel
theorem dX9_ship_0 : decode cX9_ship 0 = .ok (.iload_n 1, 1) := by decide +kernel
theorem dX9_ship_1 : decode cX9_ship 1 = .ok (.invokestatic 206, 3) := by decide +kernel
theorem dX9_ship_4 : decode cX9_ship 4 = .ok (.ifCond .eq 18, 3) := by decide +kernel
theorem dX9_ship_7 : decode cX9_ship 7 = .ok (.iload_n 2, 1) := by decide +kernel
theorem dX9_ship_8 : decode cX9_ship 8 = .ok (.invokestatic 209, 3) := by decide +kernel
theorem dX9_ship_11 : decode cX9_ship 11 = .ok (.ifCond .eq 11, 3) := by decide +kernel
theorem dX9_ship_14 : decode cX9_ship 14 = .ok (.aload_n 0, 1) := by decide +kernel
theorem dX9_ship_15 : decode cX9_ship 15 = .ok (.iload_n 3, 1) := by decide +kernel
theorem dX9_ship_16 : decode cX9_ship 16 = .ok (.invokevirtual 175, 3) := by decide +kernel
theorem dX9_ship_19 : decode cX9_ship 19 = .ok (.ifCond .ne 10, 3) := by decide +kernel
theorem dX9_ship_22 : decode cX9_ship 22 = .ok (.aload_n 0, 1) := by decide +kernel
theorem dX9_ship_23 : decode cX9_ship 23 = .ok (.ldc 81, 2) := by decide +kernel
theorem dX9_ship_25 : decode cX9_ship 25 = .ok (.invokevirtual 82, 3) := by decide +kernel
theorem dX9_ship_28 : decode cX9_ship 28 = .ok (.ireturn, 1) := by decide +kernel
theorem dX9_ship_29 : decode cX9_ship 29 = .ok (.aload_n 0, 1) := by decide +kernel
theorem dX9_ship_30 : decode cX9_ship 30 = .ok (.getfield 9, 3) := by decide +kernel
theorem dX9_ship_33 : decode cX9_ship 33 = .ok (.iconst 2, 1) := by decide +kernel
theorem dX9_ship_34 : decode cX9_ship 34 = .ok (.iaload, 1) := by decide +kernel
theorem dX9_ship_35 : decode cX9_ship 35 = .ok (.bipush 7, 2) := by decide +kernel
theorem dX9_ship_37 : decode cX9_ship 37 = .ok (.if_icmp .ne 12, 3) := by decide +kernel
theorem dX9_ship_40 : decode cX9_ship 40 = .ok (.aload_n 0, 1) := by decide +kernel
theorem dX9_ship_41 : decode cX9_ship 41 = .ok (.ldc 85, 2) := by decide +kernel
theorem dX9_ship_43 : decode cX9_ship 43 = .ok (.invokevirtual 82, 3) := by decide +kernel
theorem dX9_ship_46 : decode cX9_ship 46 = .ok (.goto 10, 3) := by decide +kernel
theorem dX9_ship_49 : decode cX9_ship 49 = .ok (.aload_n 0, 1) := by decide +kernel
theorem dX9_ship_50 : decode cX9_ship 50 = .ok (.iload_n 1, 1) := by decide +kernel
theorem dX9_ship_51 : decode cX9_ship 51 = .ok (.iload_n 2, 1) := by decide +kernel
theorem dX9_ship_52 : decode cX9_ship 52 = .ok (.iload_n 3, 1) := by decide +kernel
theorem dX9_ship_53 : decode cX9_ship 53 = .ok (.invokevirtual 212, 3) := by decide +kernel
theorem dX9_ship_56 : decode cX9_ship 56 = .ok (.ireturn, 1) := by decide +kernel
theorem dX9_above_0 : decode cX9_above 0 = .ok (.iload_n 0, 1) := by decide +kernel
theorem dX9_above_1 : decode cX9_above 1 = .ok (.ifCond .ne 7, 3) := by decide +kernel
theorem dX9_above_4 : decode cX9_above 4 = .ok (.iconst (-1), 1) := by decide +kernel
theorem dX9_above_5 : decode cX9_above 5 = .ok (.goto 32, 3) := by decide +kernel
theorem dX9_above_8 : decode cX9_above 8 = .ok (.iload_n 0, 1) := by decide +kernel
theorem dX9_above_9 : decode cX9_above 9 = .ok (.iconst 4, 1) := by decide +kernel
theorem dX9_above_10 : decode cX9_above 10 = .ok (.if_icmp .ne 7, 3) := by decide +kernel
theorem dX9_above_13 : decode cX9_above 13 = .ok (.iconst 1, 1) := by decide +kernel
theorem dX9_above_14 : decode cX9_above 14 = .ok (.goto 23, 3) := by decide +kernel
theorem dX9_above_17 : decode cX9_above 17 = .ok (.iload_n 0, 1) := by decide +kernel
theorem dX9_above_18 : decode cX9_above 18 = .ok (.iconst 5, 1) := by decide +kernel
theorem dX9_above_19 : decode cX9_above 19 = .ok (.if_icmp .ne 7, 3) := by decide +kernel
theorem dX9_above_22 : decode cX9_above 22 = .ok (.iconst 2, 1) := by decide +kernel
theorem dX9_above_23 : decode cX9_above 23 = .ok (.goto 14, 3) := by decide +kernel
theorem dX9_above_26 : decode cX9_above 26 = .ok (.iload_n 0, 1) := by decide +kernel
theorem dX9_above_27 : decode cX9_above 27 = .ok (.bipush 6, 2) := by decide +kernel
theorem dX9_above_29 : decode cX9_above 29 = .ok (.if_icmp .ne 7, 3) := by decide +kernel
theorem dX9_above_32 : decode cX9_above 32 = .ok (.iconst 3, 1) := by decide +kernel
theorem dX9_above_33 : decode cX9_above 33 = .ok (.goto 4, 3) := by decide +kernel
theorem dX9_above_36 : decode cX9_above 36 = .ok (.iconst 0, 1) := by decide +kernel
theorem dX9_above_37 : decode cX9_above 37 = .ok (.ireturn, 1) := by decide +kernel
theorem dX9_isUnder_0 : decode cX9_isUnder 0 = .ok (.iload_n 0, 1) := by decide +kernel
theorem dX9_isUnder_1 : decode cX9_isUnder 1 = .ok (.istore_n 2, 1) := by decide +kernel
theorem dX9_isUnder_2 : decode cX9_isUnder 2 = .ok (.iload_n 2, 1) := by decide +kernel
theorem dX9_isUnder_3 : decode cX9_isUnder 3 = .ok (.ifCond .lt 16, 3) := by decide +kernel
theorem dX9_isUnder_6 : decode cX9_isUnder 6 = .ok (.iload_n 2, 1) := by decide +kernel
theorem dX9_isUnder_7 : decode cX9_isUnder 7 = .ok (.iload_n 1, 1) := by decide +kernel
theorem dX9_isUnder_8 : decode cX9_isUnder 8 = .ok (.if_icmp .eq 11, 3) := by decide +kernel
theorem dX9_isUnder_11 : decode cX9_isUnder 11 = .ok (.iload_n 2, 1) := by decide +kernel
theorem dX9_isUnder_12 : decode cX9_isUnder 12 = .ok (.invokestatic 215, 3) := by decide +kernel
theorem dX9_isUnder_15 : decode cX9_isUnder 15 = .ok (.istore_n 2, 1) := by decide +kernel
theorem dX9_isUnder_16 : decode cX9_isUnder 16 = .ok (.goto (-14), 3) := by decide +kernel
theorem dX9_isUnder_19 : decode cX9_isUnder 19 = .ok (.iload_n 2, 1) := by decide +kernel
theorem dX9_isUnder_20 : decode cX9_isUnder 20 = .ok (.ifCond .lt 7, 3) := by decide +kernel
theorem dX9_isUnder_23 : decode cX9_isUnder 23 = .ok (.iconst 1, 1) := by decide +kernel
theorem dX9_isUnder_24 : decode cX9_isUnder 24 = .ok (.goto 4, 3) := by decide +kernel
theorem dX9_isUnder_27 : decode cX9_isUnder 27 = .ok (.iconst 0, 1) := by decide +kernel
theorem dX9_isUnder_28 : decode cX9_isUnder 28 = .ok (.ireturn, 1) := by decide +kernel
theorem dX9_believes_0 : decode cX9_believes 0 = .ok (.aload_n 0, 1) := by decide +kernel
theorem dX9_believes_1 : decode cX9_believes 1 = .ok (.iload_n 2, 1) := by decide +kernel
theorem dX9_believes_2 : decode cX9_believes 2 = .ok (.aload_n 0, 1) := by decide +kernel
theorem dX9_believes_3 : decode cX9_believes 3 = .ok (.getfield 9, 3) := by decide +kernel
theorem dX9_believes_6 : decode cX9_believes 6 = .ok (.iconst 4, 1) := by decide +kernel
theorem dX9_believes_7 : decode cX9_believes 7 = .ok (.iaload, 1) := by decide +kernel
theorem dX9_believes_8 : decode cX9_believes 8 = .ok (.invokevirtual 197, 3) := by decide +kernel
theorem dX9_believes_11 : decode cX9_believes 11 = .ok (.istore_n 3, 1) := by decide +kernel
theorem dX9_believes_12 : decode cX9_believes 12 = .ok (.aload_n 0, 1) := by decide +kernel
theorem dX9_believes_13 : decode cX9_believes 13 = .ok (.iload_n 1, 1) := by decide +kernel
theorem dX9_believes_14 : decode cX9_believes 14 = .ok (.iconst 1, 1) := by decide +kernel
theorem dX9_believes_15 : decode cX9_believes 15 = .ok (.invokevirtual 191, 3) := by decide +kernel
theorem dX9_believes_18 : decode cX9_believes 18 = .ok (.istore 4, 2) := by decide +kernel
theorem dX9_believes_20 : decode cX9_believes 20 = .ok (.aload_n 0, 1) := by decide +kernel
theorem dX9_believes_21 : decode cX9_believes 21 = .ok (.iload_n 1, 1) := by decide +kernel
theorem dX9_believes_22 : decode cX9_believes 22 = .ok (.iconst 0, 1) := by decide +kernel
theorem dX9_believes_23 : decode cX9_believes 23 = .ok (.invokevirtual 191, 3) := by decide +kernel
theorem dX9_believes_26 : decode cX9_believes 26 = .ok (.tableswitch 102 1 6 #[38, 54, 70, 45, 60, 80], 38) := by decide +kernel
theorem dX9_believes_64 : decode cX9_believes 64 = .ok (.iload_n 3, 1) := by decide +kernel
theorem dX9_believes_65 : decode cX9_believes 65 = .ok (.iload 4, 2) := by decide +kernel
theorem dX9_believes_67 : decode cX9_believes 67 = .ok (.iconst 3, 1) := by decide +kernel
theorem dX9_believes_68 : decode cX9_believes 68 = .ok (.irem, 1) := by decide +kernel
theorem dX9_believes_69 : decode cX9_believes 69 = .ok (.iadd, 1) := by decide +kernel
theorem dX9_believes_70 : decode cX9_believes 70 = .ok (.ireturn, 1) := by decide +kernel
theorem dX9_believes_71 : decode cX9_believes 71 = .ok (.iload_n 3, 1) := by decide +kernel
theorem dX9_believes_72 : decode cX9_believes 72 = .ok (.iload 4, 2) := by decide +kernel
theorem dX9_believes_74 : decode cX9_believes 74 = .ok (.iconst 3, 1) := by decide +kernel
theorem dX9_believes_75 : decode cX9_believes 75 = .ok (.irem, 1) := by decide +kernel
theorem dX9_believes_76 : decode cX9_believes 76 = .ok (.iadd, 1) := by decide +kernel
theorem dX9_believes_77 : decode cX9_believes 77 = .ok (.iconst 1, 1) := by decide +kernel
theorem dX9_believes_78 : decode cX9_believes 78 = .ok (.isub, 1) := by decide +kernel
theorem dX9_believes_79 : decode cX9_believes 79 = .ok (.ireturn, 1) := by decide +kernel
theorem dX9_believes_80 : decode cX9_believes 80 = .ok (.aload_n 0, 1) := by decide +kernel
theorem dX9_believes_81 : decode cX9_believes 81 = .ok (.iload_n 2, 1) := by decide +kernel
theorem dX9_believes_82 : decode cX9_believes 82 = .ok (.invokevirtual 194, 3) := by decide +kernel
theorem dX9_believes_85 : decode cX9_believes 85 = .ok (.ireturn, 1) := by decide +kernel
theorem dX9_believes_86 : decode cX9_believes 86 = .ok (.aload_n 0, 1) := by decide +kernel
theorem dX9_believes_87 : decode cX9_believes 87 = .ok (.iload_n 2, 1) := by decide +kernel
theorem dX9_believes_88 : decode cX9_believes 88 = .ok (.invokevirtual 194, 3) := by decide +kernel
theorem dX9_believes_91 : decode cX9_believes 91 = .ok (.iload_n 3, 1) := by decide +kernel
theorem dX9_believes_92 : decode cX9_believes 92 = .ok (.invokestatic 70, 3) := by decide +kernel
theorem dX9_believes_95 : decode cX9_believes 95 = .ok (.ireturn, 1) := by decide +kernel
theorem dX9_believes_96 : decode cX9_believes 96 = .ok (.iload_n 3, 1) := by decide +kernel
theorem dX9_believes_97 : decode cX9_believes 97 = .ok (.aload_n 0, 1) := by decide +kernel
theorem dX9_believes_98 : decode cX9_believes 98 = .ok (.iload_n 2, 1) := by decide +kernel
theorem dX9_believes_99 : decode cX9_believes 99 = .ok (.invokevirtual 194, 3) := by decide +kernel
theorem dX9_believes_102 : decode cX9_believes 102 = .ok (.invokestatic 64, 3) := by decide +kernel
theorem dX9_believes_105 : decode cX9_believes 105 = .ok (.ireturn, 1) := by decide +kernel
theorem dX9_believes_106 : decode cX9_believes 106 = .ok (.aload_n 0, 1) := by decide +kernel
theorem dX9_believes_107 : decode cX9_believes 107 = .ok (.iload_n 2, 1) := by decide +kernel
theorem dX9_believes_108 : decode cX9_believes 108 = .ok (.iconst 2, 1) := by decide +kernel
theorem dX9_believes_109 : decode cX9_believes 109 = .ok (.aload_n 0, 1) := by decide +kernel
theorem dX9_believes_110 : decode cX9_believes 110 = .ok (.getfield 9, 3) := by decide +kernel
theorem dX9_believes_113 : decode cX9_believes 113 = .ok (.iconst 4, 1) := by decide +kernel
theorem dX9_believes_114 : decode cX9_believes 114 = .ok (.iaload, 1) := by decide +kernel
theorem dX9_believes_115 : decode cX9_believes 115 = .ok (.imul, 1) := by decide +kernel
theorem dX9_believes_116 : decode cX9_believes 116 = .ok (.invokevirtual 197, 3) := by decide +kernel
theorem dX9_believes_119 : decode cX9_believes 119 = .ok (.aload_n 0, 1) := by decide +kernel
theorem dX9_believes_120 : decode cX9_believes 120 = .ok (.iload_n 2, 1) := by decide +kernel
theorem dX9_believes_121 : decode cX9_believes 121 = .ok (.invokevirtual 194, 3) := by decide +kernel
theorem dX9_believes_124 : decode cX9_believes 124 = .ok (.invokestatic 64, 3) := by decide +kernel
theorem dX9_believes_127 : decode cX9_believes 127 = .ok (.ireturn, 1) := by decide +kernel
theorem dX9_believes_128 : decode cX9_believes 128 = .ok (.iload_n 3, 1) := by decide +kernel
theorem dX9_believes_129 : decode cX9_believes 129 = .ok (.ireturn, 1) := by decide +kernel
theorem dX9_ofShip_0 : decode cX9_ofShip 0 = .ok (.aload_n 0, 1) := by decide +kernel
theorem dX9_ofShip_1 : decode cX9_ofShip 1 = .ok (.iload_n 1, 1) := by decide +kernel
theorem dX9_ofShip_2 : decode cX9_ofShip 2 = .ok (.invokevirtual 218, 3) := by decide +kernel
theorem dX9_ofShip_5 : decode cX9_ofShip 5 = .ok (.ifCond .eq 12, 3) := by decide +kernel
theorem dX9_ofShip_8 : decode cX9_ofShip 8 = .ok (.iload_n 2, 1) := by decide +kernel
theorem dX9_ofShip_9 : decode cX9_ofShip 9 = .ok (.iconst 0, 1) := by decide +kernel
theorem dX9_ofShip_10 : decode cX9_ofShip 10 = .ok (.iconst 5, 1) := by decide +kernel
theorem dX9_ofShip_11 : decode cX9_ofShip 11 = .ok (.invokestatic 77, 3) := by decide +kernel
theorem dX9_ofShip_14 : decode cX9_ofShip 14 = .ok (.ifCond .ne 10, 3) := by decide +kernel
theorem dX9_ofShip_17 : decode cX9_ofShip 17 = .ok (.aload_n 0, 1) := by decide +kernel
theorem dX9_ofShip_18 : decode cX9_ofShip 18 = .ok (.ldc 81, 2) := by decide +kernel
theorem dX9_ofShip_20 : decode cX9_ofShip 20 = .ok (.invokevirtual 82, 3) := by decide +kernel
theorem dX9_ofShip_23 : decode cX9_ofShip 23 = .ok (.ireturn, 1) := by decide +kernel
theorem dX9_ofShip_24 : decode cX9_ofShip 24 = .ok (.aload_n 0, 1) := by decide +kernel
theorem dX9_ofShip_25 : decode cX9_ofShip 25 = .ok (.iload_n 1, 1) := by decide +kernel
theorem dX9_ofShip_26 : decode cX9_ofShip 26 = .ok (.iconst 3, 1) := by decide +kernel
theorem dX9_ofShip_27 : decode cX9_ofShip 27 = .ok (.invokevirtual 191, 3) := by decide +kernel
theorem dX9_ofShip_30 : decode cX9_ofShip 30 = .ok (.istore_n 3, 1) := by decide +kernel
theorem dX9_ofShip_31 : decode cX9_ofShip 31 = .ok (.iload_n 2, 1) := by decide +kernel
theorem dX9_ofShip_32 : decode cX9_ofShip 32 = .ok (.iconst 5, 1) := by decide +kernel
theorem dX9_ofShip_33 : decode cX9_ofShip 33 = .ok (.if_icmp .ge 12, 3) := by decide +kernel
theorem dX9_ofShip_36 : decode cX9_ofShip 36 = .ok (.aload_n 0, 1) := by decide +kernel
theorem dX9_ofShip_37 : decode cX9_ofShip 37 = .ok (.iload_n 1, 1) := by decide +kernel
theorem dX9_ofShip_38 : decode cX9_ofShip 38 = .ok (.iload_n 2, 1) := by decide +kernel
theorem dX9_ofShip_39 : decode cX9_ofShip 39 = .ok (.invokevirtual 191, 3) := by decide +kernel
theorem dX9_ofShip_42 : decode cX9_ofShip 42 = .ok (.goto 19, 3) := by decide +kernel
theorem dX9_ofShip_45 : decode cX9_ofShip 45 = .ok (.iload_n 3, 1) := by decide +kernel
theorem dX9_ofShip_46 : decode cX9_ofShip 46 = .ok (.ifCond .ne 7, 3) := by decide +kernel
theorem dX9_ofShip_49 : decode cX9_ofShip 49 = .ok (.iconst (-1), 1) := by decide +kernel
theorem dX9_ofShip_50 : decode cX9_ofShip 50 = .ok (.goto 11, 3) := by decide +kernel
theorem dX9_ofShip_53 : decode cX9_ofShip 53 = .ok (.aload_n 0, 1) := by decide +kernel
theorem dX9_ofShip_54 : decode cX9_ofShip 54 = .ok (.iload_n 1, 1) := by decide +kernel
theorem dX9_ofShip_55 : decode cX9_ofShip 55 = .ok (.iload_n 3, 1) := by decide +kernel
theorem dX9_ofShip_56 : decode cX9_ofShip 56 = .ok (.iconst 1, 1) := by decide +kernel
theorem dX9_ofShip_57 : decode cX9_ofShip 57 = .ok (.isub, 1) := by decide +kernel
theorem dX9_ofShip_58 : decode cX9_ofShip 58 = .ok (.invokevirtual 221, 3) := by decide +kernel
theorem dX9_ofShip_61 : decode cX9_ofShip 61 = .ok (.ireturn, 1) := by decide +kernel
theorem dX9_change_0 : decode cX9_change 0 = .ok (.iload_n 2, 1) := by decide +kernel
theorem dX9_change_1 : decode cX9_change 1 = .ok (.ifCond .ne 10, 3) := by decide +kernel
theorem dX9_change_4 : decode cX9_change 4 = .ok (.iload_n 3, 1) := by decide +kernel
theorem dX9_change_5 : decode cX9_change 5 = .ok (.invokestatic 209, 3) := by decide +kernel
theorem dX9_change_8 : decode cX9_change 8 = .ok (.goto 35, 3) := by decide +kernel
theorem dX9_change_11 : decode cX9_change 11 = .ok (.iload_n 2, 1) := by decide +kernel
theorem dX9_change_12 : decode cX9_change 12 = .ok (.iconst 1, 1) := by decide +kernel
theorem dX9_change_13 : decode cX9_change 13 = .ok (.if_icmp .ne 11, 3) := by decide +kernel
theorem dX9_change_16 : decode cX9_change 16 = .ok (.aload_n 0, 1) := by decide +kernel
theorem dX9_change_17 : decode cX9_change 17 = .ok (.iload_n 3, 1) := by decide +kernel
theorem dX9_change_18 : decode cX9_change 18 = .ok (.invokevirtual 175, 3) := by decide +kernel
theorem dX9_change_21 : decode cX9_change 21 = .ok (.goto 22, 3) := by decide +kernel
theorem dX9_change_24 : decode cX9_change 24 = .ok (.iload_n 2, 1) := by decide +kernel
theorem dX9_change_25 : decode cX9_change 25 = .ok (.iconst 2, 1) := by decide +kernel
theorem dX9_change_26 : decode cX9_change 26 = .ok (.if_icmp .ne 16, 3) := by decide +kernel
theorem dX9_change_29 : decode cX9_change 29 = .ok (.iload_n 3, 1) := by decide +kernel
theorem dX9_change_30 : decode cX9_change 30 = .ok (.iconst 0, 1) := by decide +kernel
theorem dX9_change_31 : decode cX9_change 31 = .ok (.iconst 1, 1) := by decide +kernel
theorem dX9_change_32 : decode cX9_change 32 = .ok (.invokestatic 77, 3) := by decide +kernel
theorem dX9_change_35 : decode cX9_change 35 = .ok (.ifCond .eq 7, 3) := by decide +kernel
theorem dX9_change_38 : decode cX9_change 38 = .ok (.iconst 1, 1) := by decide +kernel
theorem dX9_change_39 : decode cX9_change 39 = .ok (.goto 4, 3) := by decide +kernel
theorem dX9_change_42 : decode cX9_change 42 = .ok (.iconst 0, 1) := by decide +kernel
theorem dX9_change_43 : decode cX9_change 43 = .ok (.istore 4, 2) := by decide +kernel
theorem dX9_change_45 : decode cX9_change 45 = .ok (.aload_n 0, 1) := by decide +kernel
theorem dX9_change_46 : decode cX9_change 46 = .ok (.iload_n 1, 1) := by decide +kernel
theorem dX9_change_47 : decode cX9_change 47 = .ok (.invokevirtual 218, 3) := by decide +kernel
theorem dX9_change_50 : decode cX9_change 50 = .ok (.ifCond .eq 23, 3) := by decide +kernel
theorem dX9_change_53 : decode cX9_change 53 = .ok (.iload 4, 2) := by decide +kernel
theorem dX9_change_55 : decode cX9_change 55 = .ok (.ifCond .eq 18, 3) := by decide +kernel
theorem dX9_change_58 : decode cX9_change 58 = .ok (.aload_n 0, 1) := by decide +kernel
theorem dX9_change_59 : decode cX9_change 59 = .ok (.iload_n 1, 1) := by decide +kernel
theorem dX9_change_60 : decode cX9_change 60 = .ok (.iconst 2, 1) := by decide +kernel
theorem dX9_change_61 : decode cX9_change 61 = .ok (.iload_n 2, 1) := by decide +kernel
theorem dX9_change_62 : decode cX9_change 62 = .ok (.iadd, 1) := by decide +kernel
theorem dX9_change_63 : decode cX9_change 63 = .ok (.invokestatic 168, 3) := by decide +kernel
theorem dX9_change_66 : decode cX9_change 66 = .ok (.iload_n 3, 1) := by decide +kernel
theorem dX9_change_67 : decode cX9_change 67 = .ok (.invokevirtual 171, 3) := by decide +kernel
theorem dX9_change_70 : decode cX9_change 70 = .ok (.goto 9, 3) := by decide +kernel
theorem dX9_change_73 : decode cX9_change 73 = .ok (.aload_n 0, 1) := by decide +kernel
theorem dX9_change_74 : decode cX9_change 74 = .ok (.ldc 81, 2) := by decide +kernel
theorem dX9_change_76 : decode cX9_change 76 = .ok (.invokevirtual 82, 3) := by decide +kernel
theorem dX9_change_79 : decode cX9_change 79 = .ok (.ireturn, 1) := by decide +kernel
theorem dX9_become_0 : decode cX9_become 0 = .ok (.aload_n 0, 1) := by decide +kernel
theorem dX9_become_1 : decode cX9_become 1 = .ok (.iload_n 1, 1) := by decide +kernel
theorem dX9_become_2 : decode cX9_become 2 = .ok (.invokevirtual 218, 3) := by decide +kernel
theorem dX9_become_5 : decode cX9_become 5 = .ok (.ifCond .eq 10, 3) := by decide +kernel
theorem dX9_become_8 : decode cX9_become 8 = .ok (.iload_n 2, 1) := by decide +kernel
theorem dX9_become_9 : decode cX9_become 9 = .ok (.invokestatic 206, 3) := by decide +kernel
theorem dX9_become_12 : decode cX9_become 12 = .ok (.ifCond .ne 10, 3) := by decide +kernel
theorem dX9_become_15 : decode cX9_become 15 = .ok (.aload_n 0, 1) := by decide +kernel
theorem dX9_become_16 : decode cX9_become 16 = .ok (.ldc 81, 2) := by decide +kernel
theorem dX9_become_18 : decode cX9_become 18 = .ok (.invokevirtual 82, 3) := by decide +kernel
theorem dX9_become_21 : decode cX9_become 21 = .ok (.ireturn, 1) := by decide +kernel
theorem dX9_become_22 : decode cX9_become 22 = .ok (.aload_n 0, 1) := by decide +kernel
theorem dX9_become_23 : decode cX9_become 23 = .ok (.getfield 9, 3) := by decide +kernel
theorem dX9_become_26 : decode cX9_become 26 = .ok (.iload_n 1, 1) := by decide +kernel
theorem dX9_become_27 : decode cX9_become 27 = .ok (.iconst 1, 1) := by decide +kernel
theorem dX9_become_28 : decode cX9_become 28 = .ok (.invokestatic 168, 3) := by decide +kernel
theorem dX9_become_31 : decode cX9_become 31 = .ok (.iload_n 2, 1) := by decide +kernel
theorem dX9_become_32 : decode cX9_become 32 = .ok (.bipush 10, 2) := by decide +kernel
theorem dX9_become_34 : decode cX9_become 34 = .ok (.irem, 1) := by decide +kernel
theorem dX9_become_35 : decode cX9_become 35 = .ok (.iastore, 1) := by decide +kernel
theorem dX9_become_36 : decode cX9_become 36 = .ok (.aload_n 0, 1) := by decide +kernel
theorem dX9_become_37 : decode cX9_become 37 = .ok (.iload_n 1, 1) := by decide +kernel
theorem dX9_become_38 : decode cX9_become 38 = .ok (.iconst 0, 1) := by decide +kernel
theorem dX9_become_39 : decode cX9_become 39 = .ok (.invokestatic 168, 3) := by decide +kernel
theorem dX9_become_42 : decode cX9_become 42 = .ok (.iload_n 2, 1) := by decide +kernel
theorem dX9_become_43 : decode cX9_become 43 = .ok (.bipush 10, 2) := by decide +kernel
theorem dX9_become_45 : decode cX9_become 45 = .ok (.idiv, 1) := by decide +kernel
theorem dX9_become_46 : decode cX9_become 46 = .ok (.invokevirtual 171, 3) := by decide +kernel
theorem dX9_become_49 : decode cX9_become 49 = .ok (.ireturn, 1) := by decide +kernel
theorem dX9_as_0 : decode cX9_as 0 = .ok (.aload_n 0, 1) := by decide +kernel
theorem dX9_as_1 : decode cX9_as 1 = .ok (.iload_n 1, 1) := by decide +kernel
theorem dX9_as_2 : decode cX9_as 2 = .ok (.invokevirtual 218, 3) := by decide +kernel
theorem dX9_as_5 : decode cX9_as 5 = .ok (.ifCond .eq 13, 3) := by decide +kernel
theorem dX9_as_8 : decode cX9_as 8 = .ok (.iload_n 2, 1) := by decide +kernel
theorem dX9_as_9 : decode cX9_as 9 = .ok (.iconst 0, 1) := by decide +kernel
theorem dX9_as_10 : decode cX9_as 10 = .ok (.bipush 6, 2) := by decide +kernel
theorem dX9_as_12 : decode cX9_as 12 = .ok (.invokestatic 77, 3) := by decide +kernel
theorem dX9_as_15 : decode cX9_as 15 = .ok (.ifCond .ne 10, 3) := by decide +kernel
theorem dX9_as_18 : decode cX9_as 18 = .ok (.aload_n 0, 1) := by decide +kernel
theorem dX9_as_19 : decode cX9_as 19 = .ok (.ldc 81, 2) := by decide +kernel
theorem dX9_as_21 : decode cX9_as 21 = .ok (.invokevirtual 82, 3) := by decide +kernel
theorem dX9_as_24 : decode cX9_as 24 = .ok (.ireturn, 1) := by decide +kernel
theorem dX9_as_25 : decode cX9_as 25 = .ok (.aload_n 0, 1) := by decide +kernel
theorem dX9_as_26 : decode cX9_as 26 = .ok (.iload_n 1, 1) := by decide +kernel
theorem dX9_as_27 : decode cX9_as 27 = .ok (.iconst 0, 1) := by decide +kernel
theorem dX9_as_28 : decode cX9_as 28 = .ok (.invokevirtual 191, 3) := by decide +kernel
theorem dX9_as_31 : decode cX9_as 31 = .ok (.iload_n 2, 1) := by decide +kernel
theorem dX9_as_32 : decode cX9_as 32 = .ok (.invokestatic 224, 3) := by decide +kernel
theorem dX9_as_35 : decode cX9_as 35 = .ok (.ifCond .eq 12, 3) := by decide +kernel
theorem dX9_as_38 : decode cX9_as 38 = .ok (.aload_n 0, 1) := by decide +kernel
theorem dX9_as_39 : decode cX9_as 39 = .ok (.iload_n 1, 1) := by decide +kernel
theorem dX9_as_40 : decode cX9_as 40 = .ok (.iconst 1, 1) := by decide +kernel
theorem dX9_as_41 : decode cX9_as 41 = .ok (.invokevirtual 191, 3) := by decide +kernel
theorem dX9_as_44 : decode cX9_as 44 = .ok (.goto 9, 3) := by decide +kernel
theorem dX9_as_47 : decode cX9_as 47 = .ok (.aload_n 0, 1) := by decide +kernel
theorem dX9_as_48 : decode cX9_as 48 = .ok (.ldc 227, 2) := by decide +kernel
theorem dX9_as_50 : decode cX9_as 50 = .ok (.invokevirtual 82, 3) := by decide +kernel
theorem dX9_as_53 : decode cX9_as 53 = .ok (.ireturn, 1) := by decide +kernel
theorem dX9_sails_0 : decode cX9_sails 0 = .ok (.aload_n 0, 1) := by decide +kernel
theorem dX9_sails_1 : decode cX9_sails 1 = .ok (.iload_n 1, 1) := by decide +kernel
theorem dX9_sails_2 : decode cX9_sails 2 = .ok (.iconst 3, 1) := by decide +kernel
theorem dX9_sails_3 : decode cX9_sails 3 = .ok (.invokevirtual 191, 3) := by decide +kernel
theorem dX9_sails_6 : decode cX9_sails 6 = .ok (.istore_n 2, 1) := by decide +kernel
theorem dX9_sails_7 : decode cX9_sails 7 = .ok (.aload_n 0, 1) := by decide +kernel
theorem dX9_sails_8 : decode cX9_sails 8 = .ok (.iload_n 1, 1) := by decide +kernel
theorem dX9_sails_9 : decode cX9_sails 9 = .ok (.iload_n 2, 1) := by decide +kernel
theorem dX9_sails_10 : decode cX9_sails 10 = .ok (.iconst 1, 1) := by decide +kernel
theorem dX9_sails_11 : decode cX9_sails 11 = .ok (.isub, 1) := by decide +kernel
theorem dX9_sails_12 : decode cX9_sails 12 = .ok (.invokevirtual 221, 3) := by decide +kernel
theorem dX9_sails_15 : decode cX9_sails 15 = .ok (.aload_n 0, 1) := by decide +kernel
theorem dX9_sails_16 : decode cX9_sails 16 = .ok (.iload_n 1, 1) := by decide +kernel
theorem dX9_sails_17 : decode cX9_sails 17 = .ok (.iconst 2, 1) := by decide +kernel
theorem dX9_sails_18 : decode cX9_sails 18 = .ok (.invokevirtual 191, 3) := by decide +kernel
theorem dX9_sails_21 : decode cX9_sails 21 = .ok (.if_icmp .lt 50, 3) := by decide +kernel
theorem dX9_sails_24 : decode cX9_sails 24 = .ok (.aload_n 0, 1) := by decide +kernel
theorem dX9_sails_25 : decode cX9_sails 25 = .ok (.getfield 9, 3) := by decide +kernel
theorem dX9_sails_28 : decode cX9_sails 28 = .ok (.iload_n 1, 1) := by decide +kernel
theorem dX9_sails_29 : decode cX9_sails 29 = .ok (.iconst 3, 1) := by decide +kernel
theorem dX9_sails_30 : decode cX9_sails 30 = .ok (.invokestatic 168, 3) := by decide +kernel
theorem dX9_sails_33 : decode cX9_sails 33 = .ok (.iload_n 2, 1) := by decide +kernel
theorem dX9_sails_34 : decode cX9_sails 34 = .ok (.iconst 1, 1) := by decide +kernel
theorem dX9_sails_35 : decode cX9_sails 35 = .ok (.isub, 1) := by decide +kernel
theorem dX9_sails_36 : decode cX9_sails 36 = .ok (.iastore, 1) := by decide +kernel
theorem dX9_sails_37 : decode cX9_sails 37 = .ok (.aload_n 0, 1) := by decide +kernel
theorem dX9_sails_38 : decode cX9_sails 38 = .ok (.getfield 9, 3) := by decide +kernel
theorem dX9_sails_41 : decode cX9_sails 41 = .ok (.iload_n 1, 1) := by decide +kernel
theorem dX9_sails_42 : decode cX9_sails 42 = .ok (.iconst 4, 1) := by decide +kernel
theorem dX9_sails_43 : decode cX9_sails 43 = .ok (.invokestatic 168, 3) := by decide +kernel
theorem dX9_sails_46 : decode cX9_sails 46 = .ok (.aload_n 0, 1) := by decide +kernel
theorem dX9_sails_47 : decode cX9_sails 47 = .ok (.iload_n 2, 1) := by decide +kernel
theorem dX9_sails_48 : decode cX9_sails 48 = .ok (.iconst 1, 1) := by decide +kernel
theorem dX9_sails_49 : decode cX9_sails 49 = .ok (.isub, 1) := by decide +kernel
theorem dX9_sails_50 : decode cX9_sails 50 = .ok (.invokevirtual 194, 3) := by decide +kernel
theorem dX9_sails_53 : decode cX9_sails 53 = .ok (.aload_n 0, 1) := by decide +kernel
theorem dX9_sails_54 : decode cX9_sails 54 = .ok (.iload_n 1, 1) := by decide +kernel
theorem dX9_sails_55 : decode cX9_sails 55 = .ok (.iconst 2, 1) := by decide +kernel
theorem dX9_sails_56 : decode cX9_sails 56 = .ok (.invokevirtual 191, 3) := by decide +kernel
theorem dX9_sails_59 : decode cX9_sails 59 = .ok (.if_icmp .ge 7, 3) := by decide +kernel
theorem dX9_sails_62 : decode cX9_sails 62 = .ok (.iconst 1, 1) := by decide +kernel
theorem dX9_sails_63 : decode cX9_sails 63 = .ok (.goto 4, 3) := by decide +kernel
theorem dX9_sails_66 : decode cX9_sails 66 = .ok (.iconst 0, 1) := by decide +kernel
theorem dX9_sails_67 : decode cX9_sails 67 = .ok (.iastore, 1) := by decide +kernel
theorem dX9_sails_68 : decode cX9_sails 68 = .ok (.goto 53, 3) := by decide +kernel
theorem dX9_sails_71 : decode cX9_sails 71 = .ok (.aload_n 0, 1) := by decide +kernel
theorem dX9_sails_72 : decode cX9_sails 72 = .ok (.iconst 1, 1) := by decide +kernel
theorem dX9_sails_73 : decode cX9_sails 73 = .ok (.aload_n 0, 1) := by decide +kernel
end
section
theorem dX9_sails_74 : decode cX9_sails 74 = .ok (.iload_n 1, 1) := by decide +kernel
theorem dX9_sails_75 : decode cX9_sails 75 = .ok (.iconst 2, 1) := by decide +kernel
theorem dX9_sails_76 : decode cX9_sails 76 = .ok (.invokevirtual 191, 3) := by decide +kernel
theorem dX9_sails_79 : decode cX9_sails 79 = .ok (.aload_n 0, 1) := by decide +kernel
theorem dX9_sails_80 : decode cX9_sails 80 = .ok (.iload_n 1, 1) := by decide +kernel
theorem dX9_sails_81 : decode cX9_sails 81 = .ok (.iconst 1, 1) := by decide +kernel
theorem dX9_sails_82 : decode cX9_sails 82 = .ok (.invokevirtual 191, 3) := by decide +kernel
theorem dX9_sails_85 : decode cX9_sails 85 = .ok (.aload_n 0, 1) := by decide +kernel
theorem dX9_sails_86 : decode cX9_sails 86 = .ok (.getfield 9, 3) := by decide +kernel
theorem dX9_sails_89 : decode cX9_sails 89 = .ok (.iconst 0, 1) := by decide +kernel
theorem dX9_sails_90 : decode cX9_sails 90 = .ok (.iaload, 1) := by decide +kernel
theorem dX9_sails_91 : decode cX9_sails 91 = .ok (.invokevirtual 161, 3) := by decide +kernel
theorem dX9_sails_94 : decode cX9_sails 94 = .ok (.iconst 1, 1) := by decide +kernel
theorem dX9_sails_95 : decode cX9_sails 95 = .ok (.if_icmp .ne 26, 3) := by decide +kernel
theorem dX9_sails_98 : decode cX9_sails 98 = .ok (.aload_n 0, 1) := by decide +kernel
theorem dX9_sails_99 : decode cX9_sails 99 = .ok (.iload_n 2, 1) := by decide +kernel
theorem dX9_sails_100 : decode cX9_sails 100 = .ok (.iconst 1, 1) := by decide +kernel
theorem dX9_sails_101 : decode cX9_sails 101 = .ok (.iadd, 1) := by decide +kernel
theorem dX9_sails_102 : decode cX9_sails 102 = .ok (.invokevirtual 175, 3) := by decide +kernel
theorem dX9_sails_105 : decode cX9_sails 105 = .ok (.ifCond .eq 16, 3) := by decide +kernel
theorem dX9_sails_108 : decode cX9_sails 108 = .ok (.aload_n 0, 1) := by decide +kernel
theorem dX9_sails_109 : decode cX9_sails 109 = .ok (.getfield 9, 3) := by decide +kernel
theorem dX9_sails_112 : decode cX9_sails 112 = .ok (.iload_n 1, 1) := by decide +kernel
theorem dX9_sails_113 : decode cX9_sails 113 = .ok (.iconst 3, 1) := by decide +kernel
theorem dX9_sails_114 : decode cX9_sails 114 = .ok (.invokestatic 168, 3) := by decide +kernel
theorem dX9_sails_117 : decode cX9_sails 117 = .ok (.iload_n 2, 1) := by decide +kernel
theorem dX9_sails_118 : decode cX9_sails 118 = .ok (.iconst 1, 1) := by decide +kernel
theorem dX9_sails_119 : decode cX9_sails 119 = .ok (.iadd, 1) := by decide +kernel
theorem dX9_sails_120 : decode cX9_sails 120 = .ok (.iastore, 1) := by decide +kernel
theorem dX9_sails_121 : decode cX9_sails 121 = .ok (.return_, 1) := by decide +kernel
theorem dX9_hour_0 : decode cX9_hour 0 = .ok (.iconst 0, 1) := by decide +kernel
theorem dX9_hour_1 : decode cX9_hour 1 = .ok (.istore_n 1, 1) := by decide +kernel
theorem dX9_hour_2 : decode cX9_hour 2 = .ok (.iload_n 1, 1) := by decide +kernel
theorem dX9_hour_3 : decode cX9_hour 3 = .ok (.aload_n 0, 1) := by decide +kernel
theorem dX9_hour_4 : decode cX9_hour 4 = .ok (.getfield 9, 3) := by decide +kernel
theorem dX9_hour_7 : decode cX9_hour 7 = .ok (.iconst 2, 1) := by decide +kernel
theorem dX9_hour_8 : decode cX9_hour 8 = .ok (.iaload, 1) := by decide +kernel
theorem dX9_hour_9 : decode cX9_hour 9 = .ok (.if_icmp .ge 32, 3) := by decide +kernel
theorem dX9_hour_12 : decode cX9_hour 12 = .ok (.aload_n 0, 1) := by decide +kernel
theorem dX9_hour_13 : decode cX9_hour 13 = .ok (.iload_n 1, 1) := by decide +kernel
theorem dX9_hour_14 : decode cX9_hour 14 = .ok (.iconst 4, 1) := by decide +kernel
theorem dX9_hour_15 : decode cX9_hour 15 = .ok (.invokevirtual 191, 3) := by decide +kernel
theorem dX9_hour_18 : decode cX9_hour 18 = .ok (.ifCond .ne 17, 3) := by decide +kernel
theorem dX9_hour_21 : decode cX9_hour 21 = .ok (.aload_n 0, 1) := by decide +kernel
theorem dX9_hour_22 : decode cX9_hour 22 = .ok (.iload_n 1, 1) := by decide +kernel
theorem dX9_hour_23 : decode cX9_hour 23 = .ok (.iconst 3, 1) := by decide +kernel
theorem dX9_hour_24 : decode cX9_hour 24 = .ok (.invokevirtual 191, 3) := by decide +kernel
theorem dX9_hour_27 : decode cX9_hour 27 = .ok (.ifCond .le 8, 3) := by decide +kernel
theorem dX9_hour_30 : decode cX9_hour 30 = .ok (.aload_n 0, 1) := by decide +kernel
theorem dX9_hour_31 : decode cX9_hour 31 = .ok (.iload_n 1, 1) := by decide +kernel
theorem dX9_hour_32 : decode cX9_hour 32 = .ok (.invokevirtual 228, 3) := by decide +kernel
theorem dX9_hour_35 : decode cX9_hour 35 = .ok (.iinc 1 1, 3) := by decide +kernel
theorem dX9_hour_38 : decode cX9_hour 38 = .ok (.goto (-36), 3) := by decide +kernel
theorem dX9_hour_41 : decode cX9_hour 41 = .ok (.aload_n 0, 1) := by decide +kernel
theorem dX9_hour_42 : decode cX9_hour 42 = .ok (.getfield 9, 3) := by decide +kernel
theorem dX9_hour_45 : decode cX9_hour 45 = .ok (.iconst 0, 1) := by decide +kernel
theorem dX9_hour_46 : decode cX9_hour 46 = .ok (.dup2, 1) := by decide +kernel
theorem dX9_hour_47 : decode cX9_hour 47 = .ok (.iaload, 1) := by decide +kernel
theorem dX9_hour_48 : decode cX9_hour 48 = .ok (.iconst 1, 1) := by decide +kernel
theorem dX9_hour_49 : decode cX9_hour 49 = .ok (.iadd, 1) := by decide +kernel
theorem dX9_hour_50 : decode cX9_hour 50 = .ok (.iastore, 1) := by decide +kernel
theorem dX9_hour_51 : decode cX9_hour 51 = .ok (.return_, 1) := by decide +kernel
theorem dX9_hoursGo_0 : decode cX9_hoursGo 0 = .ok (.iconst 0, 1) := by decide +kernel
theorem dX9_hoursGo_1 : decode cX9_hoursGo 1 = .ok (.istore_n 2, 1) := by decide +kernel
theorem dX9_hoursGo_2 : decode cX9_hoursGo 2 = .ok (.iload_n 2, 1) := by decide +kernel
theorem dX9_hoursGo_3 : decode cX9_hoursGo 3 = .ok (.iload_n 1, 1) := by decide +kernel
theorem dX9_hoursGo_4 : decode cX9_hoursGo 4 = .ok (.if_icmp .ge 13, 3) := by decide +kernel
theorem dX9_hoursGo_7 : decode cX9_hoursGo 7 = .ok (.aload_n 0, 1) := by decide +kernel
theorem dX9_hoursGo_8 : decode cX9_hoursGo 8 = .ok (.invokevirtual 231, 3) := by decide +kernel
theorem dX9_hoursGo_11 : decode cX9_hoursGo 11 = .ok (.iinc 2 1, 3) := by decide +kernel
theorem dX9_hoursGo_14 : decode cX9_hoursGo 14 = .ok (.goto (-12), 3) := by decide +kernel
theorem dX9_hoursGo_17 : decode cX9_hoursGo 17 = .ok (.return_, 1) := by decide +kernel
theorem dX9_manyIn_0 : decode cX9_manyIn 0 = .ok (.aload_n 0, 1) := by decide +kernel
theorem dX9_manyIn_1 : decode cX9_manyIn 1 = .ok (.iconst 0, 1) := by decide +kernel
theorem dX9_manyIn_2 : decode cX9_manyIn 2 = .ok (.invokevirtual 200, 3) := by decide +kernel
theorem dX9_manyIn_5 : decode cX9_manyIn 5 = .ok (.invokestatic 234, 3) := by decide +kernel
theorem dX9_manyIn_8 : decode cX9_manyIn 8 = .ok (.ireturn, 1) := by decide +kernel
theorem dX9_hours_0 : decode cX9_hours 0 = .ok (.iload_n 1, 1) := by decide +kernel
theorem dX9_hours_1 : decode cX9_hours 1 = .ok (.iconst 1, 1) := by decide +kernel
theorem dX9_hours_2 : decode cX9_hours 2 = .ok (.bipush 60, 2) := by decide +kernel
theorem dX9_hours_4 : decode cX9_hours 4 = .ok (.invokestatic 77, 3) := by decide +kernel
theorem dX9_hours_7 : decode cX9_hours 7 = .ok (.ifCond .ne 10, 3) := by decide +kernel
theorem dX9_hours_10 : decode cX9_hours 10 = .ok (.aload_n 0, 1) := by decide +kernel
theorem dX9_hours_11 : decode cX9_hours 11 = .ok (.ldc 81, 2) := by decide +kernel
theorem dX9_hours_13 : decode cX9_hours 13 = .ok (.invokevirtual 82, 3) := by decide +kernel
theorem dX9_hours_16 : decode cX9_hours 16 = .ok (.ireturn, 1) := by decide +kernel
theorem dX9_hours_17 : decode cX9_hours 17 = .ok (.aload_n 0, 1) := by decide +kernel
theorem dX9_hours_18 : decode cX9_hours 18 = .ok (.getfield 9, 3) := by decide +kernel
theorem dX9_hours_21 : decode cX9_hours 21 = .ok (.iconst 0, 1) := by decide +kernel
theorem dX9_hours_22 : decode cX9_hours 22 = .ok (.iaload, 1) := by decide +kernel
theorem dX9_hours_23 : decode cX9_hours 23 = .ok (.iload_n 1, 1) := by decide +kernel
theorem dX9_hours_24 : decode cX9_hours 24 = .ok (.iadd, 1) := by decide +kernel
theorem dX9_hours_25 : decode cX9_hours 25 = .ok (.sipush 9999, 3) := by decide +kernel
theorem dX9_hours_28 : decode cX9_hours 28 = .ok (.if_icmp .le 10, 3) := by decide +kernel
theorem dX9_hours_31 : decode cX9_hours 31 = .ok (.aload_n 0, 1) := by decide +kernel
theorem dX9_hours_32 : decode cX9_hours 32 = .ok (.ldc 174, 2) := by decide +kernel
theorem dX9_hours_34 : decode cX9_hours 34 = .ok (.invokevirtual 82, 3) := by decide +kernel
theorem dX9_hours_37 : decode cX9_hours 37 = .ok (.ireturn, 1) := by decide +kernel
theorem dX9_hours_38 : decode cX9_hours 38 = .ok (.aload_n 0, 1) := by decide +kernel
theorem dX9_hours_39 : decode cX9_hours 39 = .ok (.iload_n 1, 1) := by decide +kernel
theorem dX9_hours_40 : decode cX9_hours 40 = .ok (.invokevirtual 237, 3) := by decide +kernel
theorem dX9_hours_43 : decode cX9_hours 43 = .ok (.aload_n 0, 1) := by decide +kernel
theorem dX9_hours_44 : decode cX9_hours 44 = .ok (.invokevirtual 240, 3) := by decide +kernel
theorem dX9_hours_47 : decode cX9_hours 47 = .ok (.ireturn, 1) := by decide +kernel
theorem dX9_drawn_0 : decode cX9_drawn 0 = .ok (.aload_n 0, 1) := by decide +kernel
theorem dX9_drawn_1 : decode cX9_drawn 1 = .ok (.getfield 9, 3) := by decide +kernel
theorem dX9_drawn_4 : decode cX9_drawn 4 = .ok (.bipush 6, 2) := by decide +kernel
theorem dX9_drawn_6 : decode cX9_drawn 6 = .ok (.aload_n 0, 1) := by decide +kernel
theorem dX9_drawn_7 : decode cX9_drawn 7 = .ok (.getfield 9, 3) := by decide +kernel
theorem dX9_drawn_10 : decode cX9_drawn 10 = .ok (.bipush 6, 2) := by decide +kernel
theorem dX9_drawn_12 : decode cX9_drawn 12 = .ok (.iaload, 1) := by decide +kernel
theorem dX9_drawn_13 : decode cX9_drawn 13 = .ok (.ldc 243, 2) := by decide +kernel
theorem dX9_drawn_15 : decode cX9_drawn 15 = .ok (.imul, 1) := by decide +kernel
theorem dX9_drawn_16 : decode cX9_drawn 16 = .ok (.sipush 12345, 3) := by decide +kernel
theorem dX9_drawn_19 : decode cX9_drawn 19 = .ok (.iadd, 1) := by decide +kernel
theorem dX9_drawn_20 : decode cX9_drawn 20 = .ok (.iastore, 1) := by decide +kernel
theorem dX9_drawn_21 : decode cX9_drawn 21 = .ok (.aload_n 0, 1) := by decide +kernel
theorem dX9_drawn_22 : decode cX9_drawn 22 = .ok (.getfield 9, 3) := by decide +kernel
theorem dX9_drawn_25 : decode cX9_drawn 25 = .ok (.bipush 6, 2) := by decide +kernel
theorem dX9_drawn_27 : decode cX9_drawn 27 = .ok (.iaload, 1) := by decide +kernel
theorem dX9_drawn_28 : decode cX9_drawn 28 = .ok (.bipush 8, 2) := by decide +kernel
theorem dX9_drawn_30 : decode cX9_drawn 30 = .ok (.iushr, 1) := by decide +kernel
theorem dX9_drawn_31 : decode cX9_drawn 31 = .ok (.ireturn, 1) := by decide +kernel
theorem dX9_loose_0 : decode cX9_loose 0 = .ok (.iload_n 1, 1) := by decide +kernel
theorem dX9_loose_1 : decode cX9_loose 1 = .ok (.iconst 1, 1) := by decide +kernel
theorem dX9_loose_2 : decode cX9_loose 2 = .ok (.bipush 40, 2) := by decide +kernel
theorem dX9_loose_4 : decode cX9_loose 4 = .ok (.invokestatic 77, 3) := by decide +kernel
theorem dX9_loose_7 : decode cX9_loose 7 = .ok (.ifCond .ne 10, 3) := by decide +kernel
theorem dX9_loose_10 : decode cX9_loose 10 = .ok (.aload_n 0, 1) := by decide +kernel
theorem dX9_loose_11 : decode cX9_loose 11 = .ok (.ldc 81, 2) := by decide +kernel
theorem dX9_loose_13 : decode cX9_loose 13 = .ok (.invokevirtual 82, 3) := by decide +kernel
theorem dX9_loose_16 : decode cX9_loose 16 = .ok (.ireturn, 1) := by decide +kernel
theorem dX9_loose_17 : decode cX9_loose 17 = .ok (.aload_n 0, 1) := by decide +kernel
theorem dX9_loose_18 : decode cX9_loose 18 = .ok (.getfield 9, 3) := by decide +kernel
theorem dX9_loose_21 : decode cX9_loose 21 = .ok (.iconst 0, 1) := by decide +kernel
theorem dX9_loose_22 : decode cX9_loose 22 = .ok (.iaload, 1) := by decide +kernel
theorem dX9_loose_23 : decode cX9_loose 23 = .ok (.iload_n 1, 1) := by decide +kernel
theorem dX9_loose_24 : decode cX9_loose 24 = .ok (.iadd, 1) := by decide +kernel
theorem dX9_loose_25 : decode cX9_loose 25 = .ok (.sipush 9999, 3) := by decide +kernel
theorem dX9_loose_28 : decode cX9_loose 28 = .ok (.if_icmp .le 10, 3) := by decide +kernel
theorem dX9_loose_31 : decode cX9_loose 31 = .ok (.aload_n 0, 1) := by decide +kernel
theorem dX9_loose_32 : decode cX9_loose 32 = .ok (.ldc 174, 2) := by decide +kernel
theorem dX9_loose_34 : decode cX9_loose 34 = .ok (.invokevirtual 82, 3) := by decide +kernel
theorem dX9_loose_37 : decode cX9_loose 37 = .ok (.ireturn, 1) := by decide +kernel
theorem dX9_loose_38 : decode cX9_loose 38 = .ok (.iconst 0, 1) := by decide +kernel
theorem dX9_loose_39 : decode cX9_loose 39 = .ok (.istore_n 2, 1) := by decide +kernel
theorem dX9_loose_40 : decode cX9_loose 40 = .ok (.iload_n 2, 1) := by decide +kernel
theorem dX9_loose_41 : decode cX9_loose 41 = .ok (.iload_n 1, 1) := by decide +kernel
theorem dX9_loose_42 : decode cX9_loose 42 = .ok (.if_icmp .ge 26, 3) := by decide +kernel
theorem dX9_loose_45 : decode cX9_loose 45 = .ok (.aload_n 0, 1) := by decide +kernel
theorem dX9_loose_46 : decode cX9_loose 46 = .ok (.getfield 9, 3) := by decide +kernel
theorem dX9_loose_49 : decode cX9_loose 49 = .ok (.iconst 4, 1) := by decide +kernel
theorem dX9_loose_50 : decode cX9_loose 50 = .ok (.aload_n 0, 1) := by decide +kernel
theorem dX9_loose_51 : decode cX9_loose 51 = .ok (.invokevirtual 244, 3) := by decide +kernel
theorem dX9_loose_54 : decode cX9_loose 54 = .ok (.bipush 100, 2) := by decide +kernel
theorem dX9_loose_56 : decode cX9_loose 56 = .ok (.irem, 1) := by decide +kernel
theorem dX9_loose_57 : decode cX9_loose 57 = .ok (.iastore, 1) := by decide +kernel
theorem dX9_loose_58 : decode cX9_loose 58 = .ok (.aload_n 0, 1) := by decide +kernel
theorem dX9_loose_59 : decode cX9_loose 59 = .ok (.invokevirtual 231, 3) := by decide +kernel
theorem dX9_loose_62 : decode cX9_loose 62 = .ok (.iinc 2 1, 3) := by decide +kernel
theorem dX9_loose_65 : decode cX9_loose 65 = .ok (.goto (-25), 3) := by decide +kernel
theorem dX9_loose_68 : decode cX9_loose 68 = .ok (.aload_n 0, 1) := by decide +kernel
theorem dX9_loose_69 : decode cX9_loose 69 = .ok (.invokevirtual 240, 3) := by decide +kernel
theorem dX9_loose_72 : decode cX9_loose 72 = .ok (.ireturn, 1) := by decide +kernel
theorem dX9_isBehind_0 : decode cX9_isBehind 0 = .ok (.iload_n 0, 1) := by decide +kernel
theorem dX9_isBehind_1 : decode cX9_isBehind 1 = .ok (.iconst 0, 1) := by decide +kernel
theorem dX9_isBehind_2 : decode cX9_isBehind 2 = .ok (.bipush 60, 2) := by decide +kernel
theorem dX9_isBehind_4 : decode cX9_isBehind 4 = .ok (.invokestatic 77, 3) := by decide +kernel
theorem dX9_isBehind_7 : decode cX9_isBehind 7 = .ok (.ireturn, 1) := by decide +kernel
theorem dX9_then_0 : decode cX9_then 0 = .ok (.iload_n 1, 1) := by decide +kernel
theorem dX9_then_1 : decode cX9_then 1 = .ok (.invokestatic 247, 3) := by decide +kernel
theorem dX9_then_4 : decode cX9_then 4 = .ok (.ifCond .eq 20, 3) := by decide +kernel
theorem dX9_then_7 : decode cX9_then 7 = .ok (.aload_n 0, 1) := by decide +kernel
theorem dX9_then_8 : decode cX9_then 8 = .ok (.iload_n 2, 1) := by decide +kernel
theorem dX9_then_9 : decode cX9_then 9 = .ok (.invokevirtual 218, 3) := by decide +kernel
theorem dX9_then_12 : decode cX9_then 12 = .ok (.ifCond .eq 12, 3) := by decide +kernel
theorem dX9_then_15 : decode cX9_then 15 = .ok (.iload_n 3, 1) := by decide +kernel
theorem dX9_then_16 : decode cX9_then 16 = .ok (.iconst 0, 1) := by decide +kernel
theorem dX9_then_17 : decode cX9_then 17 = .ok (.iconst 1, 1) := by decide +kernel
theorem dX9_then_18 : decode cX9_then 18 = .ok (.invokestatic 77, 3) := by decide +kernel
theorem dX9_then_21 : decode cX9_then 21 = .ok (.ifCond .ne 10, 3) := by decide +kernel
theorem dX9_then_24 : decode cX9_then 24 = .ok (.aload_n 0, 1) := by decide +kernel
theorem dX9_then_25 : decode cX9_then 25 = .ok (.ldc 81, 2) := by decide +kernel
theorem dX9_then_27 : decode cX9_then 27 = .ok (.invokevirtual 82, 3) := by decide +kernel
theorem dX9_then_30 : decode cX9_then 30 = .ok (.ireturn, 1) := by decide +kernel
theorem dX9_then_31 : decode cX9_then 31 = .ok (.aload_n 0, 1) := by decide +kernel
theorem dX9_then_32 : decode cX9_then 32 = .ok (.getfield 9, 3) := by decide +kernel
theorem dX9_then_35 : decode cX9_then 35 = .ok (.aload_n 0, 1) := by decide +kernel
theorem dX9_then_36 : decode cX9_then 36 = .ok (.getfield 16, 3) := by decide +kernel
theorem dX9_then_39 : decode cX9_then 39 = .ok (.invokestatic 73, 3) := by decide +kernel
theorem dX9_then_42 : decode cX9_then 42 = .ok (.aload_n 0, 1) := by decide +kernel
theorem dX9_then_43 : decode cX9_then 43 = .ok (.iload_n 1, 1) := by decide +kernel
theorem dX9_then_44 : decode cX9_then 44 = .ok (.invokevirtual 237, 3) := by decide +kernel
theorem dX9_then_47 : decode cX9_then 47 = .ok (.aload_n 0, 1) := by decide +kernel
theorem dX9_then_48 : decode cX9_then 48 = .ok (.aload_n 0, 1) := by decide +kernel
theorem dX9_then_49 : decode cX9_then 49 = .ok (.iload_n 2, 1) := by decide +kernel
theorem dX9_then_50 : decode cX9_then 50 = .ok (.iload_n 3, 1) := by decide +kernel
theorem dX9_then_51 : decode cX9_then 51 = .ok (.ifCond .ne 7, 3) := by decide +kernel
theorem dX9_then_54 : decode cX9_then 54 = .ok (.iconst 3, 1) := by decide +kernel
theorem dX9_then_55 : decode cX9_then 55 = .ok (.goto 4, 3) := by decide +kernel
theorem dX9_then_58 : decode cX9_then 58 = .ok (.iconst 4, 1) := by decide +kernel
theorem dX9_then_59 : decode cX9_then 59 = .ok (.invokevirtual 191, 3) := by decide +kernel
theorem dX9_then_62 : decode cX9_then 62 = .ok (.invokevirtual 250, 3) := by decide +kernel
theorem dX9_then_65 : decode cX9_then 65 = .ok (.ireturn, 1) := by decide +kernel
theorem dX9_lostNow_0 : decode cX9_lostNow 0 = .ok (.iconst 0, 1) := by decide +kernel
theorem dX9_lostNow_1 : decode cX9_lostNow 1 = .ok (.istore_n 1, 1) := by decide +kernel
theorem dX9_lostNow_2 : decode cX9_lostNow 2 = .ok (.iconst 0, 1) := by decide +kernel
theorem dX9_lostNow_3 : decode cX9_lostNow 3 = .ok (.istore_n 2, 1) := by decide +kernel
theorem dX9_lostNow_4 : decode cX9_lostNow 4 = .ok (.iload_n 2, 1) := by decide +kernel
theorem dX9_lostNow_5 : decode cX9_lostNow 5 = .ok (.aload_n 0, 1) := by decide +kernel
theorem dX9_lostNow_6 : decode cX9_lostNow 6 = .ok (.getfield 9, 3) := by decide +kernel
theorem dX9_lostNow_9 : decode cX9_lostNow 9 = .ok (.iconst 2, 1) := by decide +kernel
theorem dX9_lostNow_10 : decode cX9_lostNow 10 = .ok (.iaload, 1) := by decide +kernel
theorem dX9_lostNow_11 : decode cX9_lostNow 11 = .ok (.if_icmp .ge 20, 3) := by decide +kernel
theorem dX9_lostNow_14 : decode cX9_lostNow 14 = .ok (.iload_n 1, 1) := by decide +kernel
theorem dX9_lostNow_15 : decode cX9_lostNow 15 = .ok (.aload_n 0, 1) := by decide +kernel
theorem dX9_lostNow_16 : decode cX9_lostNow 16 = .ok (.iload_n 2, 1) := by decide +kernel
theorem dX9_lostNow_17 : decode cX9_lostNow 17 = .ok (.iconst 4, 1) := by decide +kernel
theorem dX9_lostNow_18 : decode cX9_lostNow 18 = .ok (.invokevirtual 191, 3) := by decide +kernel
theorem dX9_lostNow_21 : decode cX9_lostNow 21 = .ok (.iload_n 2, 1) := by decide +kernel
theorem dX9_lostNow_22 : decode cX9_lostNow 22 = .ok (.ishl, 1) := by decide +kernel
theorem dX9_lostNow_23 : decode cX9_lostNow 23 = .ok (.ior, 1) := by decide +kernel
theorem dX9_lostNow_24 : decode cX9_lostNow 24 = .ok (.istore_n 1, 1) := by decide +kernel
theorem dX9_lostNow_25 : decode cX9_lostNow 25 = .ok (.iinc 2 1, 3) := by decide +kernel
theorem dX9_lostNow_28 : decode cX9_lostNow 28 = .ok (.goto (-24), 3) := by decide +kernel
theorem dX9_lostNow_31 : decode cX9_lostNow 31 = .ok (.iload_n 1, 1) := by decide +kernel
theorem dX9_lostNow_32 : decode cX9_lostNow 32 = .ok (.ireturn, 1) := by decide +kernel
theorem dX9_lost_0 : decode cX9_lost 0 = .ok (.iload_n 1, 1) := by decide +kernel
theorem dX9_lost_1 : decode cX9_lost 1 = .ok (.iconst 0, 1) := by decide +kernel
theorem dX9_lost_2 : decode cX9_lost 2 = .ok (.iconst 1, 1) := by decide +kernel
theorem dX9_lost_3 : decode cX9_lost 3 = .ok (.invokestatic 77, 3) := by decide +kernel
theorem dX9_lost_6 : decode cX9_lost 6 = .ok (.ifCond .ne 10, 3) := by decide +kernel
theorem dX9_lost_9 : decode cX9_lost 9 = .ok (.aload_n 0, 1) := by decide +kernel
theorem dX9_lost_10 : decode cX9_lost 10 = .ok (.ldc 81, 2) := by decide +kernel
theorem dX9_lost_12 : decode cX9_lost 12 = .ok (.invokevirtual 82, 3) := by decide +kernel
theorem dX9_lost_15 : decode cX9_lost 15 = .ok (.ireturn, 1) := by decide +kernel
theorem dX9_lost_16 : decode cX9_lost 16 = .ok (.aload_n 0, 1) := by decide +kernel
theorem dX9_lost_17 : decode cX9_lost 17 = .ok (.getfield 9, 3) := by decide +kernel
theorem dX9_lost_20 : decode cX9_lost 20 = .ok (.aload_n 0, 1) := by decide +kernel
theorem dX9_lost_21 : decode cX9_lost 21 = .ok (.getfield 16, 3) := by decide +kernel
theorem dX9_lost_24 : decode cX9_lost 24 = .ok (.invokestatic 73, 3) := by decide +kernel
theorem dX9_lost_27 : decode cX9_lost 27 = .ok (.aload_n 0, 1) := by decide +kernel
theorem dX9_lost_28 : decode cX9_lost 28 = .ok (.invokevirtual 253, 3) := by decide +kernel
theorem dX9_lost_31 : decode cX9_lost 31 = .ok (.istore_n 2, 1) := by decide +kernel
theorem dX9_lost_32 : decode cX9_lost 32 = .ok (.iconst 0, 1) := by decide +kernel
theorem dX9_lost_33 : decode cX9_lost 33 = .ok (.istore_n 3, 1) := by decide +kernel
theorem dX9_lost_34 : decode cX9_lost 34 = .ok (.iload_n 3, 1) := by decide +kernel
theorem dX9_lost_35 : decode cX9_lost 35 = .ok (.bipush 60, 2) := by decide +kernel
theorem dX9_lost_37 : decode cX9_lost 37 = .ok (.if_icmp .ge 21, 3) := by decide +kernel
theorem dX9_lost_40 : decode cX9_lost 40 = .ok (.aload_n 0, 1) := by decide +kernel
theorem dX9_lost_41 : decode cX9_lost 41 = .ok (.invokevirtual 253, 3) := by decide +kernel
theorem dX9_lost_44 : decode cX9_lost 44 = .ok (.iload_n 2, 1) := by decide +kernel
theorem dX9_lost_45 : decode cX9_lost 45 = .ok (.if_icmp .ne 13, 3) := by decide +kernel
theorem dX9_lost_48 : decode cX9_lost 48 = .ok (.aload_n 0, 1) := by decide +kernel
theorem dX9_lost_49 : decode cX9_lost 49 = .ok (.invokevirtual 231, 3) := by decide +kernel
theorem dX9_lost_52 : decode cX9_lost 52 = .ok (.iinc 3 1, 3) := by decide +kernel
theorem dX9_lost_55 : decode cX9_lost 55 = .ok (.goto (-21), 3) := by decide +kernel
theorem dX9_lost_58 : decode cX9_lost 58 = .ok (.aload_n 0, 1) := by decide +kernel
theorem dX9_lost_59 : decode cX9_lost 59 = .ok (.invokevirtual 253, 3) := by decide +kernel
theorem dX9_lost_62 : decode cX9_lost 62 = .ok (.iload_n 2, 1) := by decide +kernel
theorem dX9_lost_63 : decode cX9_lost 63 = .ok (.iconst (-1), 1) := by decide +kernel
theorem dX9_lost_64 : decode cX9_lost 64 = .ok (.ixor, 1) := by decide +kernel
theorem dX9_lost_65 : decode cX9_lost 65 = .ok (.iand, 1) := by decide +kernel
theorem dX9_lost_66 : decode cX9_lost 66 = .ok (.istore 4, 2) := by decide +kernel
theorem dX9_lost_68 : decode cX9_lost 68 = .ok (.aload_n 0, 1) := by decide +kernel
theorem dX9_lost_69 : decode cX9_lost 69 = .ok (.getfield 16, 3) := by decide +kernel
theorem dX9_lost_72 : decode cX9_lost 72 = .ok (.aload_n 0, 1) := by decide +kernel
theorem dX9_lost_73 : decode cX9_lost 73 = .ok (.getfield 9, 3) := by decide +kernel
theorem dX9_lost_76 : decode cX9_lost 76 = .ok (.invokestatic 73, 3) := by decide +kernel
theorem dX9_lost_79 : decode cX9_lost 79 = .ok (.iload 4, 2) := by decide +kernel
theorem dX9_lost_81 : decode cX9_lost 81 = .ok (.ifCond .ne 13, 3) := by decide +kernel
theorem dX9_lost_84 : decode cX9_lost 84 = .ok (.aload_n 0, 1) := by decide +kernel
theorem dX9_lost_85 : decode cX9_lost 85 = .ok (.ldc_w 256, 3) := by decide +kernel
theorem dX9_lost_88 : decode cX9_lost 88 = .ok (.invokevirtual 82, 3) := by decide +kernel
theorem dX9_lost_91 : decode cX9_lost 91 = .ok (.goto 22, 3) := by decide +kernel
theorem dX9_lost_94 : decode cX9_lost 94 = .ok (.iload_n 1, 1) := by decide +kernel
theorem dX9_lost_95 : decode cX9_lost 95 = .ok (.ifCond .ne 7, 3) := by decide +kernel
theorem dX9_lost_98 : decode cX9_lost 98 = .ok (.iload_n 3, 1) := by decide +kernel
theorem dX9_lost_99 : decode cX9_lost 99 = .ok (.goto 14, 3) := by decide +kernel
theorem dX9_lost_102 : decode cX9_lost 102 = .ok (.iload 4, 2) := by decide +kernel
theorem dX9_lost_104 : decode cX9_lost 104 = .ok (.iload 4, 2) := by decide +kernel
theorem dX9_lost_106 : decode cX9_lost 106 = .ok (.ineg, 1) := by decide +kernel
theorem dX9_lost_107 : decode cX9_lost 107 = .ok (.iand, 1) := by decide +kernel
theorem dX9_lost_108 : decode cX9_lost 108 = .ok (.iconst 1, 1) := by decide +kernel
theorem dX9_lost_109 : decode cX9_lost 109 = .ok (.isub, 1) := by decide +kernel
theorem dX9_lost_110 : decode cX9_lost 110 = .ok (.invokestatic 234, 3) := by decide +kernel
theorem dX9_lost_113 : decode cX9_lost 113 = .ok (.ireturn, 1) := by decide +kernel
theorem dX9_inBehind_0 : decode cX9_inBehind 0 = .ok (.aload_n 0, 1) := by decide +kernel
theorem dX9_inBehind_1 : decode cX9_inBehind 1 = .ok (.iload_n 1, 1) := by decide +kernel
theorem dX9_inBehind_2 : decode cX9_inBehind 2 = .ok (.invokevirtual 237, 3) := by decide +kernel
theorem dX9_inBehind_5 : decode cX9_inBehind 5 = .ok (.aload_n 0, 1) := by decide +kernel
theorem dX9_inBehind_6 : decode cX9_inBehind 6 = .ok (.aload_n 0, 1) := by decide +kernel
theorem dX9_inBehind_7 : decode cX9_inBehind 7 = .ok (.iconst 0, 1) := by decide +kernel
theorem dX9_inBehind_8 : decode cX9_inBehind 8 = .ok (.invokevirtual 200, 3) := by decide +kernel
theorem dX9_inBehind_11 : decode cX9_inBehind 11 = .ok (.invokevirtual 250, 3) := by decide +kernel
theorem dX9_inBehind_14 : decode cX9_inBehind 14 = .ok (.ireturn, 1) := by decide +kernel
theorem dX9_setting_0 : decode cX9_setting 0 = .ok (.iload_n 1, 1) := by decide +kernel
theorem dX9_setting_1 : decode cX9_setting 1 = .ok (.iconst 0, 1) := by decide +kernel
theorem dX9_setting_2 : decode cX9_setting 2 = .ok (.iconst 1, 1) := by decide +kernel
theorem dX9_setting_3 : decode cX9_setting 3 = .ok (.aload_n 0, 1) := by decide +kernel
theorem dX9_setting_4 : decode cX9_setting 4 = .ok (.getfield 9, 3) := by decide +kernel
theorem dX9_setting_7 : decode cX9_setting 7 = .ok (.iconst 2, 1) := by decide +kernel
theorem dX9_setting_8 : decode cX9_setting 8 = .ok (.iaload, 1) := by decide +kernel
theorem dX9_setting_9 : decode cX9_setting 9 = .ok (.ishl, 1) := by decide +kernel
theorem dX9_setting_10 : decode cX9_setting 10 = .ok (.iconst 1, 1) := by decide +kernel
theorem dX9_setting_11 : decode cX9_setting 11 = .ok (.isub, 1) := by decide +kernel
theorem dX9_setting_12 : decode cX9_setting 12 = .ok (.invokestatic 77, 3) := by decide +kernel
theorem dX9_setting_15 : decode cX9_setting 15 = .ok (.ifCond .eq 13, 3) := by decide +kernel
theorem dX9_setting_18 : decode cX9_setting 18 = .ok (.iload_n 2, 1) := by decide +kernel
theorem dX9_setting_19 : decode cX9_setting 19 = .ok (.iconst 0, 1) := by decide +kernel
theorem dX9_setting_20 : decode cX9_setting 20 = .ok (.bipush 20, 2) := by decide +kernel
theorem dX9_setting_22 : decode cX9_setting 22 = .ok (.invokestatic 77, 3) := by decide +kernel
theorem dX9_setting_25 : decode cX9_setting 25 = .ok (.ifCond .ne 10, 3) := by decide +kernel
theorem dX9_setting_28 : decode cX9_setting 28 = .ok (.aload_n 0, 1) := by decide +kernel
theorem dX9_setting_29 : decode cX9_setting 29 = .ok (.ldc 81, 2) := by decide +kernel
theorem dX9_setting_31 : decode cX9_setting 31 = .ok (.invokevirtual 82, 3) := by decide +kernel
theorem dX9_setting_34 : decode cX9_setting 34 = .ok (.ireturn, 1) := by decide +kernel
theorem dX9_setting_35 : decode cX9_setting 35 = .ok (.aload_n 0, 1) := by decide +kernel
theorem dX9_setting_36 : decode cX9_setting 36 = .ok (.getfield 9, 3) := by decide +kernel
theorem dX9_setting_39 : decode cX9_setting 39 = .ok (.aload_n 0, 1) := by decide +kernel
theorem dX9_setting_40 : decode cX9_setting 40 = .ok (.getfield 16, 3) := by decide +kernel
theorem dX9_setting_43 : decode cX9_setting 43 = .ok (.invokestatic 73, 3) := by decide +kernel
theorem dX9_setting_46 : decode cX9_setting 46 = .ok (.iconst (-1), 1) := by decide +kernel
theorem dX9_setting_47 : decode cX9_setting 47 = .ok (.istore_n 3, 1) := by decide +kernel
theorem dX9_setting_48 : decode cX9_setting 48 = .ok (.iconst 0, 1) := by decide +kernel
theorem dX9_setting_49 : decode cX9_setting 49 = .ok (.istore 4, 2) := by decide +kernel
theorem dX9_setting_51 : decode cX9_setting 51 = .ok (.iload 4, 2) := by decide +kernel
theorem dX9_setting_53 : decode cX9_setting 53 = .ok (.bipush 99, 2) := by decide +kernel
theorem dX9_setting_55 : decode cX9_setting 55 = .ok (.if_icmp .gt 40, 3) := by decide +kernel
theorem dX9_setting_58 : decode cX9_setting 58 = .ok (.iload_n 3, 1) := by decide +kernel
theorem dX9_setting_59 : decode cX9_setting 59 = .ok (.ifCond .ge 36, 3) := by decide +kernel
theorem dX9_setting_62 : decode cX9_setting 62 = .ok (.aload_n 0, 1) := by decide +kernel
theorem dX9_setting_63 : decode cX9_setting 63 = .ok (.getfield 9, 3) := by decide +kernel
theorem dX9_setting_66 : decode cX9_setting 66 = .ok (.iconst 4, 1) := by decide +kernel
theorem dX9_setting_67 : decode cX9_setting 67 = .ok (.iload 4, 2) := by decide +kernel
theorem dX9_setting_69 : decode cX9_setting 69 = .ok (.iastore, 1) := by decide +kernel
theorem dX9_setting_70 : decode cX9_setting 70 = .ok (.iload_n 1, 1) := by decide +kernel
theorem dX9_setting_71 : decode cX9_setting 71 = .ok (.aload_n 0, 1) := by decide +kernel
theorem dX9_setting_72 : decode cX9_setting 72 = .ok (.iload_n 2, 1) := by decide +kernel
theorem dX9_setting_73 : decode cX9_setting 73 = .ok (.invokevirtual 257, 3) := by decide +kernel
theorem dX9_setting_76 : decode cX9_setting 76 = .ok (.iconst (-1), 1) := by decide +kernel
theorem dX9_setting_77 : decode cX9_setting 77 = .ok (.ixor, 1) := by decide +kernel
theorem dX9_setting_78 : decode cX9_setting 78 = .ok (.iand, 1) := by decide +kernel
theorem dX9_setting_79 : decode cX9_setting 79 = .ok (.ifCond .ne 8, 3) := by decide +kernel
theorem dX9_setting_82 : decode cX9_setting 82 = .ok (.iload 4, 2) := by decide +kernel
theorem dX9_setting_84 : decode cX9_setting 84 = .ok (.goto 4, 3) := by decide +kernel
theorem dX9_setting_87 : decode cX9_setting 87 = .ok (.iconst (-1), 1) := by decide +kernel
theorem dX9_setting_88 : decode cX9_setting 88 = .ok (.istore_n 3, 1) := by decide +kernel
theorem dX9_setting_89 : decode cX9_setting 89 = .ok (.iinc 4 1, 3) := by decide +kernel
theorem dX9_setting_92 : decode cX9_setting 92 = .ok (.goto (-41), 3) := by decide +kernel
theorem dX9_setting_95 : decode cX9_setting 95 = .ok (.iload_n 3, 1) := by decide +kernel
theorem dX9_setting_96 : decode cX9_setting 96 = .ok (.ifCond .ge 13, 3) := by decide +kernel
theorem dX9_setting_99 : decode cX9_setting 99 = .ok (.aload_n 0, 1) := by decide +kernel
theorem dX9_setting_100 : decode cX9_setting 100 = .ok (.ldc_w 256, 3) := by decide +kernel
theorem dX9_setting_103 : decode cX9_setting 103 = .ok (.invokevirtual 82, 3) := by decide +kernel
theorem dX9_setting_106 : decode cX9_setting 106 = .ok (.goto 4, 3) := by decide +kernel
theorem dX9_setting_109 : decode cX9_setting 109 = .ok (.iload_n 3, 1) := by decide +kernel
theorem dX9_setting_110 : decode cX9_setting 110 = .ok (.ireturn, 1) := by decide +kernel
theorem dX9_falseBy_0 : decode cX9_falseBy 0 = .ok (.iconst 0, 1) := by decide +kernel
theorem dX9_falseBy_1 : decode cX9_falseBy 1 = .ok (.istore_n 2, 1) := by decide +kernel
theorem dX9_falseBy_2 : decode cX9_falseBy 2 = .ok (.iconst 0, 1) := by decide +kernel
theorem dX9_falseBy_3 : decode cX9_falseBy 3 = .ok (.istore_n 3, 1) := by decide +kernel
theorem dX9_falseBy_4 : decode cX9_falseBy 4 = .ok (.iload_n 3, 1) := by decide +kernel
theorem dX9_falseBy_5 : decode cX9_falseBy 5 = .ok (.aload_n 0, 1) := by decide +kernel
theorem dX9_falseBy_6 : decode cX9_falseBy 6 = .ok (.getfield 9, 3) := by decide +kernel
theorem dX9_falseBy_9 : decode cX9_falseBy 9 = .ok (.iconst 1, 1) := by decide +kernel
theorem dX9_falseBy_10 : decode cX9_falseBy 10 = .ok (.iaload, 1) := by decide +kernel
theorem dX9_falseBy_11 : decode cX9_falseBy 11 = .ok (.if_icmp .ge 38, 3) := by decide +kernel
theorem dX9_falseBy_14 : decode cX9_falseBy 14 = .ok (.iload_n 2, 1) := by decide +kernel
theorem dX9_falseBy_15 : decode cX9_falseBy 15 = .ok (.aload_n 0, 1) := by decide +kernel
theorem dX9_falseBy_16 : decode cX9_falseBy 16 = .ok (.iload_n 3, 1) := by decide +kernel
theorem dX9_falseBy_17 : decode cX9_falseBy 17 = .ok (.aload_n 0, 1) := by decide +kernel
theorem dX9_falseBy_18 : decode cX9_falseBy 18 = .ok (.getfield 9, 3) := by decide +kernel
theorem dX9_falseBy_21 : decode cX9_falseBy 21 = .ok (.iconst 3, 1) := by decide +kernel
theorem dX9_falseBy_22 : decode cX9_falseBy 22 = .ok (.iaload, 1) := by decide +kernel
theorem dX9_falseBy_23 : decode cX9_falseBy 23 = .ok (.iload_n 1, 1) := by decide +kernel
theorem dX9_falseBy_24 : decode cX9_falseBy 24 = .ok (.isub, 1) := by decide +kernel
theorem dX9_falseBy_25 : decode cX9_falseBy 25 = .ok (.invokevirtual 184, 3) := by decide +kernel
theorem dX9_falseBy_28 : decode cX9_falseBy 28 = .ok (.aload_n 0, 1) := by decide +kernel
theorem dX9_falseBy_29 : decode cX9_falseBy 29 = .ok (.iload_n 3, 1) := by decide +kernel
theorem dX9_falseBy_30 : decode cX9_falseBy 30 = .ok (.invokevirtual 194, 3) := by decide +kernel
theorem dX9_falseBy_33 : decode cX9_falseBy 33 = .ok (.if_icmp .ne 7, 3) := by decide +kernel
theorem dX9_falseBy_36 : decode cX9_falseBy 36 = .ok (.iconst 0, 1) := by decide +kernel
theorem dX9_falseBy_37 : decode cX9_falseBy 37 = .ok (.goto 4, 3) := by decide +kernel
theorem dX9_falseBy_40 : decode cX9_falseBy 40 = .ok (.iconst 1, 1) := by decide +kernel
theorem dX9_falseBy_41 : decode cX9_falseBy 41 = .ok (.iadd, 1) := by decide +kernel
theorem dX9_falseBy_42 : decode cX9_falseBy 42 = .ok (.istore_n 2, 1) := by decide +kernel
theorem dX9_falseBy_43 : decode cX9_falseBy 43 = .ok (.iinc 3 1, 3) := by decide +kernel
theorem dX9_falseBy_46 : decode cX9_falseBy 46 = .ok (.goto (-42), 3) := by decide +kernel
theorem dX9_falseBy_49 : decode cX9_falseBy 49 = .ok (.iload_n 2, 1) := by decide +kernel
theorem dX9_falseBy_50 : decode cX9_falseBy 50 = .ok (.ireturn, 1) := by decide +kernel
theorem dX9_leastFalse_0 : decode cX9_leastFalse 0 = .ok (.iload_n 1, 1) := by decide +kernel
theorem dX9_leastFalse_1 : decode cX9_leastFalse 1 = .ok (.iconst 0, 1) := by decide +kernel
theorem dX9_leastFalse_2 : decode cX9_leastFalse 2 = .ok (.iconst 1, 1) := by decide +kernel
theorem dX9_leastFalse_3 : decode cX9_leastFalse 3 = .ok (.invokestatic 77, 3) := by decide +kernel
theorem dX9_leastFalse_6 : decode cX9_leastFalse 6 = .ok (.ifCond .ne 10, 3) := by decide +kernel
theorem dX9_leastFalse_9 : decode cX9_leastFalse 9 = .ok (.aload_n 0, 1) := by decide +kernel
theorem dX9_leastFalse_10 : decode cX9_leastFalse 10 = .ok (.ldc 81, 2) := by decide +kernel
theorem dX9_leastFalse_12 : decode cX9_leastFalse 12 = .ok (.invokevirtual 82, 3) := by decide +kernel
theorem dX9_leastFalse_15 : decode cX9_leastFalse 15 = .ok (.ireturn, 1) := by decide +kernel
theorem dX9_leastFalse_16 : decode cX9_leastFalse 16 = .ok (.iconst 1, 1) := by decide +kernel
theorem dX9_leastFalse_17 : decode cX9_leastFalse 17 = .ok (.istore_n 2, 1) := by decide +kernel
theorem dX9_leastFalse_18 : decode cX9_leastFalse 18 = .ok (.iconst 2, 1) := by decide +kernel
theorem dX9_leastFalse_19 : decode cX9_leastFalse 19 = .ok (.istore_n 3, 1) := by decide +kernel
theorem dX9_leastFalse_20 : decode cX9_leastFalse 20 = .ok (.iload_n 3, 1) := by decide +kernel
theorem dX9_leastFalse_21 : decode cX9_leastFalse 21 = .ok (.bipush 99, 2) := by decide +kernel
theorem dX9_leastFalse_23 : decode cX9_leastFalse 23 = .ok (.if_icmp .gt 28, 3) := by decide +kernel
theorem dX9_leastFalse_26 : decode cX9_leastFalse 26 = .ok (.aload_n 0, 1) := by decide +kernel
theorem dX9_leastFalse_27 : decode cX9_leastFalse 27 = .ok (.iload_n 3, 1) := by decide +kernel
theorem dX9_leastFalse_28 : decode cX9_leastFalse 28 = .ok (.invokevirtual 260, 3) := by decide +kernel
theorem dX9_leastFalse_31 : decode cX9_leastFalse 31 = .ok (.aload_n 0, 1) := by decide +kernel
theorem dX9_leastFalse_32 : decode cX9_leastFalse 32 = .ok (.iload_n 2, 1) := by decide +kernel
theorem dX9_leastFalse_33 : decode cX9_leastFalse 33 = .ok (.invokevirtual 260, 3) := by decide +kernel
theorem dX9_leastFalse_36 : decode cX9_leastFalse 36 = .ok (.if_icmp .ge 7, 3) := by decide +kernel
theorem dX9_leastFalse_39 : decode cX9_leastFalse 39 = .ok (.iload_n 3, 1) := by decide +kernel
theorem dX9_leastFalse_40 : decode cX9_leastFalse 40 = .ok (.goto 4, 3) := by decide +kernel
theorem dX9_leastFalse_43 : decode cX9_leastFalse 43 = .ok (.iload_n 2, 1) := by decide +kernel
theorem dX9_leastFalse_44 : decode cX9_leastFalse 44 = .ok (.istore_n 2, 1) := by decide +kernel
theorem dX9_leastFalse_45 : decode cX9_leastFalse 45 = .ok (.iinc 3 1, 3) := by decide +kernel
theorem dX9_leastFalse_48 : decode cX9_leastFalse 48 = .ok (.goto (-28), 3) := by decide +kernel
theorem dX9_leastFalse_51 : decode cX9_leastFalse 51 = .ok (.iload_n 1, 1) := by decide +kernel
theorem dX9_leastFalse_52 : decode cX9_leastFalse 52 = .ok (.ifCond .ne 7, 3) := by decide +kernel
theorem dX9_leastFalse_55 : decode cX9_leastFalse 55 = .ok (.iload_n 2, 1) := by decide +kernel
theorem dX9_leastFalse_56 : decode cX9_leastFalse 56 = .ok (.goto 8, 3) := by decide +kernel
theorem dX9_leastFalse_59 : decode cX9_leastFalse 59 = .ok (.aload_n 0, 1) := by decide +kernel
theorem dX9_leastFalse_60 : decode cX9_leastFalse 60 = .ok (.iload_n 2, 1) := by decide +kernel
theorem dX9_leastFalse_61 : decode cX9_leastFalse 61 = .ok (.invokevirtual 260, 3) := by decide +kernel
theorem dX9_leastFalse_64 : decode cX9_leastFalse 64 = .ok (.ireturn, 1) := by decide +kernel
theorem dX9_isShownSo_0 : decode cX9_isShownSo 0 = .ok (.iconst 1, 1) := by decide +kernel
theorem dX9_isShownSo_1 : decode cX9_isShownSo 1 = .ok (.istore_n 3, 1) := by decide +kernel
theorem dX9_isShownSo_2 : decode cX9_isShownSo 2 = .ok (.iconst 0, 1) := by decide +kernel
theorem dX9_isShownSo_3 : decode cX9_isShownSo 3 = .ok (.istore 4, 2) := by decide +kernel
theorem dX9_isShownSo_5 : decode cX9_isShownSo 5 = .ok (.iload 4, 2) := by decide +kernel
theorem dX9_isShownSo_7 : decode cX9_isShownSo 7 = .ok (.aload_n 0, 1) := by decide +kernel
theorem dX9_isShownSo_8 : decode cX9_isShownSo 8 = .ok (.getfield 9, 3) := by decide +kernel
theorem dX9_isShownSo_11 : decode cX9_isShownSo 11 = .ok (.iconst 1, 1) := by decide +kernel
theorem dX9_isShownSo_12 : decode cX9_isShownSo 12 = .ok (.iaload, 1) := by decide +kernel
theorem dX9_isShownSo_13 : decode cX9_isShownSo 13 = .ok (.if_icmp .ge 50, 3) := by decide +kernel
theorem dX9_isShownSo_16 : decode cX9_isShownSo 16 = .ok (.aload_n 0, 1) := by decide +kernel
theorem dX9_isShownSo_17 : decode cX9_isShownSo 17 = .ok (.getfield 53, 3) := by decide +kernel
theorem dX9_isShownSo_20 : decode cX9_isShownSo 20 = .ok (.bipush 40, 2) := by decide +kernel
theorem dX9_isShownSo_22 : decode cX9_isShownSo 22 = .ok (.iload_n 1, 1) := by decide +kernel
theorem dX9_isShownSo_23 : decode cX9_isShownSo 23 = .ok (.imul, 1) := by decide +kernel
theorem dX9_isShownSo_24 : decode cX9_isShownSo 24 = .ok (.iload 4, 2) := by decide +kernel
theorem dX9_isShownSo_26 : decode cX9_isShownSo 26 = .ok (.iadd, 1) := by decide +kernel
theorem dX9_isShownSo_27 : decode cX9_isShownSo 27 = .ok (.iaload, 1) := by decide +kernel
theorem dX9_isShownSo_28 : decode cX9_isShownSo 28 = .ok (.istore 5, 2) := by decide +kernel
theorem dX9_isShownSo_30 : decode cX9_isShownSo 30 = .ok (.iload_n 3, 1) := by decide +kernel
theorem dX9_isShownSo_31 : decode cX9_isShownSo 31 = .ok (.ifCond .eq 24, 3) := by decide +kernel
theorem dX9_isShownSo_34 : decode cX9_isShownSo 34 = .ok (.iload 5, 2) := by decide +kernel
theorem dX9_isShownSo_36 : decode cX9_isShownSo 36 = .ok (.ifCond .lt 15, 3) := by decide +kernel
theorem dX9_isShownSo_39 : decode cX9_isShownSo 39 = .ok (.iload 5, 2) := by decide +kernel
theorem dX9_isShownSo_41 : decode cX9_isShownSo 41 = .ok (.aload_n 0, 1) := by decide +kernel
theorem dX9_isShownSo_42 : decode cX9_isShownSo 42 = .ok (.iload 4, 2) := by decide +kernel
theorem dX9_isShownSo_44 : decode cX9_isShownSo 44 = .ok (.iload_n 2, 1) := by decide +kernel
theorem dX9_isShownSo_45 : decode cX9_isShownSo 45 = .ok (.invokevirtual 197, 3) := by decide +kernel
theorem dX9_isShownSo_48 : decode cX9_isShownSo 48 = .ok (.if_icmp .ne 7, 3) := by decide +kernel
theorem dX9_isShownSo_51 : decode cX9_isShownSo 51 = .ok (.iconst 1, 1) := by decide +kernel
theorem dX9_isShownSo_52 : decode cX9_isShownSo 52 = .ok (.goto 4, 3) := by decide +kernel
theorem dX9_isShownSo_55 : decode cX9_isShownSo 55 = .ok (.iconst 0, 1) := by decide +kernel
theorem dX9_isShownSo_56 : decode cX9_isShownSo 56 = .ok (.istore_n 3, 1) := by decide +kernel
theorem dX9_isShownSo_57 : decode cX9_isShownSo 57 = .ok (.iinc 4 1, 3) := by decide +kernel
theorem dX9_isShownSo_60 : decode cX9_isShownSo 60 = .ok (.goto (-55), 3) := by decide +kernel
theorem dX9_isShownSo_63 : decode cX9_isShownSo 63 = .ok (.iload_n 3, 1) := by decide +kernel
theorem dX9_isShownSo_64 : decode cX9_isShownSo 64 = .ok (.ireturn, 1) := by decide +kernel
theorem dX9_which_0 : decode cX9_which 0 = .ok (.iload_n 1, 1) := by decide +kernel
theorem dX9_which_1 : decode cX9_which 1 = .ok (.invokestatic 263, 3) := by decide +kernel
theorem dX9_which_4 : decode cX9_which 4 = .ok (.ifCond .eq 12, 3) := by decide +kernel
theorem dX9_which_7 : decode cX9_which 7 = .ok (.iload_n 2, 1) := by decide +kernel
theorem dX9_which_8 : decode cX9_which 8 = .ok (.iconst 0, 1) := by decide +kernel
theorem dX9_which_9 : decode cX9_which 9 = .ok (.iconst 1, 1) := by decide +kernel
theorem dX9_which_10 : decode cX9_which 10 = .ok (.invokestatic 77, 3) := by decide +kernel
theorem dX9_which_13 : decode cX9_which 13 = .ok (.ifCond .ne 10, 3) := by decide +kernel
theorem dX9_which_16 : decode cX9_which 16 = .ok (.aload_n 0, 1) := by decide +kernel
theorem dX9_which_17 : decode cX9_which 17 = .ok (.ldc 81, 2) := by decide +kernel
theorem dX9_which_19 : decode cX9_which 19 = .ok (.invokevirtual 82, 3) := by decide +kernel
theorem dX9_which_22 : decode cX9_which 22 = .ok (.ireturn, 1) := by decide +kernel
theorem dX9_which_23 : decode cX9_which 23 = .ok (.aload_n 0, 1) := by decide +kernel
theorem dX9_which_24 : decode cX9_which 24 = .ok (.getfield 47, 3) := by decide +kernel
theorem dX9_which_27 : decode cX9_which 27 = .ok (.iload_n 1, 1) := by decide +kernel
theorem dX9_which_28 : decode cX9_which 28 = .ok (.iaload, 1) := by decide +kernel
theorem dX9_which_29 : decode cX9_which 29 = .ok (.ifCond .eq 18, 3) := by decide +kernel
theorem dX9_which_32 : decode cX9_which 32 = .ok (.aload_n 0, 1) := by decide +kernel
theorem dX9_which_33 : decode cX9_which 33 = .ok (.getfield 50, 3) := by decide +kernel
theorem dX9_which_36 : decode cX9_which 36 = .ok (.iload_n 1, 1) := by decide +kernel
theorem dX9_which_37 : decode cX9_which 37 = .ok (.iaload, 1) := by decide +kernel
theorem dX9_which_38 : decode cX9_which 38 = .ok (.aload_n 0, 1) := by decide +kernel
theorem dX9_which_39 : decode cX9_which 39 = .ok (.getfield 9, 3) := by decide +kernel
theorem dX9_which_42 : decode cX9_which 42 = .ok (.iconst 1, 1) := by decide +kernel
theorem dX9_which_43 : decode cX9_which 43 = .ok (.iaload, 1) := by decide +kernel
theorem dX9_which_44 : decode cX9_which 44 = .ok (.if_icmp .eq 11, 3) := by decide +kernel
theorem dX9_which_47 : decode cX9_which 47 = .ok (.aload_n 0, 1) := by decide +kernel
theorem dX9_which_48 : decode cX9_which 48 = .ok (.ldc_w 256, 3) := by decide +kernel
theorem dX9_which_51 : decode cX9_which 51 = .ok (.invokevirtual 82, 3) := by decide +kernel
theorem dX9_which_54 : decode cX9_which 54 = .ok (.ireturn, 1) := by decide +kernel
theorem dX9_which_55 : decode cX9_which 55 = .ok (.iconst 0, 1) := by decide +kernel
theorem dX9_which_56 : decode cX9_which 56 = .ok (.istore_n 3, 1) := by decide +kernel
theorem dX9_which_57 : decode cX9_which 57 = .ok (.iconst (-1), 1) := by decide +kernel
theorem dX9_which_58 : decode cX9_which 58 = .ok (.istore 4, 2) := by decide +kernel
theorem dX9_which_60 : decode cX9_which 60 = .ok (.bipush 99, 2) := by decide +kernel
theorem dX9_which_62 : decode cX9_which 62 = .ok (.istore 5, 2) := by decide +kernel
theorem dX9_which_64 : decode cX9_which 64 = .ok (.iload 5, 2) := by decide +kernel
theorem dX9_which_66 : decode cX9_which 66 = .ok (.ifCond .lt 45, 3) := by decide +kernel
theorem dX9_which_69 : decode cX9_which 69 = .ok (.aload_n 0, 1) := by decide +kernel
theorem dX9_which_70 : decode cX9_which 70 = .ok (.iload_n 1, 1) := by decide +kernel
theorem dX9_which_71 : decode cX9_which 71 = .ok (.iload 5, 2) := by decide +kernel
theorem dX9_which_73 : decode cX9_which 73 = .ok (.invokevirtual 266, 3) := by decide +kernel
theorem dX9_which_76 : decode cX9_which 76 = .ok (.istore 6, 2) := by decide +kernel
theorem dX9_which_78 : decode cX9_which 78 = .ok (.iload_n 3, 1) := by decide +kernel
theorem dX9_which_79 : decode cX9_which 79 = .ok (.iload 6, 2) := by decide +kernel
theorem dX9_which_81 : decode cX9_which 81 = .ok (.ifCond .eq 7, 3) := by decide +kernel
theorem dX9_which_84 : decode cX9_which 84 = .ok (.iconst 1, 1) := by decide +kernel
theorem dX9_which_85 : decode cX9_which 85 = .ok (.goto 4, 3) := by decide +kernel
theorem dX9_which_88 : decode cX9_which 88 = .ok (.iconst 0, 1) := by decide +kernel
theorem dX9_which_89 : decode cX9_which 89 = .ok (.iadd, 1) := by decide +kernel
theorem dX9_which_90 : decode cX9_which 90 = .ok (.istore_n 3, 1) := by decide +kernel
theorem dX9_which_91 : decode cX9_which 91 = .ok (.iload 6, 2) := by decide +kernel
theorem dX9_which_93 : decode cX9_which 93 = .ok (.ifCond .eq 8, 3) := by decide +kernel
theorem dX9_which_96 : decode cX9_which 96 = .ok (.iload 5, 2) := by decide +kernel
theorem dX9_which_98 : decode cX9_which 98 = .ok (.goto 5, 3) := by decide +kernel
theorem dX9_which_101 : decode cX9_which 101 = .ok (.iload 4, 2) := by decide +kernel
theorem dX9_which_103 : decode cX9_which 103 = .ok (.istore 4, 2) := by decide +kernel
theorem dX9_which_105 : decode cX9_which 105 = .ok (.iinc 5 (-1), 3) := by decide +kernel
theorem dX9_which_108 : decode cX9_which 108 = .ok (.goto (-44), 3) := by decide +kernel
theorem dX9_which_111 : decode cX9_which 111 = .ok (.iload_n 2, 1) := by decide +kernel
theorem dX9_which_112 : decode cX9_which 112 = .ok (.ifCond .ne 7, 3) := by decide +kernel
theorem dX9_which_115 : decode cX9_which 115 = .ok (.iload_n 3, 1) := by decide +kernel
theorem dX9_which_116 : decode cX9_which 116 = .ok (.goto 20, 3) := by decide +kernel
theorem dX9_which_119 : decode cX9_which 119 = .ok (.iload 4, 2) := by decide +kernel
theorem dX9_which_121 : decode cX9_which 121 = .ok (.ifCond .ge 13, 3) := by decide +kernel
theorem dX9_which_124 : decode cX9_which 124 = .ok (.aload_n 0, 1) := by decide +kernel
theorem dX9_which_125 : decode cX9_which 125 = .ok (.ldc_w 256, 3) := by decide +kernel
theorem dX9_which_128 : decode cX9_which 128 = .ok (.invokevirtual 82, 3) := by decide +kernel
theorem dX9_which_131 : decode cX9_which 131 = .ok (.goto 5, 3) := by decide +kernel
theorem dX9_which_134 : decode cX9_which 134 = .ok (.iload 4, 2) := by decide +kernel
theorem dX9_which_136 : decode cX9_which 136 = .ok (.ireturn, 1) := by decide +kernel
theorem dX9_struck_0 : decode cX9_struck 0 = .ok (.aload_n 0, 1) := by decide +kernel
theorem dX9_struck_1 : decode cX9_struck 1 = .ok (.iload_n 1, 1) := by decide +kernel
theorem dX9_struck_2 : decode cX9_struck 2 = .ok (.invokevirtual 175, 3) := by decide +kernel
theorem dX9_struck_5 : decode cX9_struck 5 = .ok (.ifCond .ne 10, 3) := by decide +kernel
theorem dX9_struck_8 : decode cX9_struck 8 = .ok (.aload_n 0, 1) := by decide +kernel
theorem dX9_struck_9 : decode cX9_struck 9 = .ok (.ldc 81, 2) := by decide +kernel
theorem dX9_struck_11 : decode cX9_struck 11 = .ok (.invokevirtual 82, 3) := by decide +kernel
theorem dX9_struck_14 : decode cX9_struck 14 = .ok (.ireturn, 1) := by decide +kernel
theorem dX9_struck_15 : decode cX9_struck 15 = .ok (.aload_n 0, 1) := by decide +kernel
theorem dX9_struck_16 : decode cX9_struck 16 = .ok (.getfield 9, 3) := by decide +kernel
theorem dX9_struck_19 : decode cX9_struck 19 = .ok (.aload_n 0, 1) := by decide +kernel
theorem dX9_struck_20 : decode cX9_struck 20 = .ok (.getfield 16, 3) := by decide +kernel
theorem dX9_struck_23 : decode cX9_struck 23 = .ok (.invokestatic 73, 3) := by decide +kernel
theorem dX9_struck_26 : decode cX9_struck 26 = .ok (.aload_n 0, 1) := by decide +kernel
theorem dX9_struck_27 : decode cX9_struck 27 = .ok (.bipush 60, 2) := by decide +kernel
theorem dX9_struck_29 : decode cX9_struck 29 = .ok (.invokevirtual 237, 3) := by decide +kernel
theorem dX9_struck_32 : decode cX9_struck 32 = .ok (.aload_n 0, 1) := by decide +kernel
theorem dX9_struck_33 : decode cX9_struck 33 = .ok (.aload_n 0, 1) := by decide +kernel
theorem dX9_struck_34 : decode cX9_struck 34 = .ok (.invokevirtual 253, 3) := by decide +kernel
theorem dX9_struck_37 : decode cX9_struck 37 = .ok (.aload_n 0, 1) := by decide +kernel
theorem dX9_struck_38 : decode cX9_struck 38 = .ok (.iload_n 1, 1) := by decide +kernel
theorem dX9_struck_39 : decode cX9_struck 39 = .ok (.invokevirtual 200, 3) := by decide +kernel
theorem dX9_struck_42 : decode cX9_struck 42 = .ok (.iand, 1) := by decide +kernel
theorem dX9_struck_43 : decode cX9_struck 43 = .ok (.invokevirtual 250, 3) := by decide +kernel
theorem dX9_struck_46 : decode cX9_struck 46 = .ok (.ireturn, 1) := by decide +kernel
theorem dX9_dark_0 : decode cX9_dark 0 = .ok (.iload_n 1, 1) := by decide +kernel
theorem dX9_dark_1 : decode cX9_dark 1 = .ok (.iconst 0, 1) := by decide +kernel
theorem dX9_dark_2 : decode cX9_dark 2 = .ok (.bipush 20, 2) := by decide +kernel
theorem dX9_dark_4 : decode cX9_dark 4 = .ok (.invokestatic 77, 3) := by decide +kernel
theorem dX9_dark_7 : decode cX9_dark 7 = .ok (.ifCond .ne 10, 3) := by decide +kernel
theorem dX9_dark_10 : decode cX9_dark 10 = .ok (.aload_n 0, 1) := by decide +kernel
theorem dX9_dark_11 : decode cX9_dark 11 = .ok (.ldc 81, 2) := by decide +kernel
theorem dX9_dark_13 : decode cX9_dark 13 = .ok (.invokevirtual 82, 3) := by decide +kernel
theorem dX9_dark_16 : decode cX9_dark 16 = .ok (.ireturn, 1) := by decide +kernel
theorem dX9_dark_17 : decode cX9_dark 17 = .ok (.aload_n 0, 1) := by decide +kernel
theorem dX9_dark_18 : decode cX9_dark 18 = .ok (.getfield 9, 3) := by decide +kernel
theorem dX9_dark_21 : decode cX9_dark 21 = .ok (.aload_n 0, 1) := by decide +kernel
theorem dX9_dark_22 : decode cX9_dark 22 = .ok (.getfield 16, 3) := by decide +kernel
theorem dX9_dark_25 : decode cX9_dark 25 = .ok (.invokestatic 73, 3) := by decide +kernel
theorem dX9_dark_28 : decode cX9_dark 28 = .ok (.aload_n 0, 1) := by decide +kernel
theorem dX9_dark_29 : decode cX9_dark 29 = .ok (.invokevirtual 253, 3) := by decide +kernel
theorem dX9_dark_32 : decode cX9_dark 32 = .ok (.invokestatic 234, 3) := by decide +kernel
theorem dX9_dark_35 : decode cX9_dark 35 = .ok (.istore_n 2, 1) := by decide +kernel
theorem dX9_dark_36 : decode cX9_dark 36 = .ok (.iconst (-1), 1) := by decide +kernel
theorem dX9_dark_37 : decode cX9_dark 37 = .ok (.istore_n 3, 1) := by decide +kernel
theorem dX9_dark_38 : decode cX9_dark 38 = .ok (.iconst 0, 1) := by decide +kernel
theorem dX9_dark_39 : decode cX9_dark 39 = .ok (.istore 4, 2) := by decide +kernel
theorem dX9_dark_41 : decode cX9_dark 41 = .ok (.iload 4, 2) := by decide +kernel
theorem dX9_dark_43 : decode cX9_dark 43 = .ok (.iconst 1, 1) := by decide +kernel
theorem dX9_dark_44 : decode cX9_dark 44 = .ok (.aload_n 0, 1) := by decide +kernel
theorem dX9_dark_45 : decode cX9_dark 45 = .ok (.getfield 9, 3) := by decide +kernel
theorem dX9_dark_48 : decode cX9_dark 48 = .ok (.iconst 1, 1) := by decide +kernel
theorem dX9_dark_49 : decode cX9_dark 49 = .ok (.iaload, 1) := by decide +kernel
theorem dX9_dark_50 : decode cX9_dark 50 = .ok (.ishl, 1) := by decide +kernel
theorem dX9_dark_51 : decode cX9_dark 51 = .ok (.if_icmp .ge 79, 3) := by decide +kernel
theorem dX9_dark_54 : decode cX9_dark 54 = .ok (.iload 4, 2) := by decide +kernel
theorem dX9_dark_56 : decode cX9_dark 56 = .ok (.aload_n 0, 1) := by decide +kernel
theorem dX9_dark_57 : decode cX9_dark 57 = .ok (.getfield 9, 3) := by decide +kernel
theorem dX9_dark_60 : decode cX9_dark 60 = .ok (.iconst 5, 1) := by decide +kernel
theorem dX9_dark_61 : decode cX9_dark 61 = .ok (.iaload, 1) := by decide +kernel
theorem dX9_dark_62 : decode cX9_dark 62 = .ok (.iconst (-1), 1) := by decide +kernel
theorem dX9_dark_63 : decode cX9_dark 63 = .ok (.ixor, 1) := by decide +kernel
theorem dX9_dark_64 : decode cX9_dark 64 = .ok (.iand, 1) := by decide +kernel
theorem dX9_dark_65 : decode cX9_dark 65 = .ok (.ifCond .ne 59, 3) := by decide +kernel
theorem dX9_dark_68 : decode cX9_dark 68 = .ok (.iload_n 3, 1) := by decide +kernel
theorem dX9_dark_69 : decode cX9_dark 69 = .ok (.ifCond .lt 15, 3) := by decide +kernel
theorem dX9_dark_72 : decode cX9_dark 72 = .ok (.iload 4, 2) := by decide +kernel
theorem dX9_dark_74 : decode cX9_dark 74 = .ok (.invokestatic 234, 3) := by decide +kernel
theorem dX9_dark_77 : decode cX9_dark 77 = .ok (.iload_n 3, 1) := by decide +kernel
theorem dX9_dark_78 : decode cX9_dark 78 = .ok (.invokestatic 234, 3) := by decide +kernel
theorem dX9_dark_81 : decode cX9_dark 81 = .ok (.if_icmp .ge 43, 3) := by decide +kernel
theorem dX9_dark_84 : decode cX9_dark 84 = .ok (.aload_n 0, 1) := by decide +kernel
theorem dX9_dark_85 : decode cX9_dark 85 = .ok (.getfield 9, 3) := by decide +kernel
theorem dX9_dark_88 : decode cX9_dark 88 = .ok (.iconst 5, 1) := by decide +kernel
theorem dX9_dark_89 : decode cX9_dark 89 = .ok (.dup2, 1) := by decide +kernel
theorem dX9_dark_90 : decode cX9_dark 90 = .ok (.iaload, 1) := by decide +kernel
theorem dX9_dark_91 : decode cX9_dark 91 = .ok (.iload 4, 2) := by decide +kernel
theorem dX9_dark_93 : decode cX9_dark 93 = .ok (.iconst (-1), 1) := by decide +kernel
theorem dX9_dark_94 : decode cX9_dark 94 = .ok (.ixor, 1) := by decide +kernel
theorem dX9_dark_95 : decode cX9_dark 95 = .ok (.iand, 1) := by decide +kernel
theorem dX9_dark_96 : decode cX9_dark 96 = .ok (.iastore, 1) := by decide +kernel
theorem dX9_dark_97 : decode cX9_dark 97 = .ok (.aload_n 0, 1) := by decide +kernel
theorem dX9_dark_98 : decode cX9_dark 98 = .ok (.iload_n 1, 1) := by decide +kernel
theorem dX9_dark_99 : decode cX9_dark 99 = .ok (.invokevirtual 237, 3) := by decide +kernel
theorem dX9_dark_102 : decode cX9_dark 102 = .ok (.aload_n 0, 1) := by decide +kernel
theorem dX9_dark_103 : decode cX9_dark 103 = .ok (.aload_n 0, 1) := by decide +kernel
theorem dX9_dark_104 : decode cX9_dark 104 = .ok (.invokevirtual 253, 3) := by decide +kernel
theorem dX9_dark_107 : decode cX9_dark 107 = .ok (.invokestatic 234, 3) := by decide +kernel
theorem dX9_dark_110 : decode cX9_dark 110 = .ok (.invokevirtual 250, 3) := by decide +kernel
theorem dX9_dark_113 : decode cX9_dark 113 = .ok (.iload_n 2, 1) := by decide +kernel
theorem dX9_dark_114 : decode cX9_dark 114 = .ok (.if_icmp .gt 8, 3) := by decide +kernel
theorem dX9_dark_117 : decode cX9_dark 117 = .ok (.iload 4, 2) := by decide +kernel
theorem dX9_dark_119 : decode cX9_dark 119 = .ok (.goto 4, 3) := by decide +kernel
theorem dX9_dark_122 : decode cX9_dark 122 = .ok (.iload_n 3, 1) := by decide +kernel
theorem dX9_dark_123 : decode cX9_dark 123 = .ok (.istore_n 3, 1) := by decide +kernel
theorem dX9_dark_124 : decode cX9_dark 124 = .ok (.iinc 4 1, 3) := by decide +kernel
theorem dX9_dark_127 : decode cX9_dark 127 = .ok (.goto (-86), 3) := by decide +kernel
theorem dX9_dark_130 : decode cX9_dark 130 = .ok (.iload_n 3, 1) := by decide +kernel
theorem dX9_dark_131 : decode cX9_dark 131 = .ok (.ifCond .ge 13, 3) := by decide +kernel
theorem dX9_dark_134 : decode cX9_dark 134 = .ok (.aload_n 0, 1) := by decide +kernel
theorem dX9_dark_135 : decode cX9_dark 135 = .ok (.ldc_w 256, 3) := by decide +kernel
theorem dX9_dark_138 : decode cX9_dark 138 = .ok (.invokevirtual 82, 3) := by decide +kernel
theorem dX9_dark_141 : decode cX9_dark 141 = .ok (.goto 4, 3) := by decide +kernel
theorem dX9_dark_144 : decode cX9_dark 144 = .ok (.iload_n 3, 1) := by decide +kernel
theorem dX9_dark_145 : decode cX9_dark 145 = .ok (.ireturn, 1) := by decide +kernel
theorem dX9_deep_0 : decode cX9_deep 0 = .ok (.aload_n 0, 1) := by decide +kernel
theorem dX9_deep_1 : decode cX9_deep 1 = .ok (.iload_n 1, 1) := by decide +kernel
theorem dX9_deep_2 : decode cX9_deep 2 = .ok (.invokevirtual 175, 3) := by decide +kernel
theorem dX9_deep_5 : decode cX9_deep 5 = .ok (.ifCond .eq 13, 3) := by decide +kernel
theorem dX9_deep_8 : decode cX9_deep 8 = .ok (.iload_n 2, 1) := by decide +kernel
theorem dX9_deep_9 : decode cX9_deep 9 = .ok (.iconst 0, 1) := by decide +kernel
theorem dX9_deep_10 : decode cX9_deep 10 = .ok (.bipush 19, 2) := by decide +kernel
theorem dX9_deep_12 : decode cX9_deep 12 = .ok (.invokestatic 77, 3) := by decide +kernel
theorem dX9_deep_15 : decode cX9_deep 15 = .ok (.ifCond .ne 10, 3) := by decide +kernel
theorem dX9_deep_18 : decode cX9_deep 18 = .ok (.aload_n 0, 1) := by decide +kernel
theorem dX9_deep_19 : decode cX9_deep 19 = .ok (.ldc 81, 2) := by decide +kernel
theorem dX9_deep_21 : decode cX9_deep 21 = .ok (.invokevirtual 82, 3) := by decide +kernel
theorem dX9_deep_24 : decode cX9_deep 24 = .ok (.ireturn, 1) := by decide +kernel
theorem dX9_deep_25 : decode cX9_deep 25 = .ok (.iconst 0, 1) := by decide +kernel
theorem dX9_deep_26 : decode cX9_deep 26 = .ok (.istore_n 3, 1) := by decide +kernel
theorem dX9_deep_27 : decode cX9_deep 27 = .ok (.iload_n 3, 1) := by decide +kernel
theorem dX9_deep_28 : decode cX9_deep 28 = .ok (.bipush 99, 2) := by decide +kernel
theorem dX9_deep_30 : decode cX9_deep 30 = .ok (.if_icmp .gt 26, 3) := by decide +kernel
theorem dX9_deep_33 : decode cX9_deep 33 = .ok (.aload_n 0, 1) := by decide +kernel
theorem dX9_deep_34 : decode cX9_deep 34 = .ok (.iload_n 1, 1) := by decide +kernel
theorem dX9_deep_35 : decode cX9_deep 35 = .ok (.aload_n 0, 1) := by decide +kernel
theorem dX9_deep_36 : decode cX9_deep 36 = .ok (.getfield 9, 3) := by decide +kernel
theorem dX9_deep_39 : decode cX9_deep 39 = .ok (.iconst 3, 1) := by decide +kernel
theorem dX9_deep_40 : decode cX9_deep 40 = .ok (.iaload, 1) := by decide +kernel
theorem dX9_deep_41 : decode cX9_deep 41 = .ok (.iload_n 3, 1) := by decide +kernel
theorem dX9_deep_42 : decode cX9_deep 42 = .ok (.isub, 1) := by decide +kernel
theorem dX9_deep_43 : decode cX9_deep 43 = .ok (.invokevirtual 184, 3) := by decide +kernel
theorem dX9_deep_46 : decode cX9_deep 46 = .ok (.iload_n 2, 1) := by decide +kernel
theorem dX9_deep_47 : decode cX9_deep 47 = .ok (.if_icmp .ge 9, 3) := by decide +kernel
theorem dX9_deep_50 : decode cX9_deep 50 = .ok (.iinc 3 1, 3) := by decide +kernel
theorem dX9_deep_53 : decode cX9_deep 53 = .ok (.goto (-26), 3) := by decide +kernel
theorem dX9_deep_56 : decode cX9_deep 56 = .ok (.iload_n 3, 1) := by decide +kernel
theorem dX9_deep_57 : decode cX9_deep 57 = .ok (.bipush 99, 2) := by decide +kernel
theorem dX9_deep_59 : decode cX9_deep 59 = .ok (.if_icmp .le 13, 3) := by decide +kernel
theorem dX9_deep_62 : decode cX9_deep 62 = .ok (.aload_n 0, 1) := by decide +kernel
theorem dX9_deep_63 : decode cX9_deep 63 = .ok (.ldc_w 256, 3) := by decide +kernel
theorem dX9_deep_66 : decode cX9_deep 66 = .ok (.invokevirtual 82, 3) := by decide +kernel
theorem dX9_deep_69 : decode cX9_deep 69 = .ok (.goto 4, 3) := by decide +kernel
theorem dX9_deep_72 : decode cX9_deep 72 = .ok (.iload_n 3, 1) := by decide +kernel
theorem dX9_deep_73 : decode cX9_deep 73 = .ok (.ireturn, 1) := by decide +kernel
theorem dX9_draws_0 : decode cX9_draws 0 = .ok (.aload_n 0, 1) := by decide +kernel
theorem dX9_draws_1 : decode cX9_draws 1 = .ok (.iload_n 1, 1) := by decide +kernel
theorem dX9_draws_2 : decode cX9_draws 2 = .ok (.invokevirtual 218, 3) := by decide +kernel
theorem dX9_draws_5 : decode cX9_draws 5 = .ok (.ifCond .ne 10, 3) := by decide +kernel
theorem dX9_draws_8 : decode cX9_draws 8 = .ok (.aload_n 0, 1) := by decide +kernel
theorem dX9_draws_9 : decode cX9_draws 9 = .ok (.ldc 81, 2) := by decide +kernel
theorem dX9_draws_11 : decode cX9_draws 11 = .ok (.invokevirtual 82, 3) := by decide +kernel
theorem dX9_draws_14 : decode cX9_draws 14 = .ok (.ireturn, 1) := by decide +kernel
theorem dX9_draws_15 : decode cX9_draws 15 = .ok (.aload_n 0, 1) := by decide +kernel
theorem dX9_draws_16 : decode cX9_draws 16 = .ok (.iload_n 1, 1) := by decide +kernel
theorem dX9_draws_17 : decode cX9_draws 17 = .ok (.iconst 4, 1) := by decide +kernel
theorem dX9_draws_18 : decode cX9_draws 18 = .ok (.invokevirtual 191, 3) := by decide +kernel
theorem dX9_draws_21 : decode cX9_draws 21 = .ok (.iconst 1, 1) := by decide +kernel
theorem dX9_draws_22 : decode cX9_draws 22 = .ok (.if_icmp .ne 10, 3) := by decide +kernel
theorem dX9_draws_25 : decode cX9_draws 25 = .ok (.aload_n 0, 1) := by decide +kernel
theorem dX9_draws_26 : decode cX9_draws 26 = .ok (.ldc 174, 2) := by decide +kernel
theorem dX9_draws_28 : decode cX9_draws 28 = .ok (.invokevirtual 82, 3) := by decide +kernel
theorem dX9_draws_31 : decode cX9_draws 31 = .ok (.ireturn, 1) := by decide +kernel
theorem dX9_draws_32 : decode cX9_draws 32 = .ok (.aload_n 0, 1) := by decide +kernel
theorem dX9_draws_33 : decode cX9_draws 33 = .ok (.getfield 9, 3) := by decide +kernel
theorem dX9_draws_36 : decode cX9_draws 36 = .ok (.aload_n 0, 1) := by decide +kernel
theorem dX9_draws_37 : decode cX9_draws 37 = .ok (.getfield 16, 3) := by decide +kernel
theorem dX9_draws_40 : decode cX9_draws 40 = .ok (.invokestatic 73, 3) := by decide +kernel
theorem dX9_draws_43 : decode cX9_draws 43 = .ok (.iconst (-1), 1) := by decide +kernel
theorem dX9_draws_44 : decode cX9_draws 44 = .ok (.istore_n 2, 1) := by decide +kernel
theorem dX9_draws_45 : decode cX9_draws 45 = .ok (.bipush 9, 2) := by decide +kernel
theorem dX9_draws_47 : decode cX9_draws 47 = .ok (.istore_n 3, 1) := by decide +kernel
theorem dX9_draws_48 : decode cX9_draws 48 = .ok (.iload_n 3, 1) := by decide +kernel
theorem dX9_draws_49 : decode cX9_draws 49 = .ok (.ifCond .lt 43, 3) := by decide +kernel
theorem dX9_draws_52 : decode cX9_draws 52 = .ok (.iload_n 2, 1) := by decide +kernel
theorem dX9_draws_53 : decode cX9_draws 53 = .ok (.ifCond .ge 39, 3) := by decide +kernel
theorem dX9_draws_56 : decode cX9_draws 56 = .ok (.aload_n 0, 1) := by decide +kernel
theorem dX9_draws_57 : decode cX9_draws 57 = .ok (.getfield 9, 3) := by decide +kernel
theorem dX9_draws_60 : decode cX9_draws 60 = .ok (.iload_n 1, 1) := by decide +kernel
theorem dX9_draws_61 : decode cX9_draws 61 = .ok (.iconst 2, 1) := by decide +kernel
theorem dX9_draws_62 : decode cX9_draws 62 = .ok (.invokestatic 168, 3) := by decide +kernel
theorem dX9_draws_65 : decode cX9_draws 65 = .ok (.iload_n 3, 1) := by decide +kernel
theorem dX9_draws_66 : decode cX9_draws 66 = .ok (.iastore, 1) := by decide +kernel
theorem dX9_draws_67 : decode cX9_draws 67 = .ok (.aload_n 0, 1) := by decide +kernel
theorem dX9_draws_68 : decode cX9_draws 68 = .ok (.bipush 60, 2) := by decide +kernel
theorem dX9_draws_70 : decode cX9_draws 70 = .ok (.invokevirtual 257, 3) := by decide +kernel
theorem dX9_draws_73 : decode cX9_draws 73 = .ok (.iload_n 1, 1) := by decide +kernel
theorem dX9_draws_74 : decode cX9_draws 74 = .ok (.invokestatic 187, 3) := by decide +kernel
theorem dX9_draws_77 : decode cX9_draws 77 = .ok (.ifCond .eq 7, 3) := by decide +kernel
theorem dX9_draws_80 : decode cX9_draws 80 = .ok (.iload_n 3, 1) := by decide +kernel
theorem dX9_draws_81 : decode cX9_draws 81 = .ok (.goto 4, 3) := by decide +kernel
theorem dX9_draws_84 : decode cX9_draws 84 = .ok (.iconst (-1), 1) := by decide +kernel
theorem dX9_draws_85 : decode cX9_draws 85 = .ok (.istore_n 2, 1) := by decide +kernel
theorem dX9_draws_86 : decode cX9_draws 86 = .ok (.iinc 3 (-1), 3) := by decide +kernel
theorem dX9_draws_89 : decode cX9_draws 89 = .ok (.goto (-41), 3) := by decide +kernel
theorem dX9_draws_92 : decode cX9_draws 92 = .ok (.iload_n 2, 1) := by decide +kernel
theorem dX9_draws_93 : decode cX9_draws 93 = .ok (.ifCond .ge 13, 3) := by decide +kernel
theorem dX9_draws_96 : decode cX9_draws 96 = .ok (.aload_n 0, 1) := by decide +kernel
theorem dX9_draws_97 : decode cX9_draws 97 = .ok (.ldc_w 256, 3) := by decide +kernel
theorem dX9_draws_100 : decode cX9_draws 100 = .ok (.invokevirtual 82, 3) := by decide +kernel
theorem dX9_draws_103 : decode cX9_draws 103 = .ok (.goto 4, 3) := by decide +kernel
theorem dX9_draws_106 : decode cX9_draws 106 = .ok (.iload_n 2, 1) := by decide +kernel
theorem dX9_draws_107 : decode cX9_draws 107 = .ok (.ireturn, 1) := by decide +kernel
theorem dX9_traffic_0 : decode cX9_traffic 0 = .ok (.iload_n 1, 1) := by decide +kernel
theorem dX9_traffic_1 : decode cX9_traffic 1 = .ok (.invokestatic 247, 3) := by decide +kernel
theorem dX9_traffic_4 : decode cX9_traffic 4 = .ok (.ifCond .eq 12, 3) := by decide +kernel
theorem dX9_traffic_7 : decode cX9_traffic 7 = .ok (.iload_n 2, 1) := by decide +kernel
theorem dX9_traffic_8 : decode cX9_traffic 8 = .ok (.iconst 0, 1) := by decide +kernel
theorem dX9_traffic_9 : decode cX9_traffic 9 = .ok (.iconst 1, 1) := by decide +kernel
theorem dX9_traffic_10 : decode cX9_traffic 10 = .ok (.invokestatic 77, 3) := by decide +kernel
theorem dX9_traffic_13 : decode cX9_traffic 13 = .ok (.ifCond .ne 10, 3) := by decide +kernel
theorem dX9_traffic_16 : decode cX9_traffic 16 = .ok (.aload_n 0, 1) := by decide +kernel
theorem dX9_traffic_17 : decode cX9_traffic 17 = .ok (.ldc 81, 2) := by decide +kernel
theorem dX9_traffic_19 : decode cX9_traffic 19 = .ok (.invokevirtual 82, 3) := by decide +kernel
theorem dX9_traffic_22 : decode cX9_traffic 22 = .ok (.ireturn, 1) := by decide +kernel
theorem dX9_traffic_23 : decode cX9_traffic 23 = .ok (.aload_n 0, 1) := by decide +kernel
theorem dX9_traffic_24 : decode cX9_traffic 24 = .ok (.getfield 9, 3) := by decide +kernel
theorem dX9_traffic_27 : decode cX9_traffic 27 = .ok (.aload_n 0, 1) := by decide +kernel
theorem dX9_traffic_28 : decode cX9_traffic 28 = .ok (.getfield 16, 3) := by decide +kernel
theorem dX9_traffic_31 : decode cX9_traffic 31 = .ok (.invokestatic 73, 3) := by decide +kernel
theorem dX9_traffic_34 : decode cX9_traffic 34 = .ok (.aload_n 0, 1) := by decide +kernel
theorem dX9_traffic_35 : decode cX9_traffic 35 = .ok (.iload_n 1, 1) := by decide +kernel
theorem dX9_traffic_36 : decode cX9_traffic 36 = .ok (.invokevirtual 237, 3) := by decide +kernel
theorem dX9_traffic_39 : decode cX9_traffic 39 = .ok (.iconst 0, 1) := by decide +kernel
theorem dX9_traffic_40 : decode cX9_traffic 40 = .ok (.istore_n 3, 1) := by decide +kernel
theorem dX9_traffic_41 : decode cX9_traffic 41 = .ok (.iconst (-1), 1) := by decide +kernel
theorem dX9_traffic_42 : decode cX9_traffic 42 = .ok (.istore 4, 2) := by decide +kernel
theorem dX9_traffic_44 : decode cX9_traffic 44 = .ok (.iconst 0, 1) := by decide +kernel
theorem dX9_traffic_45 : decode cX9_traffic 45 = .ok (.istore 5, 2) := by decide +kernel
theorem dX9_traffic_47 : decode cX9_traffic 47 = .ok (.iload 5, 2) := by decide +kernel
theorem dX9_traffic_49 : decode cX9_traffic 49 = .ok (.aload_n 0, 1) := by decide +kernel
theorem dX9_traffic_50 : decode cX9_traffic 50 = .ok (.getfield 9, 3) := by decide +kernel
theorem dX9_traffic_53 : decode cX9_traffic 53 = .ok (.iconst 1, 1) := by decide +kernel
theorem dX9_traffic_54 : decode cX9_traffic 54 = .ok (.iaload, 1) := by decide +kernel
theorem dX9_traffic_55 : decode cX9_traffic 55 = .ok (.if_icmp .ge 50, 3) := by decide +kernel
theorem dX9_traffic_58 : decode cX9_traffic 58 = .ok (.aload_n 0, 1) := by decide +kernel
theorem dX9_traffic_59 : decode cX9_traffic 59 = .ok (.iload 5, 2) := by decide +kernel
theorem dX9_traffic_61 : decode cX9_traffic 61 = .ok (.invokevirtual 200, 3) := by decide +kernel
theorem dX9_traffic_64 : decode cX9_traffic 64 = .ok (.aload_n 0, 1) := by decide +kernel
theorem dX9_traffic_65 : decode cX9_traffic 65 = .ok (.invokevirtual 253, 3) := by decide +kernel
theorem dX9_traffic_68 : decode cX9_traffic 68 = .ok (.iconst (-1), 1) := by decide +kernel
theorem dX9_traffic_69 : decode cX9_traffic 69 = .ok (.ixor, 1) := by decide +kernel
theorem dX9_traffic_70 : decode cX9_traffic 70 = .ok (.iand, 1) := by decide +kernel
theorem dX9_traffic_71 : decode cX9_traffic 71 = .ok (.invokestatic 234, 3) := by decide +kernel
theorem dX9_traffic_74 : decode cX9_traffic 74 = .ok (.istore 6, 2) := by decide +kernel
theorem dX9_traffic_76 : decode cX9_traffic 76 = .ok (.iload 6, 2) := by decide +kernel
theorem dX9_traffic_78 : decode cX9_traffic 78 = .ok (.iload 4, 2) := by decide +kernel
theorem dX9_traffic_80 : decode cX9_traffic 80 = .ok (.if_icmp .le 8, 3) := by decide +kernel
theorem dX9_traffic_83 : decode cX9_traffic 83 = .ok (.iload 5, 2) := by decide +kernel
theorem dX9_traffic_85 : decode cX9_traffic 85 = .ok (.goto 4, 3) := by decide +kernel
theorem dX9_traffic_88 : decode cX9_traffic 88 = .ok (.iload_n 3, 1) := by decide +kernel
theorem dX9_traffic_89 : decode cX9_traffic 89 = .ok (.istore_n 3, 1) := by decide +kernel
theorem dX9_traffic_90 : decode cX9_traffic 90 = .ok (.iload 4, 2) := by decide +kernel
theorem dX9_traffic_92 : decode cX9_traffic 92 = .ok (.iload 6, 2) := by decide +kernel
theorem dX9_traffic_94 : decode cX9_traffic 94 = .ok (.invokestatic 70, 3) := by decide +kernel
theorem dX9_traffic_97 : decode cX9_traffic 97 = .ok (.istore 4, 2) := by decide +kernel
theorem dX9_traffic_99 : decode cX9_traffic 99 = .ok (.iinc 5 1, 3) := by decide +kernel
theorem dX9_traffic_102 : decode cX9_traffic 102 = .ok (.goto (-55), 3) := by decide +kernel
theorem dX9_traffic_105 : decode cX9_traffic 105 = .ok (.aload_n 0, 1) := by decide +kernel
theorem dX9_traffic_106 : decode cX9_traffic 106 = .ok (.iload_n 2, 1) := by decide +kernel
theorem dX9_traffic_107 : decode cX9_traffic 107 = .ok (.ifCond .ne 7, 3) := by decide +kernel
theorem dX9_traffic_110 : decode cX9_traffic 110 = .ok (.iload_n 3, 1) := by decide +kernel
theorem dX9_traffic_111 : decode cX9_traffic 111 = .ok (.goto 5, 3) := by decide +kernel
theorem dX9_traffic_114 : decode cX9_traffic 114 = .ok (.iload 4, 2) := by decide +kernel
theorem dX9_traffic_116 : decode cX9_traffic 116 = .ok (.invokevirtual 250, 3) := by decide +kernel
theorem dX9_traffic_119 : decode cX9_traffic 119 = .ok (.ireturn, 1) := by decide +kernel
theorem dX9_odds_0 : decode cX9_odds 0 = .ok (.aload_n 0, 1) := by decide +kernel
theorem dX9_odds_1 : decode cX9_odds 1 = .ok (.iload_n 1, 1) := by decide +kernel
theorem dX9_odds_2 : decode cX9_odds 2 = .ok (.invokevirtual 218, 3) := by decide +kernel
theorem dX9_odds_5 : decode cX9_odds 5 = .ok (.ifCond .eq 19, 3) := by decide +kernel
theorem dX9_odds_8 : decode cX9_odds 8 = .ok (.iload_n 2, 1) := by decide +kernel
theorem dX9_odds_9 : decode cX9_odds 9 = .ok (.invokestatic 247, 3) := by decide +kernel
theorem dX9_odds_12 : decode cX9_odds 12 = .ok (.ifCond .eq 12, 3) := by decide +kernel
theorem dX9_odds_15 : decode cX9_odds 15 = .ok (.iload_n 3, 1) := by decide +kernel
theorem dX9_odds_16 : decode cX9_odds 16 = .ok (.iconst 0, 1) := by decide +kernel
theorem dX9_odds_17 : decode cX9_odds 17 = .ok (.iconst 1, 1) := by decide +kernel
theorem dX9_odds_18 : decode cX9_odds 18 = .ok (.invokestatic 77, 3) := by decide +kernel
theorem dX9_odds_21 : decode cX9_odds 21 = .ok (.ifCond .ne 10, 3) := by decide +kernel
theorem dX9_odds_24 : decode cX9_odds 24 = .ok (.aload_n 0, 1) := by decide +kernel
theorem dX9_odds_25 : decode cX9_odds 25 = .ok (.ldc 81, 2) := by decide +kernel
theorem dX9_odds_27 : decode cX9_odds 27 = .ok (.invokevirtual 82, 3) := by decide +kernel
theorem dX9_odds_30 : decode cX9_odds 30 = .ok (.ireturn, 1) := by decide +kernel
theorem dX9_odds_31 : decode cX9_odds 31 = .ok (.aload_n 0, 1) := by decide +kernel
theorem dX9_odds_32 : decode cX9_odds 32 = .ok (.getfield 9, 3) := by decide +kernel
theorem dX9_odds_35 : decode cX9_odds 35 = .ok (.aload_n 0, 1) := by decide +kernel
theorem dX9_odds_36 : decode cX9_odds 36 = .ok (.getfield 16, 3) := by decide +kernel
theorem dX9_odds_39 : decode cX9_odds 39 = .ok (.invokestatic 73, 3) := by decide +kernel
theorem dX9_odds_42 : decode cX9_odds 42 = .ok (.iconst 0, 1) := by decide +kernel
theorem dX9_odds_43 : decode cX9_odds 43 = .ok (.istore 4, 2) := by decide +kernel
theorem dX9_odds_45 : decode cX9_odds 45 = .ok (.iconst 0, 1) := by decide +kernel
theorem dX9_odds_46 : decode cX9_odds 46 = .ok (.istore 5, 2) := by decide +kernel
theorem dX9_odds_48 : decode cX9_odds 48 = .ok (.iload 5, 2) := by decide +kernel
theorem dX9_odds_50 : decode cX9_odds 50 = .ok (.bipush 20, 2) := by decide +kernel
theorem dX9_odds_52 : decode cX9_odds 52 = .ok (.if_icmp .ge 39, 3) := by decide +kernel
theorem dX9_odds_55 : decode cX9_odds 55 = .ok (.aload_n 0, 1) := by decide +kernel
theorem dX9_odds_56 : decode cX9_odds 56 = .ok (.getfield 9, 3) := by decide +kernel
theorem dX9_odds_59 : decode cX9_odds 59 = .ok (.iconst 4, 1) := by decide +kernel
theorem dX9_odds_60 : decode cX9_odds 60 = .ok (.iload 5, 2) := by decide +kernel
theorem dX9_odds_62 : decode cX9_odds 62 = .ok (.iastore, 1) := by decide +kernel
theorem dX9_odds_63 : decode cX9_odds 63 = .ok (.iload 4, 2) := by decide +kernel
theorem dX9_odds_65 : decode cX9_odds 65 = .ok (.aload_n 0, 1) := by decide +kernel
theorem dX9_odds_66 : decode cX9_odds 66 = .ok (.iload_n 2, 1) := by decide +kernel
theorem dX9_odds_67 : decode cX9_odds 67 = .ok (.invokevirtual 257, 3) := by decide +kernel
theorem dX9_odds_70 : decode cX9_odds 70 = .ok (.iload_n 1, 1) := by decide +kernel
theorem dX9_odds_71 : decode cX9_odds 71 = .ok (.invokestatic 187, 3) := by decide +kernel
theorem dX9_odds_74 : decode cX9_odds 74 = .ok (.ifCond .eq 7, 3) := by decide +kernel
theorem dX9_odds_77 : decode cX9_odds 77 = .ok (.iconst 1, 1) := by decide +kernel
theorem dX9_odds_78 : decode cX9_odds 78 = .ok (.goto 4, 3) := by decide +kernel
theorem dX9_odds_81 : decode cX9_odds 81 = .ok (.iconst 0, 1) := by decide +kernel
theorem dX9_odds_82 : decode cX9_odds 82 = .ok (.iadd, 1) := by decide +kernel
theorem dX9_odds_83 : decode cX9_odds 83 = .ok (.istore 4, 2) := by decide +kernel
theorem dX9_odds_85 : decode cX9_odds 85 = .ok (.iinc 5 1, 3) := by decide +kernel
theorem dX9_odds_88 : decode cX9_odds 88 = .ok (.goto (-40), 3) := by decide +kernel
theorem dX9_odds_91 : decode cX9_odds 91 = .ok (.bipush 20, 2) := by decide +kernel
theorem dX9_odds_93 : decode cX9_odds 93 = .ok (.istore 5, 2) := by decide +kernel
theorem dX9_odds_95 : decode cX9_odds 95 = .ok (.iload 4, 2) := by decide +kernel
theorem dX9_odds_97 : decode cX9_odds 97 = .ok (.istore 6, 2) := by decide +kernel
theorem dX9_odds_99 : decode cX9_odds 99 = .ok (.iload 6, 2) := by decide +kernel
theorem dX9_odds_101 : decode cX9_odds 101 = .ok (.ifCond .eq 21, 3) := by decide +kernel
theorem dX9_odds_104 : decode cX9_odds 104 = .ok (.iload 5, 2) := by decide +kernel
theorem dX9_odds_106 : decode cX9_odds 106 = .ok (.iload 6, 2) := by decide +kernel
theorem dX9_odds_108 : decode cX9_odds 108 = .ok (.irem, 1) := by decide +kernel
theorem dX9_odds_109 : decode cX9_odds 109 = .ok (.istore 7, 2) := by decide +kernel
theorem dX9_odds_111 : decode cX9_odds 111 = .ok (.iload 6, 2) := by decide +kernel
theorem dX9_odds_113 : decode cX9_odds 113 = .ok (.istore 5, 2) := by decide +kernel
theorem dX9_odds_115 : decode cX9_odds 115 = .ok (.iload 7, 2) := by decide +kernel
theorem dX9_odds_117 : decode cX9_odds 117 = .ok (.istore 6, 2) := by decide +kernel
theorem dX9_odds_119 : decode cX9_odds 119 = .ok (.goto (-20), 3) := by decide +kernel
theorem dX9_odds_122 : decode cX9_odds 122 = .ok (.iload_n 3, 1) := by decide +kernel
theorem dX9_odds_123 : decode cX9_odds 123 = .ok (.ifCond .ne 8, 3) := by decide +kernel
theorem dX9_odds_126 : decode cX9_odds 126 = .ok (.iload 4, 2) := by decide +kernel
theorem dX9_odds_128 : decode cX9_odds 128 = .ok (.goto 5, 3) := by decide +kernel
theorem dX9_odds_131 : decode cX9_odds 131 = .ok (.bipush 20, 2) := by decide +kernel
theorem dX9_odds_133 : decode cX9_odds 133 = .ok (.iload 5, 2) := by decide +kernel
theorem dX9_odds_135 : decode cX9_odds 135 = .ok (.idiv, 1) := by decide +kernel
theorem dX9_odds_136 : decode cX9_odds 136 = .ok (.ireturn, 1) := by decide +kernel
theorem dX9_seed_0 : decode cX9_seed 0 = .ok (.aload_n 0, 1) := by decide +kernel
theorem dX9_seed_1 : decode cX9_seed 1 = .ok (.bipush 6, 2) := by decide +kernel
theorem dX9_seed_3 : decode cX9_seed 3 = .ok (.iload_n 1, 1) := by decide +kernel
theorem dX9_seed_4 : decode cX9_seed 4 = .ok (.invokevirtual 171, 3) := by decide +kernel
theorem dX9_seed_7 : decode cX9_seed 7 = .ok (.ireturn, 1) := by decide +kernel
theorem dX9_ran_0 : decode cX9_ran 0 = .ok (.aload_n 0, 1) := by decide +kernel
theorem dX9_ran_1 : decode cX9_ran 1 = .ok (.getfield 269, 3) := by decide +kernel
theorem dX9_ran_4 : decode cX9_ran 4 = .ok (.bipush 40, 2) := by decide +kernel
theorem dX9_ran_6 : decode cX9_ran 6 = .ok (.if_icmp .ge 23, 3) := by decide +kernel
theorem dX9_ran_9 : decode cX9_ran 9 = .ok (.aload_n 0, 1) := by decide +kernel
theorem dX9_ran_10 : decode cX9_ran 10 = .ok (.getfield 44, 3) := by decide +kernel
theorem dX9_ran_13 : decode cX9_ran 13 = .ok (.aload_n 0, 1) := by decide +kernel
theorem dX9_ran_14 : decode cX9_ran 14 = .ok (.getfield 269, 3) := by decide +kernel
theorem dX9_ran_17 : decode cX9_ran 17 = .ok (.iload_n 1, 1) := by decide +kernel
theorem dX9_ran_18 : decode cX9_ran 18 = .ok (.iastore, 1) := by decide +kernel
theorem dX9_ran_19 : decode cX9_ran 19 = .ok (.aload_n 0, 1) := by decide +kernel
theorem dX9_ran_20 : decode cX9_ran 20 = .ok (.dup, 1) := by decide +kernel
theorem dX9_ran_21 : decode cX9_ran 21 = .ok (.getfield 269, 3) := by decide +kernel
theorem dX9_ran_24 : decode cX9_ran 24 = .ok (.iconst 1, 1) := by decide +kernel
theorem dX9_ran_25 : decode cX9_ran 25 = .ok (.iadd, 1) := by decide +kernel
theorem dX9_ran_26 : decode cX9_ran 26 = .ok (.putfield 269, 3) := by decide +kernel
theorem dX9_ran_29 : decode cX9_ran 29 = .ok (.return_, 1) := by decide +kernel
theorem dX9_sailsOf_0 : decode cX9_sailsOf 0 = .ok (.aload_n 0, 1) := by decide +kernel
theorem dX9_sailsOf_1 : decode cX9_sailsOf 1 = .ok (.getfield 272, 3) := by decide +kernel
theorem dX9_sailsOf_4 : decode cX9_sailsOf 4 = .ok (.iconst 1, 1) := by decide +kernel
theorem dX9_sailsOf_5 : decode cX9_sailsOf 5 = .ok (.invokestatic 224, 3) := by decide +kernel
theorem dX9_sailsOf_8 : decode cX9_sailsOf 8 = .ok (.istore_n 2, 1) := by decide +kernel
theorem dX9_sailsOf_9 : decode cX9_sailsOf 9 = .ok (.iload_n 2, 1) := by decide +kernel
theorem dX9_sailsOf_10 : decode cX9_sailsOf 10 = .ok (.ifCond .eq 9, 3) := by decide +kernel
theorem dX9_sailsOf_13 : decode cX9_sailsOf 13 = .ok (.aload_n 0, 1) := by decide +kernel
theorem dX9_sailsOf_14 : decode cX9_sailsOf 14 = .ok (.bipush 20, 2) := by decide +kernel
theorem dX9_sailsOf_16 : decode cX9_sailsOf 16 = .ok (.invokevirtual 275, 3) := by decide +kernel
theorem dX9_sailsOf_19 : decode cX9_sailsOf 19 = .ok (.aload_n 0, 1) := by decide +kernel
theorem dX9_sailsOf_20 : decode cX9_sailsOf 20 = .ok (.bipush 10, 2) := by decide +kernel
theorem dX9_sailsOf_22 : decode cX9_sailsOf 22 = .ok (.invokevirtual 275, 3) := by decide +kernel
theorem dX9_sailsOf_25 : decode cX9_sailsOf 25 = .ok (.iload_n 2, 1) := by decide +kernel
theorem dX9_sailsOf_26 : decode cX9_sailsOf 26 = .ok (.ifCond .eq 14, 3) := by decide +kernel
theorem dX9_sailsOf_29 : decode cX9_sailsOf 29 = .ok (.iload_n 1, 1) := by decide +kernel
theorem dX9_sailsOf_30 : decode cX9_sailsOf 30 = .ok (.aload_n 0, 1) := by decide +kernel
theorem dX9_sailsOf_31 : decode cX9_sailsOf 31 = .ok (.getfield 278, 3) := by decide +kernel
theorem dX9_sailsOf_34 : decode cX9_sailsOf 34 = .ok (.iadd, 1) := by decide +kernel
theorem dX9_sailsOf_35 : decode cX9_sailsOf 35 = .ok (.iconst 3, 1) := by decide +kernel
theorem dX9_sailsOf_36 : decode cX9_sailsOf 36 = .ok (.imul, 1) := by decide +kernel
theorem dX9_sailsOf_37 : decode cX9_sailsOf 37 = .ok (.goto 9, 3) := by decide +kernel
theorem dX9_sailsOf_40 : decode cX9_sailsOf 40 = .ok (.iload_n 1, 1) := by decide +kernel
theorem dX9_sailsOf_41 : decode cX9_sailsOf 41 = .ok (.aload_n 0, 1) := by decide +kernel
theorem dX9_sailsOf_42 : decode cX9_sailsOf 42 = .ok (.getfield 278, 3) := by decide +kernel
theorem dX9_sailsOf_45 : decode cX9_sailsOf 45 = .ok (.iadd, 1) := by decide +kernel
theorem dX9_sailsOf_46 : decode cX9_sailsOf 46 = .ok (.ireturn, 1) := by decide +kernel
theorem dX9_steersOf_0 : decode cX9_steersOf 0 = .ok (.iload_n 1, 1) := by decide +kernel
theorem dX9_steersOf_1 : decode cX9_steersOf 1 = .ok (.istore_n 2, 1) := by decide +kernel
theorem dX9_steersOf_2 : decode cX9_steersOf 2 = .ok (.aload_n 0, 1) := by decide +kernel
theorem dX9_steersOf_3 : decode cX9_steersOf 3 = .ok (.getfield 272, 3) := by decide +kernel
theorem dX9_steersOf_6 : decode cX9_steersOf 6 = .ok (.iconst 5, 1) := by decide +kernel
theorem dX9_steersOf_7 : decode cX9_steersOf 7 = .ok (.if_icmp .ne 12, 3) := by decide +kernel
theorem dX9_steersOf_10 : decode cX9_steersOf 10 = .ok (.aload_n 0, 1) := by decide +kernel
theorem dX9_steersOf_11 : decode cX9_steersOf 11 = .ok (.bipush 60, 2) := by decide +kernel
theorem dX9_steersOf_13 : decode cX9_steersOf 13 = .ok (.invokevirtual 275, 3) := by decide +kernel
theorem dX9_steersOf_16 : decode cX9_steersOf 16 = .ok (.iinc 2 1, 3) := by decide +kernel
theorem dX9_steersOf_19 : decode cX9_steersOf 19 = .ok (.aload_n 0, 1) := by decide +kernel
theorem dX9_steersOf_20 : decode cX9_steersOf 20 = .ok (.getfield 272, 3) := by decide +kernel
theorem dX9_steersOf_23 : decode cX9_steersOf 23 = .ok (.iconst 2, 1) := by decide +kernel
theorem dX9_steersOf_24 : decode cX9_steersOf 24 = .ok (.invokestatic 224, 3) := by decide +kernel
theorem dX9_steersOf_27 : decode cX9_steersOf 27 = .ok (.istore_n 3, 1) := by decide +kernel
theorem dX9_steersOf_28 : decode cX9_steersOf 28 = .ok (.iload_n 3, 1) := by decide +kernel
theorem dX9_steersOf_29 : decode cX9_steersOf 29 = .ok (.ifCond .eq 9, 3) := by decide +kernel
theorem dX9_steersOf_32 : decode cX9_steersOf 32 = .ok (.aload_n 0, 1) := by decide +kernel
theorem dX9_steersOf_33 : decode cX9_steersOf 33 = .ok (.bipush 30, 2) := by decide +kernel
theorem dX9_steersOf_35 : decode cX9_steersOf 35 = .ok (.invokevirtual 275, 3) := by decide +kernel
theorem dX9_steersOf_38 : decode cX9_steersOf 38 = .ok (.aload_n 0, 1) := by decide +kernel
theorem dX9_steersOf_39 : decode cX9_steersOf 39 = .ok (.bipush 11, 2) := by decide +kernel
theorem dX9_steersOf_41 : decode cX9_steersOf 41 = .ok (.invokevirtual 275, 3) := by decide +kernel
theorem dX9_steersOf_44 : decode cX9_steersOf 44 = .ok (.aload_n 0, 1) := by decide +kernel
theorem dX9_steersOf_45 : decode cX9_steersOf 45 = .ok (.iload_n 2, 1) := by decide +kernel
theorem dX9_steersOf_46 : decode cX9_steersOf 46 = .ok (.invokevirtual 281, 3) := by decide +kernel
theorem dX9_steersOf_49 : decode cX9_steersOf 49 = .ok (.iconst 2, 1) := by decide +kernel
theorem dX9_steersOf_50 : decode cX9_steersOf 50 = .ok (.imul, 1) := by decide +kernel
theorem dX9_steersOf_51 : decode cX9_steersOf 51 = .ok (.istore 4, 2) := by decide +kernel
theorem dX9_steersOf_53 : decode cX9_steersOf 53 = .ok (.iload_n 3, 1) := by decide +kernel
theorem dX9_steersOf_54 : decode cX9_steersOf 54 = .ok (.ifCond .eq 14, 3) := by decide +kernel
theorem dX9_steersOf_57 : decode cX9_steersOf 57 = .ok (.iload 4, 2) := by decide +kernel
theorem dX9_steersOf_59 : decode cX9_steersOf 59 = .ok (.aload_n 0, 1) := by decide +kernel
theorem dX9_steersOf_60 : decode cX9_steersOf 60 = .ok (.iconst 1, 1) := by decide +kernel
theorem dX9_steersOf_61 : decode cX9_steersOf 61 = .ok (.invokevirtual 284, 3) := by decide +kernel
theorem dX9_steersOf_64 : decode cX9_steersOf 64 = .ok (.isub, 1) := by decide +kernel
theorem dX9_steersOf_65 : decode cX9_steersOf 65 = .ok (.goto 5, 3) := by decide +kernel
theorem dX9_steersOf_68 : decode cX9_steersOf 68 = .ok (.iload 4, 2) := by decide +kernel
theorem dX9_steersOf_70 : decode cX9_steersOf 70 = .ok (.ireturn, 1) := by decide +kernel
theorem dX9_soundsOf_0 : decode cX9_soundsOf 0 = .ok (.aload_n 0, 1) := by decide +kernel
theorem dX9_soundsOf_1 : decode cX9_soundsOf 1 = .ok (.getfield 272, 3) := by decide +kernel
theorem dX9_soundsOf_4 : decode cX9_soundsOf 4 = .ok (.bipush 6, 2) := by decide +kernel
theorem dX9_soundsOf_6 : decode cX9_soundsOf 6 = .ok (.if_icmp .ne 9, 3) := by decide +kernel
theorem dX9_soundsOf_9 : decode cX9_soundsOf 9 = .ok (.aload_n 0, 1) := by decide +kernel
theorem dX9_soundsOf_10 : decode cX9_soundsOf 10 = .ok (.bipush 70, 2) := by decide +kernel
theorem dX9_soundsOf_12 : decode cX9_soundsOf 12 = .ok (.invokevirtual 275, 3) := by decide +kernel
theorem dX9_soundsOf_15 : decode cX9_soundsOf 15 = .ok (.aload_n 0, 1) := by decide +kernel
theorem dX9_soundsOf_16 : decode cX9_soundsOf 16 = .ok (.getfield 272, 3) := by decide +kernel
theorem dX9_soundsOf_19 : decode cX9_soundsOf 19 = .ok (.iconst 3, 1) := by decide +kernel
theorem dX9_soundsOf_20 : decode cX9_soundsOf 20 = .ok (.invokestatic 224, 3) := by decide +kernel
theorem dX9_soundsOf_23 : decode cX9_soundsOf 23 = .ok (.istore_n 2, 1) := by decide +kernel
theorem dX9_soundsOf_24 : decode cX9_soundsOf 24 = .ok (.iload_n 2, 1) := by decide +kernel
theorem dX9_soundsOf_25 : decode cX9_soundsOf 25 = .ok (.ifCond .eq 9, 3) := by decide +kernel
theorem dX9_soundsOf_28 : decode cX9_soundsOf 28 = .ok (.aload_n 0, 1) := by decide +kernel
theorem dX9_soundsOf_29 : decode cX9_soundsOf 29 = .ok (.bipush 40, 2) := by decide +kernel
theorem dX9_soundsOf_31 : decode cX9_soundsOf 31 = .ok (.invokevirtual 275, 3) := by decide +kernel
theorem dX9_soundsOf_34 : decode cX9_soundsOf 34 = .ok (.aload_n 0, 1) := by decide +kernel
theorem dX9_soundsOf_35 : decode cX9_soundsOf 35 = .ok (.bipush 12, 2) := by decide +kernel
theorem dX9_soundsOf_37 : decode cX9_soundsOf 37 = .ok (.invokevirtual 275, 3) := by decide +kernel
theorem dX9_soundsOf_40 : decode cX9_soundsOf 40 = .ok (.iload_n 2, 1) := by decide +kernel
theorem dX9_soundsOf_41 : decode cX9_soundsOf 41 = .ok (.ifCond .eq 13, 3) := by decide +kernel
theorem dX9_soundsOf_44 : decode cX9_soundsOf 44 = .ok (.iload_n 1, 1) := by decide +kernel
theorem dX9_soundsOf_45 : decode cX9_soundsOf 45 = .ok (.aload_n 0, 1) := by decide +kernel
theorem dX9_soundsOf_46 : decode cX9_soundsOf 46 = .ok (.getfield 287, 3) := by decide +kernel
theorem dX9_soundsOf_49 : decode cX9_soundsOf 49 = .ok (.isub, 1) := by decide +kernel
theorem dX9_soundsOf_50 : decode cX9_soundsOf 50 = .ok (.ineg, 1) := by decide +kernel
theorem dX9_soundsOf_51 : decode cX9_soundsOf 51 = .ok (.goto 9, 3) := by decide +kernel
theorem dX9_soundsOf_54 : decode cX9_soundsOf 54 = .ok (.iload_n 1, 1) := by decide +kernel
theorem dX9_soundsOf_55 : decode cX9_soundsOf 55 = .ok (.aload_n 0, 1) := by decide +kernel
theorem dX9_soundsOf_56 : decode cX9_soundsOf 56 = .ok (.getfield 287, 3) := by decide +kernel
theorem dX9_soundsOf_59 : decode cX9_soundsOf 59 = .ok (.isub, 1) := by decide +kernel
theorem dX9_soundsOf_60 : decode cX9_soundsOf 60 = .ok (.istore_n 3, 1) := by decide +kernel
theorem dX9_soundsOf_61 : decode cX9_soundsOf 61 = .ok (.aload_n 0, 1) := by decide +kernel
theorem dX9_soundsOf_62 : decode cX9_soundsOf 62 = .ok (.getfield 272, 3) := by decide +kernel
theorem dX9_soundsOf_65 : decode cX9_soundsOf 65 = .ok (.bipush 6, 2) := by decide +kernel
theorem dX9_soundsOf_67 : decode cX9_soundsOf 67 = .ok (.if_icmp .ne 12, 3) := by decide +kernel
theorem dX9_soundsOf_70 : decode cX9_soundsOf 70 = .ok (.iload_n 3, 1) := by decide +kernel
theorem dX9_soundsOf_71 : decode cX9_soundsOf 71 = .ok (.aload_n 0, 1) := by decide +kernel
theorem dX9_soundsOf_72 : decode cX9_soundsOf 72 = .ok (.getfield 278, 3) := by decide +kernel
theorem dX9_soundsOf_75 : decode cX9_soundsOf 75 = .ok (.ixor, 1) := by decide +kernel
theorem dX9_soundsOf_76 : decode cX9_soundsOf 76 = .ok (.goto 4, 3) := by decide +kernel
theorem dX9_soundsOf_79 : decode cX9_soundsOf 79 = .ok (.iload_n 3, 1) := by decide +kernel
theorem dX9_soundsOf_80 : decode cX9_soundsOf 80 = .ok (.ireturn, 1) := by decide +kernel
theorem dX9_plainLogs_0 : decode cX9_plainLogs 0 = .ok (.aload_n 0, 1) := by decide +kernel
theorem dX9_plainLogs_1 : decode cX9_plainLogs 1 = .ok (.bipush 13, 2) := by decide +kernel
theorem dX9_plainLogs_3 : decode cX9_plainLogs 3 = .ok (.invokevirtual 275, 3) := by decide +kernel
theorem dX9_plainLogs_6 : decode cX9_plainLogs 6 = .ok (.aload_n 0, 1) := by decide +kernel
theorem dX9_plainLogs_7 : decode cX9_plainLogs 7 = .ok (.iload_n 1, 1) := by decide +kernel
theorem dX9_plainLogs_8 : decode cX9_plainLogs 8 = .ok (.invokevirtual 290, 3) := by decide +kernel
theorem dX9_plainLogs_11 : decode cX9_plainLogs 11 = .ok (.istore_n 2, 1) := by decide +kernel
theorem dX9_plainLogs_12 : decode cX9_plainLogs 12 = .ok (.iload_n 2, 1) := by decide +kernel
theorem dX9_plainLogs_13 : decode cX9_plainLogs 13 = .ok (.aload_n 0, 1) := by decide +kernel
theorem dX9_plainLogs_14 : decode cX9_plainLogs 14 = .ok (.iload_n 1, 1) := by decide +kernel
theorem dX9_plainLogs_15 : decode cX9_plainLogs 15 = .ok (.invokevirtual 284, 3) := by decide +kernel
theorem dX9_plainLogs_18 : decode cX9_plainLogs 18 = .ok (.ixor, 1) := by decide +kernel
theorem dX9_plainLogs_19 : decode cX9_plainLogs 19 = .ok (.ireturn, 1) := by decide +kernel
theorem dX9_logsOf_0 : decode cX9_logsOf 0 = .ok (.aload_n 0, 1) := by decide +kernel
theorem dX9_logsOf_1 : decode cX9_logsOf 1 = .ok (.getfield 272, 3) := by decide +kernel
theorem dX9_logsOf_4 : decode cX9_logsOf 4 = .ok (.bipush 6, 2) := by decide +kernel
theorem dX9_logsOf_6 : decode cX9_logsOf 6 = .ok (.if_icmp .ne 23, 3) := by decide +kernel
theorem dX9_logsOf_9 : decode cX9_logsOf 9 = .ok (.aload_n 0, 1) := by decide +kernel
theorem dX9_logsOf_10 : decode cX9_logsOf 10 = .ok (.bipush 71, 2) := by decide +kernel
theorem dX9_logsOf_12 : decode cX9_logsOf 12 = .ok (.invokevirtual 275, 3) := by decide +kernel
theorem dX9_logsOf_15 : decode cX9_logsOf 15 = .ok (.aload_n 0, 1) := by decide +kernel
theorem dX9_logsOf_16 : decode cX9_logsOf 16 = .ok (.iload_n 1, 1) := by decide +kernel
theorem dX9_logsOf_17 : decode cX9_logsOf 17 = .ok (.invokevirtual 290, 3) := by decide +kernel
theorem dX9_logsOf_20 : decode cX9_logsOf 20 = .ok (.istore_n 2, 1) := by decide +kernel
theorem dX9_logsOf_21 : decode cX9_logsOf 21 = .ok (.iload_n 2, 1) := by decide +kernel
theorem dX9_logsOf_22 : decode cX9_logsOf 22 = .ok (.aload_n 0, 1) := by decide +kernel
theorem dX9_logsOf_23 : decode cX9_logsOf 23 = .ok (.iload_n 1, 1) := by decide +kernel
theorem dX9_logsOf_24 : decode cX9_logsOf 24 = .ok (.invokevirtual 293, 3) := by decide +kernel
theorem dX9_logsOf_27 : decode cX9_logsOf 27 = .ok (.isub, 1) := by decide +kernel
theorem dX9_logsOf_28 : decode cX9_logsOf 28 = .ok (.ireturn, 1) := by decide +kernel
theorem dX9_logsOf_29 : decode cX9_logsOf 29 = .ok (.aload_n 0, 1) := by decide +kernel
theorem dX9_logsOf_30 : decode cX9_logsOf 30 = .ok (.getfield 272, 3) := by decide +kernel
theorem dX9_logsOf_33 : decode cX9_logsOf 33 = .ok (.iconst 4, 1) := by decide +kernel
theorem dX9_logsOf_34 : decode cX9_logsOf 34 = .ok (.if_icmp .ne 23, 3) := by decide +kernel
theorem dX9_logsOf_37 : decode cX9_logsOf 37 = .ok (.aload_n 0, 1) := by decide +kernel
theorem dX9_logsOf_38 : decode cX9_logsOf 38 = .ok (.bipush 50, 2) := by decide +kernel
theorem dX9_logsOf_40 : decode cX9_logsOf 40 = .ok (.invokevirtual 275, 3) := by decide +kernel
theorem dX9_logsOf_43 : decode cX9_logsOf 43 = .ok (.aload_n 0, 1) := by decide +kernel
theorem dX9_logsOf_44 : decode cX9_logsOf 44 = .ok (.iload_n 1, 1) := by decide +kernel
theorem dX9_logsOf_45 : decode cX9_logsOf 45 = .ok (.invokevirtual 293, 3) := by decide +kernel
theorem dX9_logsOf_48 : decode cX9_logsOf 48 = .ok (.istore_n 2, 1) := by decide +kernel
theorem dX9_logsOf_49 : decode cX9_logsOf 49 = .ok (.iload_n 2, 1) := by decide +kernel
theorem dX9_logsOf_50 : decode cX9_logsOf 50 = .ok (.aload_n 0, 1) := by decide +kernel
theorem dX9_logsOf_51 : decode cX9_logsOf 51 = .ok (.iconst 2, 1) := by decide +kernel
theorem dX9_logsOf_52 : decode cX9_logsOf 52 = .ok (.invokevirtual 281, 3) := by decide +kernel
theorem dX9_logsOf_55 : decode cX9_logsOf 55 = .ok (.isub, 1) := by decide +kernel
theorem dX9_logsOf_56 : decode cX9_logsOf 56 = .ok (.ireturn, 1) := by decide +kernel
theorem dX9_logsOf_57 : decode cX9_logsOf 57 = .ok (.aload_n 0, 1) := by decide +kernel
theorem dX9_logsOf_58 : decode cX9_logsOf 58 = .ok (.iload_n 1, 1) := by decide +kernel
theorem dX9_logsOf_59 : decode cX9_logsOf 59 = .ok (.invokevirtual 293, 3) := by decide +kernel
theorem dX9_logsOf_62 : decode cX9_logsOf 62 = .ok (.ireturn, 1) := by decide +kernel
theorem dX9_voice_0 : decode cX9_voice 0 = .ok (.aload_n 0, 1) := by decide +kernel
theorem dX9_voice_1 : decode cX9_voice 1 = .ok (.iload_n 1, 1) := by decide +kernel
theorem dX9_voice_2 : decode cX9_voice 2 = .ok (.invokevirtual 218, 3) := by decide +kernel
theorem dX9_voice_5 : decode cX9_voice 5 = .ok (.ifCond .eq 12, 3) := by decide +kernel
theorem dX9_voice_8 : decode cX9_voice 8 = .ok (.iload_n 2, 1) := by decide +kernel
theorem dX9_voice_9 : decode cX9_voice 9 = .ok (.iconst 0, 1) := by decide +kernel
theorem dX9_voice_10 : decode cX9_voice 10 = .ok (.iconst 3, 1) := by decide +kernel
theorem dX9_voice_11 : decode cX9_voice 11 = .ok (.invokestatic 77, 3) := by decide +kernel
theorem dX9_voice_14 : decode cX9_voice 14 = .ok (.ifCond .ne 10, 3) := by decide +kernel
theorem dX9_voice_17 : decode cX9_voice 17 = .ok (.aload_n 0, 1) := by decide +kernel
theorem dX9_voice_18 : decode cX9_voice 18 = .ok (.ldc 81, 2) := by decide +kernel
theorem dX9_voice_20 : decode cX9_voice 20 = .ok (.invokevirtual 82, 3) := by decide +kernel
theorem dX9_voice_23 : decode cX9_voice 23 = .ok (.ireturn, 1) := by decide +kernel
theorem dX9_voice_24 : decode cX9_voice 24 = .ok (.aload_n 0, 1) := by decide +kernel
theorem dX9_voice_25 : decode cX9_voice 25 = .ok (.iconst 0, 1) := by decide +kernel
theorem dX9_voice_26 : decode cX9_voice 26 = .ok (.putfield 269, 3) := by decide +kernel
theorem dX9_voice_29 : decode cX9_voice 29 = .ok (.aload_n 0, 1) := by decide +kernel
theorem dX9_voice_30 : decode cX9_voice 30 = .ok (.aload_n 0, 1) := by decide +kernel
theorem dX9_voice_31 : decode cX9_voice 31 = .ok (.iload_n 1, 1) := by decide +kernel
theorem dX9_voice_32 : decode cX9_voice 32 = .ok (.iconst 0, 1) := by decide +kernel
theorem dX9_voice_33 : decode cX9_voice 33 = .ok (.invokevirtual 191, 3) := by decide +kernel
theorem dX9_voice_36 : decode cX9_voice 36 = .ok (.putfield 272, 3) := by decide +kernel
theorem dX9_voice_39 : decode cX9_voice 39 = .ok (.aload_n 0, 1) := by decide +kernel
theorem dX9_voice_40 : decode cX9_voice 40 = .ok (.iload_n 1, 1) := by decide +kernel
theorem dX9_voice_41 : decode cX9_voice 41 = .ok (.putfield 278, 3) := by decide +kernel
theorem dX9_voice_44 : decode cX9_voice 44 = .ok (.aload_n 0, 1) := by decide +kernel
theorem dX9_voice_45 : decode cX9_voice 45 = .ok (.aload_n 0, 1) := by decide +kernel
theorem dX9_voice_46 : decode cX9_voice 46 = .ok (.iload_n 1, 1) := by decide +kernel
theorem dX9_voice_47 : decode cX9_voice 47 = .ok (.iconst 1, 1) := by decide +kernel
theorem dX9_voice_48 : decode cX9_voice 48 = .ok (.invokevirtual 191, 3) := by decide +kernel
theorem dX9_voice_51 : decode cX9_voice 51 = .ok (.putfield 287, 3) := by decide +kernel
theorem dX9_voice_54 : decode cX9_voice 54 = .ok (.iload_n 2, 1) := by decide +kernel
theorem dX9_voice_55 : decode cX9_voice 55 = .ok (.ifCond .ne 11, 3) := by decide +kernel
theorem dX9_voice_58 : decode cX9_voice 58 = .ok (.aload_n 0, 1) := by decide +kernel
theorem dX9_voice_59 : decode cX9_voice 59 = .ok (.iload_n 3, 1) := by decide +kernel
theorem dX9_voice_60 : decode cX9_voice 60 = .ok (.invokevirtual 281, 3) := by decide +kernel
theorem dX9_voice_63 : decode cX9_voice 63 = .ok (.goto 34, 3) := by decide +kernel
theorem dX9_voice_66 : decode cX9_voice 66 = .ok (.iload_n 2, 1) := by decide +kernel
theorem dX9_voice_67 : decode cX9_voice 67 = .ok (.iconst 1, 1) := by decide +kernel
theorem dX9_voice_68 : decode cX9_voice 68 = .ok (.if_icmp .ne 11, 3) := by decide +kernel
theorem dX9_voice_71 : decode cX9_voice 71 = .ok (.aload_n 0, 1) := by decide +kernel
theorem dX9_voice_72 : decode cX9_voice 72 = .ok (.iload_n 3, 1) := by decide +kernel
theorem dX9_voice_73 : decode cX9_voice 73 = .ok (.invokevirtual 290, 3) := by decide +kernel
theorem dX9_voice_76 : decode cX9_voice 76 = .ok (.goto 21, 3) := by decide +kernel
theorem dX9_voice_79 : decode cX9_voice 79 = .ok (.iload_n 2, 1) := by decide +kernel
theorem dX9_voice_80 : decode cX9_voice 80 = .ok (.iconst 2, 1) := by decide +kernel
theorem dX9_voice_81 : decode cX9_voice 81 = .ok (.if_icmp .ne 11, 3) := by decide +kernel
theorem dX9_voice_84 : decode cX9_voice 84 = .ok (.aload_n 0, 1) := by decide +kernel
theorem dX9_voice_85 : decode cX9_voice 85 = .ok (.iload_n 3, 1) := by decide +kernel
theorem dX9_voice_86 : decode cX9_voice 86 = .ok (.invokevirtual 284, 3) := by decide +kernel
theorem dX9_voice_89 : decode cX9_voice 89 = .ok (.goto 8, 3) := by decide +kernel
theorem dX9_voice_92 : decode cX9_voice 92 = .ok (.aload_n 0, 1) := by decide +kernel
theorem dX9_voice_93 : decode cX9_voice 93 = .ok (.iload_n 3, 1) := by decide +kernel
theorem dX9_voice_94 : decode cX9_voice 94 = .ok (.invokevirtual 296, 3) := by decide +kernel
theorem dX9_voice_97 : decode cX9_voice 97 = .ok (.ireturn, 1) := by decide +kernel
theorem dX9_trace_0 : decode cX9_trace 0 = .ok (.iload_n 1, 1) := by decide +kernel
theorem dX9_trace_1 : decode cX9_trace 1 = .ok (.iconst 0, 1) := by decide +kernel
theorem dX9_trace_2 : decode cX9_trace 2 = .ok (.aload_n 0, 1) := by decide +kernel
theorem dX9_trace_3 : decode cX9_trace 3 = .ok (.getfield 269, 3) := by decide +kernel
theorem dX9_trace_6 : decode cX9_trace 6 = .ok (.iconst 1, 1) := by decide +kernel
theorem dX9_trace_7 : decode cX9_trace 7 = .ok (.isub, 1) := by decide +kernel
theorem dX9_trace_8 : decode cX9_trace 8 = .ok (.invokestatic 77, 3) := by decide +kernel
theorem dX9_trace_11 : decode cX9_trace 11 = .ok (.ifCond .eq 12, 3) := by decide +kernel
theorem dX9_trace_14 : decode cX9_trace 14 = .ok (.aload_n 0, 1) := by decide +kernel
theorem dX9_trace_15 : decode cX9_trace 15 = .ok (.getfield 44, 3) := by decide +kernel
theorem dX9_trace_18 : decode cX9_trace 18 = .ok (.iload_n 1, 1) := by decide +kernel
theorem dX9_trace_19 : decode cX9_trace 19 = .ok (.iaload, 1) := by decide +kernel
theorem dX9_trace_20 : decode cX9_trace 20 = .ok (.goto 10, 3) := by decide +kernel
theorem dX9_trace_23 : decode cX9_trace 23 = .ok (.aload_n 0, 1) := by decide +kernel
theorem dX9_trace_24 : decode cX9_trace 24 = .ok (.ldc_w 256, 3) := by decide +kernel
theorem dX9_trace_27 : decode cX9_trace 27 = .ok (.invokevirtual 82, 3) := by decide +kernel
theorem dX9_trace_30 : decode cX9_trace 30 = .ok (.ireturn, 1) := by decide +kernel
theorem dX9_isSheet_0 : decode cX9_isSheet 0 = .ok (.iload_n 0, 1) := by decide +kernel
theorem dX9_isSheet_1 : decode cX9_isSheet 1 = .ok (.iconst 0, 1) := by decide +kernel
theorem dX9_isSheet_2 : decode cX9_isSheet 2 = .ok (.iconst 3, 1) := by decide +kernel
theorem dX9_isSheet_3 : decode cX9_isSheet 3 = .ok (.invokestatic 77, 3) := by decide +kernel
theorem dX9_isSheet_6 : decode cX9_isSheet 6 = .ok (.ireturn, 1) := by decide +kernel
theorem dX9_sheet_0 : decode cX9_sheet 0 = .ok (.iload_n 1, 1) := by decide +kernel
theorem dX9_sheet_1 : decode cX9_sheet 1 = .ok (.invokestatic 263, 3) := by decide +kernel
theorem dX9_sheet_4 : decode cX9_sheet 4 = .ok (.ifCond .eq 25, 3) := by decide +kernel
theorem dX9_sheet_7 : decode cX9_sheet 7 = .ok (.iload_n 2, 1) := by decide +kernel
theorem dX9_sheet_8 : decode cX9_sheet 8 = .ok (.ifCond .eq 28, 3) := by decide +kernel
theorem dX9_sheet_11 : decode cX9_sheet 11 = .ok (.iload_n 2, 1) := by decide +kernel
theorem dX9_sheet_12 : decode cX9_sheet 12 = .ok (.bipush 8, 2) := by decide +kernel
theorem dX9_sheet_14 : decode cX9_sheet 14 = .ok (.if_icmp .eq 22, 3) := by decide +kernel
theorem dX9_sheet_17 : decode cX9_sheet 17 = .ok (.iload_n 2, 1) := by decide +kernel
theorem dX9_sheet_18 : decode cX9_sheet 18 = .ok (.bipush 16, 2) := by decide +kernel
theorem dX9_sheet_20 : decode cX9_sheet 20 = .ok (.if_icmp .eq 16, 3) := by decide +kernel
theorem dX9_sheet_23 : decode cX9_sheet 23 = .ok (.iload_n 2, 1) := by decide +kernel
theorem dX9_sheet_24 : decode cX9_sheet 24 = .ok (.bipush 32, 2) := by decide +kernel
theorem dX9_sheet_26 : decode cX9_sheet 26 = .ok (.if_icmp .eq 10, 3) := by decide +kernel
theorem dX9_sheet_29 : decode cX9_sheet 29 = .ok (.aload_n 0, 1) := by decide +kernel
theorem dX9_sheet_30 : decode cX9_sheet 30 = .ok (.ldc 81, 2) := by decide +kernel
theorem dX9_sheet_32 : decode cX9_sheet 32 = .ok (.invokevirtual 82, 3) := by decide +kernel
theorem dX9_sheet_35 : decode cX9_sheet 35 = .ok (.ireturn, 1) := by decide +kernel
theorem dX9_sheet_36 : decode cX9_sheet 36 = .ok (.iload_n 2, 1) := by decide +kernel
theorem dX9_sheet_37 : decode cX9_sheet 37 = .ok (.ifCond .eq 14, 3) := by decide +kernel
theorem dX9_sheet_40 : decode cX9_sheet 40 = .ok (.iload_n 3, 1) := by decide +kernel
theorem dX9_sheet_41 : decode cX9_sheet 41 = .ok (.ifCond .ge 10, 3) := by decide +kernel
theorem dX9_sheet_44 : decode cX9_sheet 44 = .ok (.aload_n 0, 1) := by decide +kernel
theorem dX9_sheet_45 : decode cX9_sheet 45 = .ok (.ldc 174, 2) := by decide +kernel
theorem dX9_sheet_47 : decode cX9_sheet 47 = .ok (.invokevirtual 82, 3) := by decide +kernel
theorem dX9_sheet_50 : decode cX9_sheet 50 = .ok (.ireturn, 1) := by decide +kernel
theorem dX9_sheet_51 : decode cX9_sheet 51 = .ok (.iload_n 2, 1) := by decide +kernel
theorem dX9_sheet_52 : decode cX9_sheet 52 = .ok (.ifCond .eq 16, 3) := by decide +kernel
theorem dX9_sheet_55 : decode cX9_sheet 55 = .ok (.iload_n 3, 1) := by decide +kernel
theorem dX9_sheet_56 : decode cX9_sheet 56 = .ok (.bipush 40, 2) := by decide +kernel
theorem dX9_sheet_58 : decode cX9_sheet 58 = .ok (.if_icmp .le 10, 3) := by decide +kernel
theorem dX9_sheet_61 : decode cX9_sheet 61 = .ok (.aload_n 0, 1) := by decide +kernel
theorem dX9_sheet_62 : decode cX9_sheet 62 = .ok (.ldc 81, 2) := by decide +kernel
theorem dX9_sheet_64 : decode cX9_sheet 64 = .ok (.invokevirtual 82, 3) := by decide +kernel
theorem dX9_sheet_67 : decode cX9_sheet 67 = .ok (.ireturn, 1) := by decide +kernel
theorem dX9_sheet_68 : decode cX9_sheet 68 = .ok (.aload_n 0, 1) := by decide +kernel
theorem dX9_sheet_69 : decode cX9_sheet 69 = .ok (.getfield 47, 3) := by decide +kernel
theorem dX9_sheet_72 : decode cX9_sheet 72 = .ok (.iload_n 1, 1) := by decide +kernel
theorem dX9_sheet_73 : decode cX9_sheet 73 = .ok (.iload_n 2, 1) := by decide +kernel
theorem dX9_sheet_74 : decode cX9_sheet 74 = .ok (.iastore, 1) := by decide +kernel
theorem dX9_sheet_75 : decode cX9_sheet 75 = .ok (.aload_n 0, 1) := by decide +kernel
theorem dX9_sheet_76 : decode cX9_sheet 76 = .ok (.getfield 50, 3) := by decide +kernel
theorem dX9_sheet_79 : decode cX9_sheet 79 = .ok (.iload_n 1, 1) := by decide +kernel
theorem dX9_sheet_80 : decode cX9_sheet 80 = .ok (.iload_n 2, 1) := by decide +kernel
theorem dX9_sheet_81 : decode cX9_sheet 81 = .ok (.ifCond .ne 7, 3) := by decide +kernel
theorem dX9_sheet_84 : decode cX9_sheet 84 = .ok (.iconst 0, 1) := by decide +kernel
theorem dX9_sheet_85 : decode cX9_sheet 85 = .ok (.goto 4, 3) := by decide +kernel
theorem dX9_sheet_88 : decode cX9_sheet 88 = .ok (.iload_n 3, 1) := by decide +kernel
theorem dX9_sheet_89 : decode cX9_sheet 89 = .ok (.iastore, 1) := by decide +kernel
theorem dX9_sheet_90 : decode cX9_sheet 90 = .ok (.iconst 0, 1) := by decide +kernel
theorem dX9_sheet_91 : decode cX9_sheet 91 = .ok (.istore 4, 2) := by decide +kernel
theorem dX9_sheet_93 : decode cX9_sheet 93 = .ok (.iload 4, 2) := by decide +kernel
theorem dX9_sheet_95 : decode cX9_sheet 95 = .ok (.bipush 40, 2) := by decide +kernel
theorem dX9_sheet_97 : decode cX9_sheet 97 = .ok (.if_icmp .ge 22, 3) := by decide +kernel
theorem dX9_sheet_100 : decode cX9_sheet 100 = .ok (.aload_n 0, 1) := by decide +kernel
theorem dX9_sheet_101 : decode cX9_sheet 101 = .ok (.getfield 53, 3) := by decide +kernel
theorem dX9_sheet_104 : decode cX9_sheet 104 = .ok (.bipush 40, 2) := by decide +kernel
theorem dX9_sheet_106 : decode cX9_sheet 106 = .ok (.iload_n 1, 1) := by decide +kernel
theorem dX9_sheet_107 : decode cX9_sheet 107 = .ok (.imul, 1) := by decide +kernel
theorem dX9_sheet_108 : decode cX9_sheet 108 = .ok (.iload 4, 2) := by decide +kernel
theorem dX9_sheet_110 : decode cX9_sheet 110 = .ok (.iadd, 1) := by decide +kernel
theorem dX9_sheet_111 : decode cX9_sheet 111 = .ok (.iconst 0, 1) := by decide +kernel
theorem dX9_sheet_112 : decode cX9_sheet 112 = .ok (.iastore, 1) := by decide +kernel
theorem dX9_sheet_113 : decode cX9_sheet 113 = .ok (.iinc 4 1, 3) := by decide +kernel
theorem dX9_sheet_116 : decode cX9_sheet 116 = .ok (.goto (-23), 3) := by decide +kernel
theorem dX9_sheet_119 : decode cX9_sheet 119 = .ok (.iconst 1, 1) := by decide +kernel
theorem dX9_sheet_120 : decode cX9_sheet 120 = .ok (.ireturn, 1) := by decide +kernel
theorem dX9_put_0 : decode cX9_put 0 = .ok (.iload_n 1, 1) := by decide +kernel
theorem dX9_put_1 : decode cX9_put 1 = .ok (.invokestatic 263, 3) := by decide +kernel
theorem dX9_put_4 : decode cX9_put 4 = .ok (.ifCond .ne 10, 3) := by decide +kernel
theorem dX9_put_7 : decode cX9_put 7 = .ok (.aload_n 0, 1) := by decide +kernel
theorem dX9_put_8 : decode cX9_put 8 = .ok (.ldc 81, 2) := by decide +kernel
theorem dX9_put_10 : decode cX9_put 10 = .ok (.invokevirtual 82, 3) := by decide +kernel
theorem dX9_put_13 : decode cX9_put 13 = .ok (.ireturn, 1) := by decide +kernel
theorem dX9_put_14 : decode cX9_put 14 = .ok (.aload_n 0, 1) := by decide +kernel
theorem dX9_put_15 : decode cX9_put 15 = .ok (.getfield 47, 3) := by decide +kernel
theorem dX9_put_18 : decode cX9_put 18 = .ok (.iload_n 1, 1) := by decide +kernel
theorem dX9_put_19 : decode cX9_put 19 = .ok (.iaload, 1) := by decide +kernel
theorem dX9_put_20 : decode cX9_put 20 = .ok (.ifCond .ne 11, 3) := by decide +kernel
theorem dX9_put_23 : decode cX9_put 23 = .ok (.aload_n 0, 1) := by decide +kernel
theorem dX9_put_24 : decode cX9_put 24 = .ok (.ldc_w 256, 3) := by decide +kernel
theorem dX9_put_27 : decode cX9_put 27 = .ok (.invokevirtual 82, 3) := by decide +kernel
theorem dX9_put_30 : decode cX9_put 30 = .ok (.ireturn, 1) := by decide +kernel
theorem dX9_put_31 : decode cX9_put 31 = .ok (.iload_n 2, 1) := by decide +kernel
theorem dX9_put_32 : decode cX9_put 32 = .ok (.iconst 0, 1) := by decide +kernel
theorem dX9_put_33 : decode cX9_put 33 = .ok (.aload_n 0, 1) := by decide +kernel
theorem dX9_put_34 : decode cX9_put 34 = .ok (.getfield 50, 3) := by decide +kernel
theorem dX9_put_37 : decode cX9_put 37 = .ok (.iload_n 1, 1) := by decide +kernel
theorem dX9_put_38 : decode cX9_put 38 = .ok (.iaload, 1) := by decide +kernel
theorem dX9_put_39 : decode cX9_put 39 = .ok (.iconst 1, 1) := by decide +kernel
theorem dX9_put_40 : decode cX9_put 40 = .ok (.isub, 1) := by decide +kernel
theorem dX9_put_41 : decode cX9_put 41 = .ok (.invokestatic 77, 3) := by decide +kernel
theorem dX9_put_44 : decode cX9_put 44 = .ok (.ifCond .ne 10, 3) := by decide +kernel
theorem dX9_put_47 : decode cX9_put 47 = .ok (.aload_n 0, 1) := by decide +kernel
theorem dX9_put_48 : decode cX9_put 48 = .ok (.ldc 81, 2) := by decide +kernel
theorem dX9_put_50 : decode cX9_put 50 = .ok (.invokevirtual 82, 3) := by decide +kernel
theorem dX9_put_53 : decode cX9_put 53 = .ok (.ireturn, 1) := by decide +kernel
theorem dX9_put_54 : decode cX9_put 54 = .ok (.aload_n 0, 1) := by decide +kernel
theorem dX9_put_55 : decode cX9_put 55 = .ok (.getfield 53, 3) := by decide +kernel
theorem dX9_put_58 : decode cX9_put 58 = .ok (.bipush 40, 2) := by decide +kernel
theorem dX9_put_60 : decode cX9_put 60 = .ok (.iload_n 1, 1) := by decide +kernel
theorem dX9_put_61 : decode cX9_put 61 = .ok (.imul, 1) := by decide +kernel
theorem dX9_put_62 : decode cX9_put 62 = .ok (.iload_n 2, 1) := by decide +kernel
theorem dX9_put_63 : decode cX9_put 63 = .ok (.iadd, 1) := by decide +kernel
theorem dX9_put_64 : decode cX9_put 64 = .ok (.aload_n 0, 1) := by decide +kernel
theorem dX9_put_65 : decode cX9_put 65 = .ok (.getfield 47, 3) := by decide +kernel
theorem dX9_put_68 : decode cX9_put 68 = .ok (.iload_n 1, 1) := by decide +kernel
theorem dX9_put_69 : decode cX9_put 69 = .ok (.iaload, 1) := by decide +kernel
theorem dX9_put_70 : decode cX9_put 70 = .ok (.bipush 8, 2) := by decide +kernel
theorem dX9_put_72 : decode cX9_put 72 = .ok (.if_icmp .ne 8, 3) := by decide +kernel
theorem dX9_put_75 : decode cX9_put 75 = .ok (.iload_n 3, 1) := by decide +kernel
theorem dX9_put_76 : decode cX9_put 76 = .ok (.i2b, 1) := by decide +kernel
theorem dX9_put_77 : decode cX9_put 77 = .ok (.goto 20, 3) := by decide +kernel
theorem dX9_put_80 : decode cX9_put 80 = .ok (.aload_n 0, 1) := by decide +kernel
theorem dX9_put_81 : decode cX9_put 81 = .ok (.getfield 47, 3) := by decide +kernel
theorem dX9_put_84 : decode cX9_put 84 = .ok (.iload_n 1, 1) := by decide +kernel
theorem dX9_put_85 : decode cX9_put 85 = .ok (.iaload, 1) := by decide +kernel
theorem dX9_put_86 : decode cX9_put 86 = .ok (.bipush 16, 2) := by decide +kernel
theorem dX9_put_88 : decode cX9_put 88 = .ok (.if_icmp .ne 8, 3) := by decide +kernel
theorem dX9_put_91 : decode cX9_put 91 = .ok (.iload_n 3, 1) := by decide +kernel
theorem dX9_put_92 : decode cX9_put 92 = .ok (.i2s, 1) := by decide +kernel
theorem dX9_put_93 : decode cX9_put 93 = .ok (.goto 4, 3) := by decide +kernel
theorem dX9_put_96 : decode cX9_put 96 = .ok (.iload_n 3, 1) := by decide +kernel
theorem dX9_put_97 : decode cX9_put 97 = .ok (.iastore, 1) := by decide +kernel
theorem dX9_put_98 : decode cX9_put 98 = .ok (.iconst 1, 1) := by decide +kernel
theorem dX9_put_99 : decode cX9_put 99 = .ok (.ireturn, 1) := by decide +kernel
theorem dX9_move_0 : decode cX9_move 0 = .ok (.iload_n 1, 1) := by decide +kernel
theorem dX9_move_1 : decode cX9_move 1 = .ok (.invokestatic 263, 3) := by decide +kernel
theorem dX9_move_4 : decode cX9_move 4 = .ok (.ifCond .eq 10, 3) := by decide +kernel
theorem dX9_move_7 : decode cX9_move 7 = .ok (.iload_n 3, 1) := by decide +kernel
theorem dX9_move_8 : decode cX9_move 8 = .ok (.invokestatic 263, 3) := by decide +kernel
theorem dX9_move_11 : decode cX9_move 11 = .ok (.ifCond .ne 10, 3) := by decide +kernel
theorem dX9_move_14 : decode cX9_move 14 = .ok (.aload_n 0, 1) := by decide +kernel
theorem dX9_move_15 : decode cX9_move 15 = .ok (.ldc 81, 2) := by decide +kernel
theorem dX9_move_17 : decode cX9_move 17 = .ok (.invokevirtual 82, 3) := by decide +kernel
theorem dX9_move_20 : decode cX9_move 20 = .ok (.ireturn, 1) := by decide +kernel
theorem dX9_move_21 : decode cX9_move 21 = .ok (.aload_n 0, 1) := by decide +kernel
theorem dX9_move_22 : decode cX9_move 22 = .ok (.getfield 47, 3) := by decide +kernel
theorem dX9_move_25 : decode cX9_move 25 = .ok (.iload_n 1, 1) := by decide +kernel
theorem dX9_move_26 : decode cX9_move 26 = .ok (.iaload, 1) := by decide +kernel
theorem dX9_move_27 : decode cX9_move 27 = .ok (.ifCond .eq 12, 3) := by decide +kernel
theorem dX9_move_30 : decode cX9_move 30 = .ok (.aload_n 0, 1) := by decide +kernel
theorem dX9_move_31 : decode cX9_move 31 = .ok (.getfield 47, 3) := by decide +kernel
theorem dX9_move_34 : decode cX9_move 34 = .ok (.iload_n 3, 1) := by decide +kernel
theorem dX9_move_35 : decode cX9_move 35 = .ok (.iaload, 1) := by decide +kernel
theorem dX9_move_36 : decode cX9_move 36 = .ok (.ifCond .ne 11, 3) := by decide +kernel
theorem dX9_move_39 : decode cX9_move 39 = .ok (.aload_n 0, 1) := by decide +kernel
theorem dX9_move_40 : decode cX9_move 40 = .ok (.ldc_w 256, 3) := by decide +kernel
theorem dX9_move_43 : decode cX9_move 43 = .ok (.invokevirtual 82, 3) := by decide +kernel
theorem dX9_move_46 : decode cX9_move 46 = .ok (.ireturn, 1) := by decide +kernel
theorem dX9_move_47 : decode cX9_move 47 = .ok (.aload_n 0, 1) := by decide +kernel
theorem dX9_move_48 : decode cX9_move 48 = .ok (.getfield 47, 3) := by decide +kernel
theorem dX9_move_51 : decode cX9_move 51 = .ok (.iload_n 1, 1) := by decide +kernel
theorem dX9_move_52 : decode cX9_move 52 = .ok (.iaload, 1) := by decide +kernel
theorem dX9_move_53 : decode cX9_move 53 = .ok (.aload_n 0, 1) := by decide +kernel
theorem dX9_move_54 : decode cX9_move 54 = .ok (.getfield 47, 3) := by decide +kernel
theorem dX9_move_57 : decode cX9_move 57 = .ok (.iload_n 3, 1) := by decide +kernel
theorem dX9_move_58 : decode cX9_move 58 = .ok (.iaload, 1) := by decide +kernel
theorem dX9_move_59 : decode cX9_move 59 = .ok (.if_icmp .eq 10, 3) := by decide +kernel
theorem dX9_move_62 : decode cX9_move 62 = .ok (.aload_n 0, 1) := by decide +kernel
theorem dX9_move_63 : decode cX9_move 63 = .ok (.ldc 227, 2) := by decide +kernel
theorem dX9_move_65 : decode cX9_move 65 = .ok (.invokevirtual 82, 3) := by decide +kernel
theorem dX9_move_68 : decode cX9_move 68 = .ok (.ireturn, 1) := by decide +kernel
theorem dX9_move_69 : decode cX9_move 69 = .ok (.iload 5, 2) := by decide +kernel
theorem dX9_move_71 : decode cX9_move 71 = .ok (.ifCond .lt 47, 3) := by decide +kernel
theorem dX9_move_74 : decode cX9_move 74 = .ok (.iload_n 2, 1) := by decide +kernel
theorem dX9_move_75 : decode cX9_move 75 = .ok (.ifCond .lt 43, 3) := by decide +kernel
theorem dX9_move_78 : decode cX9_move 78 = .ok (.iload 4, 2) := by decide +kernel
theorem dX9_move_80 : decode cX9_move 80 = .ok (.ifCond .lt 38, 3) := by decide +kernel
theorem dX9_move_83 : decode cX9_move 83 = .ok (.iload_n 2, 1) := by decide +kernel
theorem dX9_move_84 : decode cX9_move 84 = .ok (.i2l, 1) := by decide +kernel
theorem dX9_move_85 : decode cX9_move 85 = .ok (.iload 5, 2) := by decide +kernel
theorem dX9_move_87 : decode cX9_move 87 = .ok (.i2l, 1) := by decide +kernel
theorem dX9_move_88 : decode cX9_move 88 = .ok (.ladd, 1) := by decide +kernel
theorem dX9_move_89 : decode cX9_move 89 = .ok (.aload_n 0, 1) := by decide +kernel
theorem dX9_move_90 : decode cX9_move 90 = .ok (.getfield 50, 3) := by decide +kernel
theorem dX9_move_93 : decode cX9_move 93 = .ok (.iload_n 1, 1) := by decide +kernel
theorem dX9_move_94 : decode cX9_move 94 = .ok (.iaload, 1) := by decide +kernel
theorem dX9_move_95 : decode cX9_move 95 = .ok (.i2l, 1) := by decide +kernel
theorem dX9_move_96 : decode cX9_move 96 = .ok (.lcmp, 1) := by decide +kernel
theorem dX9_move_97 : decode cX9_move 97 = .ok (.ifCond .gt 21, 3) := by decide +kernel
theorem dX9_move_100 : decode cX9_move 100 = .ok (.iload 4, 2) := by decide +kernel
theorem dX9_move_102 : decode cX9_move 102 = .ok (.i2l, 1) := by decide +kernel
theorem dX9_move_103 : decode cX9_move 103 = .ok (.iload 5, 2) := by decide +kernel
theorem dX9_move_105 : decode cX9_move 105 = .ok (.i2l, 1) := by decide +kernel
theorem dX9_move_106 : decode cX9_move 106 = .ok (.ladd, 1) := by decide +kernel
theorem dX9_move_107 : decode cX9_move 107 = .ok (.aload_n 0, 1) := by decide +kernel
theorem dX9_move_108 : decode cX9_move 108 = .ok (.getfield 50, 3) := by decide +kernel
theorem dX9_move_111 : decode cX9_move 111 = .ok (.iload_n 3, 1) := by decide +kernel
theorem dX9_move_112 : decode cX9_move 112 = .ok (.iaload, 1) := by decide +kernel
theorem dX9_move_113 : decode cX9_move 113 = .ok (.i2l, 1) := by decide +kernel
theorem dX9_move_114 : decode cX9_move 114 = .ok (.lcmp, 1) := by decide +kernel
theorem dX9_move_115 : decode cX9_move 115 = .ok (.ifCond .le 10, 3) := by decide +kernel
theorem dX9_move_118 : decode cX9_move 118 = .ok (.aload_n 0, 1) := by decide +kernel
theorem dX9_move_119 : decode cX9_move 119 = .ok (.ldc 81, 2) := by decide +kernel
theorem dX9_move_121 : decode cX9_move 121 = .ok (.invokevirtual 82, 3) := by decide +kernel
theorem dX9_move_124 : decode cX9_move 124 = .ok (.ireturn, 1) := by decide +kernel
theorem dX9_move_125 : decode cX9_move 125 = .ok (.iconst 0, 1) := by decide +kernel
theorem dX9_move_126 : decode cX9_move 126 = .ok (.istore 6, 2) := by decide +kernel
theorem dX9_move_128 : decode cX9_move 128 = .ok (.iload 6, 2) := by decide +kernel
theorem dX9_move_130 : decode cX9_move 130 = .ok (.iload 5, 2) := by decide +kernel
theorem dX9_move_132 : decode cX9_move 132 = .ok (.if_icmp .ge 30, 3) := by decide +kernel
theorem dX9_move_135 : decode cX9_move 135 = .ok (.aload_n 0, 1) := by decide +kernel
theorem dX9_move_136 : decode cX9_move 136 = .ok (.getfield 56, 3) := by decide +kernel
theorem dX9_move_139 : decode cX9_move 139 = .ok (.iload 6, 2) := by decide +kernel
theorem dX9_move_141 : decode cX9_move 141 = .ok (.aload_n 0, 1) := by decide +kernel
theorem dX9_move_142 : decode cX9_move 142 = .ok (.getfield 53, 3) := by decide +kernel
theorem dX9_move_145 : decode cX9_move 145 = .ok (.bipush 40, 2) := by decide +kernel
theorem dX9_move_147 : decode cX9_move 147 = .ok (.iload_n 1, 1) := by decide +kernel
theorem dX9_move_148 : decode cX9_move 148 = .ok (.imul, 1) := by decide +kernel
theorem dX9_move_149 : decode cX9_move 149 = .ok (.iload_n 2, 1) := by decide +kernel
theorem dX9_move_150 : decode cX9_move 150 = .ok (.iadd, 1) := by decide +kernel
theorem dX9_move_151 : decode cX9_move 151 = .ok (.iload 6, 2) := by decide +kernel
theorem dX9_move_153 : decode cX9_move 153 = .ok (.iadd, 1) := by decide +kernel
theorem dX9_move_154 : decode cX9_move 154 = .ok (.iaload, 1) := by decide +kernel
theorem dX9_move_155 : decode cX9_move 155 = .ok (.iastore, 1) := by decide +kernel
theorem dX9_move_156 : decode cX9_move 156 = .ok (.iinc 6 1, 3) := by decide +kernel
theorem dX9_move_159 : decode cX9_move 159 = .ok (.goto (-31), 3) := by decide +kernel
theorem dX9_move_162 : decode cX9_move 162 = .ok (.iconst 0, 1) := by decide +kernel
theorem dX9_move_163 : decode cX9_move 163 = .ok (.istore 6, 2) := by decide +kernel
theorem dX9_move_165 : decode cX9_move 165 = .ok (.iload 6, 2) := by decide +kernel
theorem dX9_move_167 : decode cX9_move 167 = .ok (.iload 5, 2) := by decide +kernel
theorem dX9_move_169 : decode cX9_move 169 = .ok (.if_icmp .ge 31, 3) := by decide +kernel
theorem dX9_move_172 : decode cX9_move 172 = .ok (.aload_n 0, 1) := by decide +kernel
theorem dX9_move_173 : decode cX9_move 173 = .ok (.getfield 53, 3) := by decide +kernel
theorem dX9_move_176 : decode cX9_move 176 = .ok (.bipush 40, 2) := by decide +kernel
theorem dX9_move_178 : decode cX9_move 178 = .ok (.iload_n 3, 1) := by decide +kernel
theorem dX9_move_179 : decode cX9_move 179 = .ok (.imul, 1) := by decide +kernel
theorem dX9_move_180 : decode cX9_move 180 = .ok (.iload 4, 2) := by decide +kernel
theorem dX9_move_182 : decode cX9_move 182 = .ok (.iadd, 1) := by decide +kernel
theorem dX9_move_183 : decode cX9_move 183 = .ok (.iload 6, 2) := by decide +kernel
theorem dX9_move_185 : decode cX9_move 185 = .ok (.iadd, 1) := by decide +kernel
theorem dX9_move_186 : decode cX9_move 186 = .ok (.aload_n 0, 1) := by decide +kernel
theorem dX9_move_187 : decode cX9_move 187 = .ok (.getfield 56, 3) := by decide +kernel
theorem dX9_move_190 : decode cX9_move 190 = .ok (.iload 6, 2) := by decide +kernel
theorem dX9_move_192 : decode cX9_move 192 = .ok (.iaload, 1) := by decide +kernel
theorem dX9_move_193 : decode cX9_move 193 = .ok (.iastore, 1) := by decide +kernel
theorem dX9_move_194 : decode cX9_move 194 = .ok (.iinc 6 1, 3) := by decide +kernel
theorem dX9_move_197 : decode cX9_move 197 = .ok (.goto (-32), 3) := by decide +kernel
theorem dX9_move_200 : decode cX9_move 200 = .ok (.iload 5, 2) := by decide +kernel
theorem dX9_move_202 : decode cX9_move 202 = .ok (.ireturn, 1) := by decide +kernel
theorem dX9_beds_0 : decode cX9_beds 0 = .ok (.iload_n 1, 1) := by decide +kernel
theorem dX9_beds_1 : decode cX9_beds 1 = .ok (.invokestatic 263, 3) := by decide +kernel
theorem dX9_beds_4 : decode cX9_beds 4 = .ok (.ifCond .ne 10, 3) := by decide +kernel
theorem dX9_beds_7 : decode cX9_beds 7 = .ok (.aload_n 0, 1) := by decide +kernel
theorem dX9_beds_8 : decode cX9_beds 8 = .ok (.ldc 81, 2) := by decide +kernel
theorem dX9_beds_10 : decode cX9_beds 10 = .ok (.invokevirtual 82, 3) := by decide +kernel
theorem dX9_beds_13 : decode cX9_beds 13 = .ok (.ireturn, 1) := by decide +kernel
theorem dX9_beds_14 : decode cX9_beds 14 = .ok (.aload_n 0, 1) := by decide +kernel
theorem dX9_beds_15 : decode cX9_beds 15 = .ok (.getfield 47, 3) := by decide +kernel
theorem dX9_beds_18 : decode cX9_beds 18 = .ok (.iload_n 1, 1) := by decide +kernel
theorem dX9_beds_19 : decode cX9_beds 19 = .ok (.iaload, 1) := by decide +kernel
theorem dX9_beds_20 : decode cX9_beds 20 = .ok (.ifCond .ne 11, 3) := by decide +kernel
theorem dX9_beds_23 : decode cX9_beds 23 = .ok (.aload_n 0, 1) := by decide +kernel
theorem dX9_beds_24 : decode cX9_beds 24 = .ok (.ldc_w 256, 3) := by decide +kernel
theorem dX9_beds_27 : decode cX9_beds 27 = .ok (.invokevirtual 82, 3) := by decide +kernel
theorem dX9_beds_30 : decode cX9_beds 30 = .ok (.ireturn, 1) := by decide +kernel
theorem dX9_beds_31 : decode cX9_beds 31 = .ok (.iconst 0, 1) := by decide +kernel
theorem dX9_beds_32 : decode cX9_beds 32 = .ok (.istore_n 2, 1) := by decide +kernel
theorem dX9_beds_33 : decode cX9_beds 33 = .ok (.iload_n 2, 1) := by decide +kernel
theorem dX9_beds_34 : decode cX9_beds 34 = .ok (.aload_n 0, 1) := by decide +kernel
theorem dX9_beds_35 : decode cX9_beds 35 = .ok (.getfield 50, 3) := by decide +kernel
theorem dX9_beds_38 : decode cX9_beds 38 = .ok (.iload_n 1, 1) := by decide +kernel
theorem dX9_beds_39 : decode cX9_beds 39 = .ok (.iaload, 1) := by decide +kernel
theorem dX9_beds_40 : decode cX9_beds 40 = .ok (.if_icmp .ge 55, 3) := by decide +kernel
theorem dX9_beds_43 : decode cX9_beds 43 = .ok (.aload_n 0, 1) := by decide +kernel
theorem dX9_beds_44 : decode cX9_beds 44 = .ok (.iload_n 2, 1) := by decide +kernel
theorem dX9_beds_45 : decode cX9_beds 45 = .ok (.invokevirtual 175, 3) := by decide +kernel
theorem dX9_beds_48 : decode cX9_beds 48 = .ok (.ifCond .eq 47, 3) := by decide +kernel
theorem dX9_beds_51 : decode cX9_beds 51 = .ok (.aload_n 0, 1) := by decide +kernel
theorem dX9_beds_52 : decode cX9_beds 52 = .ok (.getfield 53, 3) := by decide +kernel
theorem dX9_beds_55 : decode cX9_beds 55 = .ok (.bipush 40, 2) := by decide +kernel
theorem dX9_beds_57 : decode cX9_beds 57 = .ok (.iload_n 1, 1) := by decide +kernel
theorem dX9_beds_58 : decode cX9_beds 58 = .ok (.imul, 1) := by decide +kernel
theorem dX9_beds_59 : decode cX9_beds 59 = .ok (.iload_n 2, 1) := by decide +kernel
theorem dX9_beds_60 : decode cX9_beds 60 = .ok (.iadd, 1) := by decide +kernel
theorem dX9_beds_61 : decode cX9_beds 61 = .ok (.iaload, 1) := by decide +kernel
theorem dX9_beds_62 : decode cX9_beds 62 = .ok (.invokestatic 209, 3) := by decide +kernel
theorem dX9_beds_65 : decode cX9_beds 65 = .ok (.ifCond .eq 30, 3) := by decide +kernel
theorem dX9_beds_68 : decode cX9_beds 68 = .ok (.aload_n 0, 1) := by decide +kernel
theorem dX9_beds_69 : decode cX9_beds 69 = .ok (.getfield 9, 3) := by decide +kernel
theorem dX9_beds_72 : decode cX9_beds 72 = .ok (.iload_n 2, 1) := by decide +kernel
theorem dX9_beds_73 : decode cX9_beds 73 = .ok (.iconst 0, 1) := by decide +kernel
theorem dX9_beds_74 : decode cX9_beds 74 = .ok (.invokestatic 165, 3) := by decide +kernel
theorem dX9_beds_77 : decode cX9_beds 77 = .ok (.aload_n 0, 1) := by decide +kernel
theorem dX9_beds_78 : decode cX9_beds 78 = .ok (.getfield 53, 3) := by decide +kernel
theorem dX9_beds_81 : decode cX9_beds 81 = .ok (.bipush 40, 2) := by decide +kernel
theorem dX9_beds_83 : decode cX9_beds 83 = .ok (.iload_n 1, 1) := by decide +kernel
theorem dX9_beds_84 : decode cX9_beds 84 = .ok (.imul, 1) := by decide +kernel
theorem dX9_beds_85 : decode cX9_beds 85 = .ok (.iload_n 2, 1) := by decide +kernel
theorem dX9_beds_86 : decode cX9_beds 86 = .ok (.iadd, 1) := by decide +kernel
theorem dX9_beds_87 : decode cX9_beds 87 = .ok (.iaload, 1) := by decide +kernel
theorem dX9_beds_88 : decode cX9_beds 88 = .ok (.iastore, 1) := by decide +kernel
theorem dX9_beds_89 : decode cX9_beds 89 = .ok (.iinc 2 1, 3) := by decide +kernel
theorem dX9_beds_92 : decode cX9_beds 92 = .ok (.goto (-59), 3) := by decide +kernel
theorem dX9_beds_95 : decode cX9_beds 95 = .ok (.aload_n 0, 1) := by decide +kernel
theorem dX9_beds_96 : decode cX9_beds 96 = .ok (.invokevirtual 145, 3) := by decide +kernel
theorem dX9_beds_99 : decode cX9_beds 99 = .ok (.iload_n 2, 1) := by decide +kernel
theorem dX9_beds_100 : decode cX9_beds 100 = .ok (.ireturn, 1) := by decide +kernel
theorem dX9_judge_0 : decode cX9_judge 0 = .ok (.iload_n 1, 1) := by decide +kernel
theorem dX9_judge_1 : decode cX9_judge 1 = .ok (.invokestatic 263, 3) := by decide +kernel
theorem dX9_judge_4 : decode cX9_judge 4 = .ok (.ifCond .ne 10, 3) := by decide +kernel
theorem dX9_judge_7 : decode cX9_judge 7 = .ok (.aload_n 0, 1) := by decide +kernel
theorem dX9_judge_8 : decode cX9_judge 8 = .ok (.ldc 81, 2) := by decide +kernel
theorem dX9_judge_10 : decode cX9_judge 10 = .ok (.invokevirtual 82, 3) := by decide +kernel
theorem dX9_judge_13 : decode cX9_judge 13 = .ok (.ireturn, 1) := by decide +kernel
theorem dX9_judge_14 : decode cX9_judge 14 = .ok (.aload_n 0, 1) := by decide +kernel
theorem dX9_judge_15 : decode cX9_judge 15 = .ok (.getfield 47, 3) := by decide +kernel
theorem dX9_judge_18 : decode cX9_judge 18 = .ok (.iload_n 1, 1) := by decide +kernel
theorem dX9_judge_19 : decode cX9_judge 19 = .ok (.iaload, 1) := by decide +kernel
theorem dX9_judge_20 : decode cX9_judge 20 = .ok (.ifCond .ne 11, 3) := by decide +kernel
theorem dX9_judge_23 : decode cX9_judge 23 = .ok (.aload_n 0, 1) := by decide +kernel
theorem dX9_judge_24 : decode cX9_judge 24 = .ok (.ldc_w 256, 3) := by decide +kernel
theorem dX9_judge_27 : decode cX9_judge 27 = .ok (.invokevirtual 82, 3) := by decide +kernel
theorem dX9_judge_30 : decode cX9_judge 30 = .ok (.ireturn, 1) := by decide +kernel
theorem dX9_judge_31 : decode cX9_judge 31 = .ok (.iconst 0, 1) := by decide +kernel
theorem dX9_judge_32 : decode cX9_judge 32 = .ok (.istore_n 2, 1) := by decide +kernel
theorem dX9_judge_33 : decode cX9_judge 33 = .ok (.iload_n 2, 1) := by decide +kernel
theorem dX9_judge_34 : decode cX9_judge 34 = .ok (.aload_n 0, 1) := by decide +kernel
theorem dX9_judge_35 : decode cX9_judge 35 = .ok (.getfield 50, 3) := by decide +kernel
theorem dX9_judge_38 : decode cX9_judge 38 = .ok (.iload_n 1, 1) := by decide +kernel
theorem dX9_judge_39 : decode cX9_judge 39 = .ok (.iaload, 1) := by decide +kernel
theorem dX9_judge_40 : decode cX9_judge 40 = .ok (.if_icmp .ge 37, 3) := by decide +kernel
theorem dX9_judge_43 : decode cX9_judge 43 = .ok (.aload_n 0, 1) := by decide +kernel
theorem dX9_judge_44 : decode cX9_judge 44 = .ok (.iload_n 2, 1) := by decide +kernel
theorem dX9_judge_45 : decode cX9_judge 45 = .ok (.invokevirtual 218, 3) := by decide +kernel
theorem dX9_judge_48 : decode cX9_judge 48 = .ok (.ifCond .eq 29, 3) := by decide +kernel
theorem dX9_judge_51 : decode cX9_judge 51 = .ok (.aload_n 0, 1) := by decide +kernel
theorem dX9_judge_52 : decode cX9_judge 52 = .ok (.getfield 53, 3) := by decide +kernel
theorem dX9_judge_55 : decode cX9_judge 55 = .ok (.bipush 40, 2) := by decide +kernel
theorem dX9_judge_57 : decode cX9_judge 57 = .ok (.iload_n 1, 1) := by decide +kernel
theorem dX9_judge_58 : decode cX9_judge 58 = .ok (.imul, 1) := by decide +kernel
theorem dX9_judge_59 : decode cX9_judge 59 = .ok (.iload_n 2, 1) := by decide +kernel
theorem dX9_judge_60 : decode cX9_judge 60 = .ok (.iadd, 1) := by decide +kernel
theorem dX9_judge_61 : decode cX9_judge 61 = .ok (.iaload, 1) := by decide +kernel
theorem dX9_judge_62 : decode cX9_judge 62 = .ok (.aload_n 0, 1) := by decide +kernel
theorem dX9_judge_63 : decode cX9_judge 63 = .ok (.iload_n 2, 1) := by decide +kernel
theorem dX9_judge_64 : decode cX9_judge 64 = .ok (.iconst 3, 1) := by decide +kernel
theorem dX9_judge_65 : decode cX9_judge 65 = .ok (.invokevirtual 191, 3) := by decide +kernel
theorem dX9_judge_68 : decode cX9_judge 68 = .ok (.if_icmp .ne 9, 3) := by decide +kernel
theorem dX9_judge_71 : decode cX9_judge 71 = .ok (.iinc 2 1, 3) := by decide +kernel
theorem dX9_judge_74 : decode cX9_judge 74 = .ok (.goto (-41), 3) := by decide +kernel
theorem dX9_judge_77 : decode cX9_judge 77 = .ok (.iload_n 2, 1) := by decide +kernel
theorem dX9_judge_78 : decode cX9_judge 78 = .ok (.aload_n 0, 1) := by decide +kernel
theorem dX9_judge_79 : decode cX9_judge 79 = .ok (.getfield 50, 3) := by decide +kernel
theorem dX9_judge_82 : decode cX9_judge 82 = .ok (.iload_n 1, 1) := by decide +kernel
theorem dX9_judge_83 : decode cX9_judge 83 = .ok (.iaload, 1) := by decide +kernel
theorem dX9_judge_84 : decode cX9_judge 84 = .ok (.if_icmp .ne 17, 3) := by decide +kernel
theorem dX9_judge_87 : decode cX9_judge 87 = .ok (.iload_n 2, 1) := by decide +kernel
theorem dX9_judge_88 : decode cX9_judge 88 = .ok (.aload_n 0, 1) := by decide +kernel
theorem dX9_judge_89 : decode cX9_judge 89 = .ok (.getfield 9, 3) := by decide +kernel
theorem dX9_judge_92 : decode cX9_judge 92 = .ok (.iconst 2, 1) := by decide +kernel
theorem dX9_judge_93 : decode cX9_judge 93 = .ok (.iaload, 1) := by decide +kernel
theorem dX9_judge_94 : decode cX9_judge 94 = .ok (.if_icmp .ne 7, 3) := by decide +kernel
theorem dX9_judge_97 : decode cX9_judge 97 = .ok (.iconst (-1), 1) := by decide +kernel
theorem dX9_judge_98 : decode cX9_judge 98 = .ok (.goto 4, 3) := by decide +kernel
theorem dX9_judge_101 : decode cX9_judge 101 = .ok (.iload_n 2, 1) := by decide +kernel
theorem dX9_judge_102 : decode cX9_judge 102 = .ok (.ireturn, 1) := by decide +kernel
theorem dX9_image_0 : decode cX9_image 0 = .ok (.aload_n 0, 1) := by decide +kernel
theorem dX9_image_1 : decode cX9_image 1 = .ok (.getfield 9, 3) := by decide +kernel
theorem dX9_image_4 : decode cX9_image 4 = .ok (.aload_n 0, 1) := by decide +kernel
theorem dX9_image_5 : decode cX9_image 5 = .ok (.getfield 13, 3) := by decide +kernel
theorem dX9_image_8 : decode cX9_image 8 = .ok (.invokestatic 73, 3) := by decide +kernel
theorem dX9_image_11 : decode cX9_image 11 = .ok (.aload_n 0, 1) := by decide +kernel
theorem dX9_image_12 : decode cX9_image 12 = .ok (.dup, 1) := by decide +kernel
theorem dX9_image_13 : decode cX9_image 13 = .ok (.getfield 299, 3) := by decide +kernel
theorem dX9_image_16 : decode cX9_image 16 = .ok (.iconst 1, 1) := by decide +kernel
theorem dX9_image_17 : decode cX9_image 17 = .ok (.iadd, 1) := by decide +kernel
theorem dX9_image_18 : decode cX9_image 18 = .ok (.putfield 299, 3) := by decide +kernel
theorem dX9_image_21 : decode cX9_image 21 = .ok (.aload_n 0, 1) := by decide +kernel
theorem dX9_image_22 : decode cX9_image 22 = .ok (.getfield 299, 3) := by decide +kernel
theorem dX9_image_25 : decode cX9_image 25 = .ok (.ireturn, 1) := by decide +kernel
theorem dX9_restore_0 : decode cX9_restore 0 = .ok (.aload_n 0, 1) := by decide +kernel
theorem dX9_restore_1 : decode cX9_restore 1 = .ok (.getfield 299, 3) := by decide +kernel
theorem dX9_restore_4 : decode cX9_restore 4 = .ok (.ifCond .ne 11, 3) := by decide +kernel
theorem dX9_restore_7 : decode cX9_restore 7 = .ok (.aload_n 0, 1) := by decide +kernel
theorem dX9_restore_8 : decode cX9_restore 8 = .ok (.ldc_w 256, 3) := by decide +kernel
theorem dX9_restore_11 : decode cX9_restore 11 = .ok (.invokevirtual 82, 3) := by decide +kernel
theorem dX9_restore_14 : decode cX9_restore 14 = .ok (.ireturn, 1) := by decide +kernel
theorem dX9_restore_15 : decode cX9_restore 15 = .ok (.aload_n 0, 1) := by decide +kernel
theorem dX9_restore_16 : decode cX9_restore 16 = .ok (.getfield 13, 3) := by decide +kernel
theorem dX9_restore_19 : decode cX9_restore 19 = .ok (.aload_n 0, 1) := by decide +kernel
theorem dX9_restore_20 : decode cX9_restore 20 = .ok (.getfield 9, 3) := by decide +kernel
theorem dX9_restore_23 : decode cX9_restore 23 = .ok (.invokestatic 73, 3) := by decide +kernel
theorem dX9_restore_26 : decode cX9_restore 26 = .ok (.aload_n 0, 1) := by decide +kernel
theorem dX9_restore_27 : decode cX9_restore 27 = .ok (.invokevirtual 145, 3) := by decide +kernel
theorem dX9_restore_30 : decode cX9_restore 30 = .ok (.aload_n 0, 1) := by decide +kernel
theorem dX9_restore_31 : decode cX9_restore 31 = .ok (.getfield 9, 3) := by decide +kernel
theorem dX9_restore_34 : decode cX9_restore 34 = .ok (.iconst 0, 1) := by decide +kernel
theorem dX9_restore_35 : decode cX9_restore 35 = .ok (.iaload, 1) := by decide +kernel
theorem dX9_restore_36 : decode cX9_restore 36 = .ok (.ireturn, 1) := by decide +kernel
theorem dX9_tell_0 : decode cX9_tell 0 = .ok (.aload_n 0, 1) := by decide +kernel
theorem dX9_tell_1 : decode cX9_tell 1 = .ok (.getfield 9, 3) := by decide +kernel
theorem dX9_tell_4 : decode cX9_tell 4 = .ok (.bipush 8, 2) := by decide +kernel
theorem dX9_tell_6 : decode cX9_tell 6 = .ok (.iaload, 1) := by decide +kernel
theorem dX9_tell_7 : decode cX9_tell 7 = .ok (.bipush 20, 2) := by decide +kernel
theorem dX9_tell_9 : decode cX9_tell 9 = .ok (.if_icmp .ne 10, 3) := by decide +kernel
theorem dX9_tell_12 : decode cX9_tell 12 = .ok (.aload_n 0, 1) := by decide +kernel
theorem dX9_tell_13 : decode cX9_tell 13 = .ok (.ldc 85, 2) := by decide +kernel
theorem dX9_tell_15 : decode cX9_tell 15 = .ok (.invokevirtual 82, 3) := by decide +kernel
theorem dX9_tell_18 : decode cX9_tell 18 = .ok (.ireturn, 1) := by decide +kernel
theorem dX9_tell_19 : decode cX9_tell 19 = .ok (.aload_n 0, 1) := by decide +kernel
theorem dX9_tell_20 : decode cX9_tell 20 = .ok (.getfield 9, 3) := by decide +kernel
theorem dX9_tell_23 : decode cX9_tell 23 = .ok (.bipush 118, 2) := by decide +kernel
theorem dX9_tell_25 : decode cX9_tell 25 = .ok (.aload_n 0, 1) := by decide +kernel
theorem dX9_tell_26 : decode cX9_tell 26 = .ok (.getfield 9, 3) := by decide +kernel
theorem dX9_tell_29 : decode cX9_tell 29 = .ok (.bipush 8, 2) := by decide +kernel
theorem dX9_tell_31 : decode cX9_tell 31 = .ok (.iaload, 1) := by decide +kernel
theorem dX9_tell_32 : decode cX9_tell 32 = .ok (.iadd, 1) := by decide +kernel
theorem dX9_tell_33 : decode cX9_tell 33 = .ok (.iload_n 1, 1) := by decide +kernel
theorem dX9_tell_34 : decode cX9_tell 34 = .ok (.iastore, 1) := by decide +kernel
theorem dX9_tell_35 : decode cX9_tell 35 = .ok (.aload_n 0, 1) := by decide +kernel
theorem dX9_tell_36 : decode cX9_tell 36 = .ok (.getfield 9, 3) := by decide +kernel
theorem dX9_tell_39 : decode cX9_tell 39 = .ok (.bipush 8, 2) := by decide +kernel
theorem dX9_tell_41 : decode cX9_tell 41 = .ok (.dup2, 1) := by decide +kernel
theorem dX9_tell_42 : decode cX9_tell 42 = .ok (.iaload, 1) := by decide +kernel
theorem dX9_tell_43 : decode cX9_tell 43 = .ok (.iconst 1, 1) := by decide +kernel
theorem dX9_tell_44 : decode cX9_tell 44 = .ok (.iadd, 1) := by decide +kernel
theorem dX9_tell_45 : decode cX9_tell 45 = .ok (.iastore, 1) := by decide +kernel
theorem dX9_tell_46 : decode cX9_tell 46 = .ok (.aload_n 0, 1) := by decide +kernel
theorem dX9_tell_47 : decode cX9_tell 47 = .ok (.getfield 9, 3) := by decide +kernel
theorem dX9_tell_50 : decode cX9_tell 50 = .ok (.bipush 8, 2) := by decide +kernel
theorem dX9_tell_52 : decode cX9_tell 52 = .ok (.iaload, 1) := by decide +kernel
theorem dX9_tell_53 : decode cX9_tell 53 = .ok (.ireturn, 1) := by decide +kernel
theorem dX9_check_0 : decode cX9_check 0 = .ok (.aload_n 0, 1) := by decide +kernel
theorem dX9_check_1 : decode cX9_check 1 = .ok (.getfield 9, 3) := by decide +kernel
theorem dX9_check_4 : decode cX9_check 4 = .ok (.bipush 8, 2) := by decide +kernel
theorem dX9_check_6 : decode cX9_check 6 = .ok (.iaload, 1) := by decide +kernel
theorem dX9_check_7 : decode cX9_check 7 = .ok (.istore_n 1, 1) := by decide +kernel
theorem dX9_check_8 : decode cX9_check 8 = .ok (.aload_n 0, 1) := by decide +kernel
theorem dX9_check_9 : decode cX9_check 9 = .ok (.getfield 9, 3) := by decide +kernel
theorem dX9_check_12 : decode cX9_check 12 = .ok (.bipush 8, 2) := by decide +kernel
theorem dX9_check_14 : decode cX9_check 14 = .ok (.iconst 0, 1) := by decide +kernel
theorem dX9_check_15 : decode cX9_check 15 = .ok (.iastore, 1) := by decide +kernel
theorem dX9_check_16 : decode cX9_check 16 = .ok (.aload_n 0, 1) := by decide +kernel
theorem dX9_check_17 : decode cX9_check 17 = .ok (.getfield 9, 3) := by decide +kernel
theorem dX9_check_20 : decode cX9_check 20 = .ok (.aload_n 0, 1) := by decide +kernel
theorem dX9_check_21 : decode cX9_check 21 = .ok (.getfield 16, 3) := by decide +kernel
theorem dX9_check_24 : decode cX9_check 24 = .ok (.invokestatic 73, 3) := by decide +kernel
theorem dX9_check_27 : decode cX9_check 27 = .ok (.iconst 0, 1) := by decide +kernel
theorem dX9_check_28 : decode cX9_check 28 = .ok (.istore_n 2, 1) := by decide +kernel
theorem dX9_check_29 : decode cX9_check 29 = .ok (.iconst 0, 1) := by decide +kernel
theorem dX9_check_30 : decode cX9_check 30 = .ok (.istore_n 3, 1) := by decide +kernel
theorem dX9_check_31 : decode cX9_check 31 = .ok (.iload_n 3, 1) := by decide +kernel
theorem dX9_check_32 : decode cX9_check 32 = .ok (.iload_n 1, 1) := by decide +kernel
theorem dX9_check_33 : decode cX9_check 33 = .ok (.if_icmp .ge 41, 3) := by decide +kernel
theorem dX9_check_36 : decode cX9_check 36 = .ok (.iload_n 2, 1) := by decide +kernel
theorem dX9_check_37 : decode cX9_check 37 = .ok (.ifCond .ne 37, 3) := by decide +kernel
theorem dX9_check_40 : decode cX9_check 40 = .ok (.aload_n 0, 1) := by decide +kernel
theorem dX9_check_41 : decode cX9_check 41 = .ok (.invokevirtual 231, 3) := by decide +kernel
theorem dX9_check_44 : decode cX9_check 44 = .ok (.aload_n 0, 1) := by decide +kernel
theorem dX9_check_45 : decode cX9_check 45 = .ok (.getfield 9, 3) := by decide +kernel
theorem dX9_check_48 : decode cX9_check 48 = .ok (.bipush 118, 2) := by decide +kernel
theorem dX9_check_50 : decode cX9_check 50 = .ok (.iload_n 3, 1) := by decide +kernel
theorem dX9_check_51 : decode cX9_check 51 = .ok (.iadd, 1) := by decide +kernel
theorem dX9_check_52 : decode cX9_check 52 = .ok (.iaload, 1) := by decide +kernel
theorem dX9_check_53 : decode cX9_check 53 = .ok (.aload_n 0, 1) := by decide +kernel
theorem dX9_check_54 : decode cX9_check 54 = .ok (.invokevirtual 240, 3) := by decide +kernel
theorem dX9_check_57 : decode cX9_check 57 = .ok (.if_icmp .ne 7, 3) := by decide +kernel
theorem dX9_check_60 : decode cX9_check 60 = .ok (.iconst 0, 1) := by decide +kernel
theorem dX9_check_61 : decode cX9_check 61 = .ok (.goto 6, 3) := by decide +kernel
theorem dX9_check_64 : decode cX9_check 64 = .ok (.iconst 1, 1) := by decide +kernel
theorem dX9_check_65 : decode cX9_check 65 = .ok (.iload_n 3, 1) := by decide +kernel
theorem dX9_check_66 : decode cX9_check 66 = .ok (.iadd, 1) := by decide +kernel
theorem dX9_check_67 : decode cX9_check 67 = .ok (.istore_n 2, 1) := by decide +kernel
theorem dX9_check_68 : decode cX9_check 68 = .ok (.iinc 3 1, 3) := by decide +kernel
theorem dX9_check_71 : decode cX9_check 71 = .ok (.goto (-40), 3) := by decide +kernel
theorem dX9_check_74 : decode cX9_check 74 = .ok (.aload_n 0, 1) := by decide +kernel
theorem dX9_check_75 : decode cX9_check 75 = .ok (.iload_n 2, 1) := by decide +kernel
theorem dX9_check_76 : decode cX9_check 76 = .ok (.invokevirtual 250, 3) := by decide +kernel
theorem dX9_check_79 : decode cX9_check 79 = .ok (.ireturn, 1) := by decide +kernel
theorem dX9_count_0 : decode cX9_count 0 = .ok (.iload_n 1, 1) := by decide +kernel
theorem dX9_count_1 : decode cX9_count 1 = .ok (.tableswitch 147 0 11 #[63, 70, 77, 84, 91, 98, 105, 110, 118, 126, 134, 139], 63) := by decide +kernel
theorem dX9_count_64 : decode cX9_count 64 = .ok (.aload_n 0, 1) := by decide +kernel
theorem dX9_count_65 : decode cX9_count 65 = .ok (.getfield 9, 3) := by decide +kernel
theorem dX9_count_68 : decode cX9_count 68 = .ok (.iconst 1, 1) := by decide +kernel
theorem dX9_count_69 : decode cX9_count 69 = .ok (.iaload, 1) := by decide +kernel
theorem dX9_count_70 : decode cX9_count 70 = .ok (.ireturn, 1) := by decide +kernel
theorem dX9_count_71 : decode cX9_count 71 = .ok (.aload_n 0, 1) := by decide +kernel
theorem dX9_count_72 : decode cX9_count 72 = .ok (.getfield 9, 3) := by decide +kernel
theorem dX9_count_75 : decode cX9_count 75 = .ok (.iconst 2, 1) := by decide +kernel
theorem dX9_count_76 : decode cX9_count 76 = .ok (.iaload, 1) := by decide +kernel
theorem dX9_count_77 : decode cX9_count 77 = .ok (.ireturn, 1) := by decide +kernel
theorem dX9_count_78 : decode cX9_count 78 = .ok (.aload_n 0, 1) := by decide +kernel
theorem dX9_count_79 : decode cX9_count 79 = .ok (.getfield 9, 3) := by decide +kernel
theorem dX9_count_82 : decode cX9_count 82 = .ok (.iconst 0, 1) := by decide +kernel
theorem dX9_count_83 : decode cX9_count 83 = .ok (.iaload, 1) := by decide +kernel
theorem dX9_count_84 : decode cX9_count 84 = .ok (.ireturn, 1) := by decide +kernel
theorem dX9_count_85 : decode cX9_count 85 = .ok (.aload_n 0, 1) := by decide +kernel
theorem dX9_count_86 : decode cX9_count 86 = .ok (.getfield 9, 3) := by decide +kernel
theorem dX9_count_89 : decode cX9_count 89 = .ok (.iconst 3, 1) := by decide +kernel
theorem dX9_count_90 : decode cX9_count 90 = .ok (.iaload, 1) := by decide +kernel
theorem dX9_count_91 : decode cX9_count 91 = .ok (.ireturn, 1) := by decide +kernel
theorem dX9_count_92 : decode cX9_count 92 = .ok (.aload_n 0, 1) := by decide +kernel
theorem dX9_count_93 : decode cX9_count 93 = .ok (.getfield 9, 3) := by decide +kernel
theorem dX9_count_96 : decode cX9_count 96 = .ok (.iconst 4, 1) := by decide +kernel
theorem dX9_count_97 : decode cX9_count 97 = .ok (.iaload, 1) := by decide +kernel
theorem dX9_count_98 : decode cX9_count 98 = .ok (.ireturn, 1) := by decide +kernel
theorem dX9_count_99 : decode cX9_count 99 = .ok (.aload_n 0, 1) := by decide +kernel
theorem dX9_count_100 : decode cX9_count 100 = .ok (.getfield 9, 3) := by decide +kernel
theorem dX9_count_103 : decode cX9_count 103 = .ok (.iconst 5, 1) := by decide +kernel
theorem dX9_count_104 : decode cX9_count 104 = .ok (.iaload, 1) := by decide +kernel
theorem dX9_count_105 : decode cX9_count 105 = .ok (.ireturn, 1) := by decide +kernel
theorem dX9_count_106 : decode cX9_count 106 = .ok (.aload_n 0, 1) := by decide +kernel
theorem dX9_count_107 : decode cX9_count 107 = .ok (.invokevirtual 240, 3) := by decide +kernel
theorem dX9_count_110 : decode cX9_count 110 = .ok (.ireturn, 1) := by decide +kernel
theorem dX9_count_111 : decode cX9_count 111 = .ok (.aload_n 0, 1) := by decide +kernel
theorem dX9_count_112 : decode cX9_count 112 = .ok (.invokevirtual 253, 3) := by decide +kernel
theorem dX9_count_115 : decode cX9_count 115 = .ok (.invokestatic 234, 3) := by decide +kernel
theorem dX9_count_118 : decode cX9_count 118 = .ok (.ireturn, 1) := by decide +kernel
theorem dX9_count_119 : decode cX9_count 119 = .ok (.aload_n 0, 1) := by decide +kernel
theorem dX9_count_120 : decode cX9_count 120 = .ok (.getfield 9, 3) := by decide +kernel
theorem dX9_count_123 : decode cX9_count 123 = .ok (.bipush 7, 2) := by decide +kernel
theorem dX9_count_125 : decode cX9_count 125 = .ok (.iaload, 1) := by decide +kernel
theorem dX9_count_126 : decode cX9_count 126 = .ok (.ireturn, 1) := by decide +kernel
theorem dX9_count_127 : decode cX9_count 127 = .ok (.aload_n 0, 1) := by decide +kernel
theorem dX9_count_128 : decode cX9_count 128 = .ok (.getfield 9, 3) := by decide +kernel
theorem dX9_count_131 : decode cX9_count 131 = .ok (.bipush 8, 2) := by decide +kernel
theorem dX9_count_133 : decode cX9_count 133 = .ok (.iaload, 1) := by decide +kernel
theorem dX9_count_134 : decode cX9_count 134 = .ok (.ireturn, 1) := by decide +kernel
theorem dX9_count_135 : decode cX9_count 135 = .ok (.aload_n 0, 1) := by decide +kernel
theorem dX9_count_136 : decode cX9_count 136 = .ok (.getfield 269, 3) := by decide +kernel
theorem dX9_count_139 : decode cX9_count 139 = .ok (.ireturn, 1) := by decide +kernel
theorem dX9_count_140 : decode cX9_count 140 = .ok (.aload_n 0, 1) := by decide +kernel
theorem dX9_count_141 : decode cX9_count 141 = .ok (.getfield 9, 3) := by decide +kernel
theorem dX9_count_144 : decode cX9_count 144 = .ok (.bipush 6, 2) := by decide +kernel
theorem dX9_count_146 : decode cX9_count 146 = .ok (.iaload, 1) := by decide +kernel
theorem dX9_count_147 : decode cX9_count 147 = .ok (.ireturn, 1) := by decide +kernel
theorem dX9_count_148 : decode cX9_count 148 = .ok (.aload_n 0, 1) := by decide +kernel
theorem dX9_count_149 : decode cX9_count 149 = .ok (.ldc 81, 2) := by decide +kernel
theorem dX9_count_151 : decode cX9_count 151 = .ok (.invokevirtual 82, 3) := by decide +kernel
theorem dX9_count_154 : decode cX9_count 154 = .ok (.ireturn, 1) := by decide +kernel
theorem dX9_told_0 : decode cX9_told 0 = .ok (.iload_n 1, 1) := by decide +kernel
theorem dX9_told_1 : decode cX9_told 1 = .ok (.iconst 1, 1) := by decide +kernel
theorem dX9_told_2 : decode cX9_told 2 = .ok (.iconst 5, 1) := by decide +kernel
theorem dX9_told_3 : decode cX9_told 3 = .ok (.invokestatic 77, 3) := by decide +kernel
theorem dX9_told_6 : decode cX9_told 6 = .ok (.ifCond .eq 12, 3) := by decide +kernel
theorem dX9_told_9 : decode cX9_told 9 = .ok (.aload_n 0, 1) := by decide +kernel
theorem dX9_told_10 : decode cX9_told 10 = .ok (.getfield 19, 3) := by decide +kernel
theorem dX9_told_13 : decode cX9_told 13 = .ok (.iload_n 1, 1) := by decide +kernel
theorem dX9_told_14 : decode cX9_told 14 = .ok (.iaload, 1) := by decide +kernel
theorem dX9_told_15 : decode cX9_told 15 = .ok (.goto 9, 3) := by decide +kernel
theorem dX9_told_18 : decode cX9_told 18 = .ok (.aload_n 0, 1) := by decide +kernel
theorem dX9_told_19 : decode cX9_told 19 = .ok (.ldc 81, 2) := by decide +kernel
theorem dX9_told_21 : decode cX9_told 21 = .ok (.invokevirtual 82, 3) := by decide +kernel
theorem dX9_told_24 : decode cX9_told 24 = .ok (.ireturn, 1) := by decide +kernel
end
section
theorem dL_law_0 : decode cL_law 0 = .ok (.new 7, 3) := by decide +kernel
theorem dL_law_3 : decode cL_law 3 = .ok (.dup, 1) := by decide +kernel
theorem dL_law_4 : decode cL_law 4 = .ok (.invokespecial 9, 3) := by decide +kernel
theorem dL_law_7 : decode cL_law 7 = .ok (.astore_n 1, 1) := by decide +kernel
theorem dL_law_8 : decode cL_law 8 = .ok (.new 10, 3) := by decide +kernel
theorem dL_law_11 : decode cL_law 11 = .ok (.dup, 1) := by decide +kernel
theorem dL_law_12 : decode cL_law 12 = .ok (.invokespecial 12, 3) := by decide +kernel
theorem dL_law_15 : decode cL_law 15 = .ok (.astore_n 2, 1) := by decide +kernel
theorem dL_law_16 : decode cL_law 16 = .ok (.iconst 0, 1) := by decide +kernel
theorem dL_law_17 : decode cL_law 17 = .ok (.istore_n 3, 1) := by decide +kernel
theorem dL_law_18 : decode cL_law 18 = .ok (.iload_n 3, 1) := by decide +kernel
theorem dL_law_19 : decode cL_law 19 = .ok (.aload_n 0, 1) := by decide +kernel
theorem dL_law_20 : decode cL_law 20 = .ok (.arraylength, 1) := by decide +kernel
theorem dL_law_21 : decode cL_law 21 = .ok (.bipush 6, 2) := by decide +kernel
theorem dL_law_23 : decode cL_law 23 = .ok (.isub, 1) := by decide +kernel
theorem dL_law_24 : decode cL_law 24 = .ok (.if_icmp .gt 1450, 3) := by decide +kernel
theorem dL_law_27 : decode cL_law 27 = .ok (.aload_n 0, 1) := by decide +kernel
theorem dL_law_28 : decode cL_law 28 = .ok (.iload_n 3, 1) := by decide +kernel
theorem dL_law_29 : decode cL_law 29 = .ok (.iaload, 1) := by decide +kernel
theorem dL_law_30 : decode cL_law 30 = .ok (.bipush 63, 2) := by decide +kernel
theorem dL_law_32 : decode cL_law 32 = .ok (.iand, 1) := by decide +kernel
theorem dL_law_33 : decode cL_law 33 = .ok (.tableswitch 1435 0 39 #[175, 198, 241, 274, 307, 350, 383, 426, 459, 492, 555, 578, 631, 654, 677, 710, 753, 776, 809, 832, 865, 888, 911, 944, 967, 1000, 1043, 1066, 1109, 1132, 1175, 1218, 1281, 1304, 1327, 1340, 1353, 1376, 1389, 1412], 175) := by decide +kernel
theorem dL_law_208 : decode cL_law 208 = .ok (.aload_n 1, 1) := by decide +kernel
theorem dL_law_209 : decode cL_law 209 = .ok (.aload_n 0, 1) := by decide +kernel
theorem dL_law_210 : decode cL_law 210 = .ok (.iload_n 3, 1) := by decide +kernel
theorem dL_law_211 : decode cL_law 211 = .ok (.iconst 1, 1) := by decide +kernel
theorem dL_law_212 : decode cL_law 212 = .ok (.iadd, 1) := by decide +kernel
theorem dL_law_213 : decode cL_law 213 = .ok (.iaload, 1) := by decide +kernel
theorem dL_law_214 : decode cL_law 214 = .ok (.invokevirtual 13, 3) := by decide +kernel
theorem dL_law_217 : decode cL_law 217 = .ok (.aload_n 2, 1) := by decide +kernel
theorem dL_law_218 : decode cL_law 218 = .ok (.aload_n 0, 1) := by decide +kernel
theorem dL_law_219 : decode cL_law 219 = .ok (.iload_n 3, 1) := by decide +kernel
theorem dL_law_220 : decode cL_law 220 = .ok (.iconst 1, 1) := by decide +kernel
theorem dL_law_221 : decode cL_law 221 = .ok (.iadd, 1) := by decide +kernel
theorem dL_law_222 : decode cL_law 222 = .ok (.iaload, 1) := by decide +kernel
theorem dL_law_223 : decode cL_law 223 = .ok (.invokevirtual 17, 3) := by decide +kernel
theorem dL_law_226 : decode cL_law 226 = .ok (.if_icmp .eq 1242, 3) := by decide +kernel
theorem dL_law_229 : decode cL_law 229 = .ok (.iconst 0, 1) := by decide +kernel
theorem dL_law_230 : decode cL_law 230 = .ok (.ireturn, 1) := by decide +kernel
theorem dL_law_231 : decode cL_law 231 = .ok (.aload_n 1, 1) := by decide +kernel
theorem dL_law_232 : decode cL_law 232 = .ok (.aload_n 0, 1) := by decide +kernel
theorem dL_law_233 : decode cL_law 233 = .ok (.iload_n 3, 1) := by decide +kernel
theorem dL_law_234 : decode cL_law 234 = .ok (.iconst 1, 1) := by decide +kernel
theorem dL_law_235 : decode cL_law 235 = .ok (.iadd, 1) := by decide +kernel
theorem dL_law_236 : decode cL_law 236 = .ok (.iaload, 1) := by decide +kernel
theorem dL_law_237 : decode cL_law 237 = .ok (.aload_n 0, 1) := by decide +kernel
theorem dL_law_238 : decode cL_law 238 = .ok (.iload_n 3, 1) := by decide +kernel
theorem dL_law_239 : decode cL_law 239 = .ok (.iconst 2, 1) := by decide +kernel
theorem dL_law_240 : decode cL_law 240 = .ok (.iadd, 1) := by decide +kernel
theorem dL_law_241 : decode cL_law 241 = .ok (.iaload, 1) := by decide +kernel
theorem dL_law_242 : decode cL_law 242 = .ok (.aload_n 0, 1) := by decide +kernel
theorem dL_law_243 : decode cL_law 243 = .ok (.iload_n 3, 1) := by decide +kernel
theorem dL_law_244 : decode cL_law 244 = .ok (.iconst 3, 1) := by decide +kernel
theorem dL_law_245 : decode cL_law 245 = .ok (.iadd, 1) := by decide +kernel
theorem dL_law_246 : decode cL_law 246 = .ok (.iaload, 1) := by decide +kernel
theorem dL_law_247 : decode cL_law 247 = .ok (.invokevirtual 18, 3) := by decide +kernel
theorem dL_law_250 : decode cL_law 250 = .ok (.aload_n 2, 1) := by decide +kernel
theorem dL_law_251 : decode cL_law 251 = .ok (.aload_n 0, 1) := by decide +kernel
theorem dL_law_252 : decode cL_law 252 = .ok (.iload_n 3, 1) := by decide +kernel
theorem dL_law_253 : decode cL_law 253 = .ok (.iconst 1, 1) := by decide +kernel
theorem dL_law_254 : decode cL_law 254 = .ok (.iadd, 1) := by decide +kernel
theorem dL_law_255 : decode cL_law 255 = .ok (.iaload, 1) := by decide +kernel
theorem dL_law_256 : decode cL_law 256 = .ok (.aload_n 0, 1) := by decide +kernel
theorem dL_law_257 : decode cL_law 257 = .ok (.iload_n 3, 1) := by decide +kernel
theorem dL_law_258 : decode cL_law 258 = .ok (.iconst 2, 1) := by decide +kernel
theorem dL_law_259 : decode cL_law 259 = .ok (.iadd, 1) := by decide +kernel
theorem dL_law_260 : decode cL_law 260 = .ok (.iaload, 1) := by decide +kernel
theorem dL_law_261 : decode cL_law 261 = .ok (.aload_n 0, 1) := by decide +kernel
theorem dL_law_262 : decode cL_law 262 = .ok (.iload_n 3, 1) := by decide +kernel
theorem dL_law_263 : decode cL_law 263 = .ok (.iconst 3, 1) := by decide +kernel
theorem dL_law_264 : decode cL_law 264 = .ok (.iadd, 1) := by decide +kernel
theorem dL_law_265 : decode cL_law 265 = .ok (.iaload, 1) := by decide +kernel
theorem dL_law_266 : decode cL_law 266 = .ok (.invokevirtual 22, 3) := by decide +kernel
theorem dL_law_269 : decode cL_law 269 = .ok (.if_icmp .eq 1199, 3) := by decide +kernel
theorem dL_law_272 : decode cL_law 272 = .ok (.iconst 0, 1) := by decide +kernel
theorem dL_law_273 : decode cL_law 273 = .ok (.ireturn, 1) := by decide +kernel
theorem dL_law_274 : decode cL_law 274 = .ok (.aload_n 1, 1) := by decide +kernel
theorem dL_law_275 : decode cL_law 275 = .ok (.aload_n 0, 1) := by decide +kernel
theorem dL_law_276 : decode cL_law 276 = .ok (.iload_n 3, 1) := by decide +kernel
theorem dL_law_277 : decode cL_law 277 = .ok (.iconst 1, 1) := by decide +kernel
theorem dL_law_278 : decode cL_law 278 = .ok (.iadd, 1) := by decide +kernel
theorem dL_law_279 : decode cL_law 279 = .ok (.iaload, 1) := by decide +kernel
theorem dL_law_280 : decode cL_law 280 = .ok (.aload_n 0, 1) := by decide +kernel
theorem dL_law_281 : decode cL_law 281 = .ok (.iload_n 3, 1) := by decide +kernel
theorem dL_law_282 : decode cL_law 282 = .ok (.iconst 2, 1) := by decide +kernel
theorem dL_law_283 : decode cL_law 283 = .ok (.iadd, 1) := by decide +kernel
theorem dL_law_284 : decode cL_law 284 = .ok (.iaload, 1) := by decide +kernel
theorem dL_law_285 : decode cL_law 285 = .ok (.invokevirtual 23, 3) := by decide +kernel
theorem dL_law_288 : decode cL_law 288 = .ok (.aload_n 2, 1) := by decide +kernel
theorem dL_law_289 : decode cL_law 289 = .ok (.aload_n 0, 1) := by decide +kernel
theorem dL_law_290 : decode cL_law 290 = .ok (.iload_n 3, 1) := by decide +kernel
theorem dL_law_291 : decode cL_law 291 = .ok (.iconst 1, 1) := by decide +kernel
theorem dL_law_292 : decode cL_law 292 = .ok (.iadd, 1) := by decide +kernel
theorem dL_law_293 : decode cL_law 293 = .ok (.iaload, 1) := by decide +kernel
theorem dL_law_294 : decode cL_law 294 = .ok (.aload_n 0, 1) := by decide +kernel
theorem dL_law_295 : decode cL_law 295 = .ok (.iload_n 3, 1) := by decide +kernel
theorem dL_law_296 : decode cL_law 296 = .ok (.iconst 2, 1) := by decide +kernel
theorem dL_law_297 : decode cL_law 297 = .ok (.iadd, 1) := by decide +kernel
theorem dL_law_298 : decode cL_law 298 = .ok (.iaload, 1) := by decide +kernel
theorem dL_law_299 : decode cL_law 299 = .ok (.invokevirtual 27, 3) := by decide +kernel
theorem dL_law_302 : decode cL_law 302 = .ok (.if_icmp .eq 1166, 3) := by decide +kernel
theorem dL_law_305 : decode cL_law 305 = .ok (.iconst 0, 1) := by decide +kernel
theorem dL_law_306 : decode cL_law 306 = .ok (.ireturn, 1) := by decide +kernel
theorem dL_law_307 : decode cL_law 307 = .ok (.aload_n 1, 1) := by decide +kernel
theorem dL_law_308 : decode cL_law 308 = .ok (.aload_n 0, 1) := by decide +kernel
theorem dL_law_309 : decode cL_law 309 = .ok (.iload_n 3, 1) := by decide +kernel
theorem dL_law_310 : decode cL_law 310 = .ok (.iconst 1, 1) := by decide +kernel
theorem dL_law_311 : decode cL_law 311 = .ok (.iadd, 1) := by decide +kernel
theorem dL_law_312 : decode cL_law 312 = .ok (.iaload, 1) := by decide +kernel
theorem dL_law_313 : decode cL_law 313 = .ok (.aload_n 0, 1) := by decide +kernel
theorem dL_law_314 : decode cL_law 314 = .ok (.iload_n 3, 1) := by decide +kernel
theorem dL_law_315 : decode cL_law 315 = .ok (.iconst 2, 1) := by decide +kernel
theorem dL_law_316 : decode cL_law 316 = .ok (.iadd, 1) := by decide +kernel
theorem dL_law_317 : decode cL_law 317 = .ok (.iaload, 1) := by decide +kernel
theorem dL_law_318 : decode cL_law 318 = .ok (.invokevirtual 28, 3) := by decide +kernel
theorem dL_law_321 : decode cL_law 321 = .ok (.aload_n 2, 1) := by decide +kernel
theorem dL_law_322 : decode cL_law 322 = .ok (.aload_n 0, 1) := by decide +kernel
theorem dL_law_323 : decode cL_law 323 = .ok (.iload_n 3, 1) := by decide +kernel
theorem dL_law_324 : decode cL_law 324 = .ok (.iconst 1, 1) := by decide +kernel
theorem dL_law_325 : decode cL_law 325 = .ok (.iadd, 1) := by decide +kernel
theorem dL_law_326 : decode cL_law 326 = .ok (.iaload, 1) := by decide +kernel
theorem dL_law_327 : decode cL_law 327 = .ok (.aload_n 0, 1) := by decide +kernel
theorem dL_law_328 : decode cL_law 328 = .ok (.iload_n 3, 1) := by decide +kernel
theorem dL_law_329 : decode cL_law 329 = .ok (.iconst 2, 1) := by decide +kernel
theorem dL_law_330 : decode cL_law 330 = .ok (.iadd, 1) := by decide +kernel
theorem dL_law_331 : decode cL_law 331 = .ok (.iaload, 1) := by decide +kernel
theorem dL_law_332 : decode cL_law 332 = .ok (.invokevirtual 31, 3) := by decide +kernel
theorem dL_law_335 : decode cL_law 335 = .ok (.if_icmp .eq 1133, 3) := by decide +kernel
theorem dL_law_338 : decode cL_law 338 = .ok (.iconst 0, 1) := by decide +kernel
theorem dL_law_339 : decode cL_law 339 = .ok (.ireturn, 1) := by decide +kernel
theorem dL_law_340 : decode cL_law 340 = .ok (.aload_n 1, 1) := by decide +kernel
theorem dL_law_341 : decode cL_law 341 = .ok (.aload_n 0, 1) := by decide +kernel
theorem dL_law_342 : decode cL_law 342 = .ok (.iload_n 3, 1) := by decide +kernel
theorem dL_law_343 : decode cL_law 343 = .ok (.iconst 1, 1) := by decide +kernel
theorem dL_law_344 : decode cL_law 344 = .ok (.iadd, 1) := by decide +kernel
theorem dL_law_345 : decode cL_law 345 = .ok (.iaload, 1) := by decide +kernel
theorem dL_law_346 : decode cL_law 346 = .ok (.aload_n 0, 1) := by decide +kernel
theorem dL_law_347 : decode cL_law 347 = .ok (.iload_n 3, 1) := by decide +kernel
theorem dL_law_348 : decode cL_law 348 = .ok (.iconst 2, 1) := by decide +kernel
theorem dL_law_349 : decode cL_law 349 = .ok (.iadd, 1) := by decide +kernel
theorem dL_law_350 : decode cL_law 350 = .ok (.iaload, 1) := by decide +kernel
theorem dL_law_351 : decode cL_law 351 = .ok (.aload_n 0, 1) := by decide +kernel
theorem dL_law_352 : decode cL_law 352 = .ok (.iload_n 3, 1) := by decide +kernel
theorem dL_law_353 : decode cL_law 353 = .ok (.iconst 3, 1) := by decide +kernel
theorem dL_law_354 : decode cL_law 354 = .ok (.iadd, 1) := by decide +kernel
theorem dL_law_355 : decode cL_law 355 = .ok (.iaload, 1) := by decide +kernel
theorem dL_law_356 : decode cL_law 356 = .ok (.invokevirtual 32, 3) := by decide +kernel
theorem dL_law_359 : decode cL_law 359 = .ok (.aload_n 2, 1) := by decide +kernel
theorem dL_law_360 : decode cL_law 360 = .ok (.aload_n 0, 1) := by decide +kernel
theorem dL_law_361 : decode cL_law 361 = .ok (.iload_n 3, 1) := by decide +kernel
theorem dL_law_362 : decode cL_law 362 = .ok (.iconst 1, 1) := by decide +kernel
theorem dL_law_363 : decode cL_law 363 = .ok (.iadd, 1) := by decide +kernel
theorem dL_law_364 : decode cL_law 364 = .ok (.iaload, 1) := by decide +kernel
theorem dL_law_365 : decode cL_law 365 = .ok (.aload_n 0, 1) := by decide +kernel
theorem dL_law_366 : decode cL_law 366 = .ok (.iload_n 3, 1) := by decide +kernel
theorem dL_law_367 : decode cL_law 367 = .ok (.iconst 2, 1) := by decide +kernel
theorem dL_law_368 : decode cL_law 368 = .ok (.iadd, 1) := by decide +kernel
theorem dL_law_369 : decode cL_law 369 = .ok (.iaload, 1) := by decide +kernel
theorem dL_law_370 : decode cL_law 370 = .ok (.aload_n 0, 1) := by decide +kernel
theorem dL_law_371 : decode cL_law 371 = .ok (.iload_n 3, 1) := by decide +kernel
theorem dL_law_372 : decode cL_law 372 = .ok (.iconst 3, 1) := by decide +kernel
theorem dL_law_373 : decode cL_law 373 = .ok (.iadd, 1) := by decide +kernel
theorem dL_law_374 : decode cL_law 374 = .ok (.iaload, 1) := by decide +kernel
theorem dL_law_375 : decode cL_law 375 = .ok (.invokevirtual 35, 3) := by decide +kernel
theorem dL_law_378 : decode cL_law 378 = .ok (.if_icmp .eq 1090, 3) := by decide +kernel
theorem dL_law_381 : decode cL_law 381 = .ok (.iconst 0, 1) := by decide +kernel
theorem dL_law_382 : decode cL_law 382 = .ok (.ireturn, 1) := by decide +kernel
theorem dL_law_383 : decode cL_law 383 = .ok (.aload_n 1, 1) := by decide +kernel
theorem dL_law_384 : decode cL_law 384 = .ok (.aload_n 0, 1) := by decide +kernel
theorem dL_law_385 : decode cL_law 385 = .ok (.iload_n 3, 1) := by decide +kernel
theorem dL_law_386 : decode cL_law 386 = .ok (.iconst 1, 1) := by decide +kernel
theorem dL_law_387 : decode cL_law 387 = .ok (.iadd, 1) := by decide +kernel
theorem dL_law_388 : decode cL_law 388 = .ok (.iaload, 1) := by decide +kernel
theorem dL_law_389 : decode cL_law 389 = .ok (.aload_n 0, 1) := by decide +kernel
theorem dL_law_390 : decode cL_law 390 = .ok (.iload_n 3, 1) := by decide +kernel
theorem dL_law_391 : decode cL_law 391 = .ok (.iconst 2, 1) := by decide +kernel
theorem dL_law_392 : decode cL_law 392 = .ok (.iadd, 1) := by decide +kernel
theorem dL_law_393 : decode cL_law 393 = .ok (.iaload, 1) := by decide +kernel
theorem dL_law_394 : decode cL_law 394 = .ok (.invokevirtual 36, 3) := by decide +kernel
theorem dL_law_397 : decode cL_law 397 = .ok (.aload_n 2, 1) := by decide +kernel
theorem dL_law_398 : decode cL_law 398 = .ok (.aload_n 0, 1) := by decide +kernel
theorem dL_law_399 : decode cL_law 399 = .ok (.iload_n 3, 1) := by decide +kernel
theorem dL_law_400 : decode cL_law 400 = .ok (.iconst 1, 1) := by decide +kernel
theorem dL_law_401 : decode cL_law 401 = .ok (.iadd, 1) := by decide +kernel
theorem dL_law_402 : decode cL_law 402 = .ok (.iaload, 1) := by decide +kernel
theorem dL_law_403 : decode cL_law 403 = .ok (.aload_n 0, 1) := by decide +kernel
theorem dL_law_404 : decode cL_law 404 = .ok (.iload_n 3, 1) := by decide +kernel
theorem dL_law_405 : decode cL_law 405 = .ok (.iconst 2, 1) := by decide +kernel
theorem dL_law_406 : decode cL_law 406 = .ok (.iadd, 1) := by decide +kernel
theorem dL_law_407 : decode cL_law 407 = .ok (.iaload, 1) := by decide +kernel
theorem dL_law_408 : decode cL_law 408 = .ok (.invokevirtual 39, 3) := by decide +kernel
theorem dL_law_411 : decode cL_law 411 = .ok (.if_icmp .eq 1057, 3) := by decide +kernel
theorem dL_law_414 : decode cL_law 414 = .ok (.iconst 0, 1) := by decide +kernel
theorem dL_law_415 : decode cL_law 415 = .ok (.ireturn, 1) := by decide +kernel
theorem dL_law_416 : decode cL_law 416 = .ok (.aload_n 1, 1) := by decide +kernel
theorem dL_law_417 : decode cL_law 417 = .ok (.aload_n 0, 1) := by decide +kernel
theorem dL_law_418 : decode cL_law 418 = .ok (.iload_n 3, 1) := by decide +kernel
theorem dL_law_419 : decode cL_law 419 = .ok (.iconst 1, 1) := by decide +kernel
theorem dL_law_420 : decode cL_law 420 = .ok (.iadd, 1) := by decide +kernel
theorem dL_law_421 : decode cL_law 421 = .ok (.iaload, 1) := by decide +kernel
theorem dL_law_422 : decode cL_law 422 = .ok (.aload_n 0, 1) := by decide +kernel
theorem dL_law_423 : decode cL_law 423 = .ok (.iload_n 3, 1) := by decide +kernel
theorem dL_law_424 : decode cL_law 424 = .ok (.iconst 2, 1) := by decide +kernel
theorem dL_law_425 : decode cL_law 425 = .ok (.iadd, 1) := by decide +kernel
theorem dL_law_426 : decode cL_law 426 = .ok (.iaload, 1) := by decide +kernel
theorem dL_law_427 : decode cL_law 427 = .ok (.aload_n 0, 1) := by decide +kernel
theorem dL_law_428 : decode cL_law 428 = .ok (.iload_n 3, 1) := by decide +kernel
theorem dL_law_429 : decode cL_law 429 = .ok (.iconst 3, 1) := by decide +kernel
theorem dL_law_430 : decode cL_law 430 = .ok (.iadd, 1) := by decide +kernel
theorem dL_law_431 : decode cL_law 431 = .ok (.iaload, 1) := by decide +kernel
theorem dL_law_432 : decode cL_law 432 = .ok (.invokevirtual 40, 3) := by decide +kernel
theorem dL_law_435 : decode cL_law 435 = .ok (.aload_n 2, 1) := by decide +kernel
theorem dL_law_436 : decode cL_law 436 = .ok (.aload_n 0, 1) := by decide +kernel
theorem dL_law_437 : decode cL_law 437 = .ok (.iload_n 3, 1) := by decide +kernel
theorem dL_law_438 : decode cL_law 438 = .ok (.iconst 1, 1) := by decide +kernel
theorem dL_law_439 : decode cL_law 439 = .ok (.iadd, 1) := by decide +kernel
theorem dL_law_440 : decode cL_law 440 = .ok (.iaload, 1) := by decide +kernel
theorem dL_law_441 : decode cL_law 441 = .ok (.aload_n 0, 1) := by decide +kernel
theorem dL_law_442 : decode cL_law 442 = .ok (.iload_n 3, 1) := by decide +kernel
theorem dL_law_443 : decode cL_law 443 = .ok (.iconst 2, 1) := by decide +kernel
theorem dL_law_444 : decode cL_law 444 = .ok (.iadd, 1) := by decide +kernel
theorem dL_law_445 : decode cL_law 445 = .ok (.iaload, 1) := by decide +kernel
theorem dL_law_446 : decode cL_law 446 = .ok (.aload_n 0, 1) := by decide +kernel
theorem dL_law_447 : decode cL_law 447 = .ok (.iload_n 3, 1) := by decide +kernel
theorem dL_law_448 : decode cL_law 448 = .ok (.iconst 3, 1) := by decide +kernel
theorem dL_law_449 : decode cL_law 449 = .ok (.iadd, 1) := by decide +kernel
theorem dL_law_450 : decode cL_law 450 = .ok (.iaload, 1) := by decide +kernel
theorem dL_law_451 : decode cL_law 451 = .ok (.invokevirtual 43, 3) := by decide +kernel
theorem dL_law_454 : decode cL_law 454 = .ok (.if_icmp .eq 1014, 3) := by decide +kernel
theorem dL_law_457 : decode cL_law 457 = .ok (.iconst 0, 1) := by decide +kernel
theorem dL_law_458 : decode cL_law 458 = .ok (.ireturn, 1) := by decide +kernel
theorem dL_law_459 : decode cL_law 459 = .ok (.aload_n 1, 1) := by decide +kernel
theorem dL_law_460 : decode cL_law 460 = .ok (.aload_n 0, 1) := by decide +kernel
theorem dL_law_461 : decode cL_law 461 = .ok (.iload_n 3, 1) := by decide +kernel
theorem dL_law_462 : decode cL_law 462 = .ok (.iconst 1, 1) := by decide +kernel
theorem dL_law_463 : decode cL_law 463 = .ok (.iadd, 1) := by decide +kernel
theorem dL_law_464 : decode cL_law 464 = .ok (.iaload, 1) := by decide +kernel
theorem dL_law_465 : decode cL_law 465 = .ok (.aload_n 0, 1) := by decide +kernel
theorem dL_law_466 : decode cL_law 466 = .ok (.iload_n 3, 1) := by decide +kernel
theorem dL_law_467 : decode cL_law 467 = .ok (.iconst 2, 1) := by decide +kernel
theorem dL_law_468 : decode cL_law 468 = .ok (.iadd, 1) := by decide +kernel
theorem dL_law_469 : decode cL_law 469 = .ok (.iaload, 1) := by decide +kernel
theorem dL_law_470 : decode cL_law 470 = .ok (.invokevirtual 44, 3) := by decide +kernel
theorem dL_law_473 : decode cL_law 473 = .ok (.aload_n 2, 1) := by decide +kernel
theorem dL_law_474 : decode cL_law 474 = .ok (.aload_n 0, 1) := by decide +kernel
theorem dL_law_475 : decode cL_law 475 = .ok (.iload_n 3, 1) := by decide +kernel
theorem dL_law_476 : decode cL_law 476 = .ok (.iconst 1, 1) := by decide +kernel
theorem dL_law_477 : decode cL_law 477 = .ok (.iadd, 1) := by decide +kernel
theorem dL_law_478 : decode cL_law 478 = .ok (.iaload, 1) := by decide +kernel
theorem dL_law_479 : decode cL_law 479 = .ok (.aload_n 0, 1) := by decide +kernel
theorem dL_law_480 : decode cL_law 480 = .ok (.iload_n 3, 1) := by decide +kernel
theorem dL_law_481 : decode cL_law 481 = .ok (.iconst 2, 1) := by decide +kernel
theorem dL_law_482 : decode cL_law 482 = .ok (.iadd, 1) := by decide +kernel
theorem dL_law_483 : decode cL_law 483 = .ok (.iaload, 1) := by decide +kernel
theorem dL_law_484 : decode cL_law 484 = .ok (.invokevirtual 47, 3) := by decide +kernel
theorem dL_law_487 : decode cL_law 487 = .ok (.if_icmp .eq 981, 3) := by decide +kernel
theorem dL_law_490 : decode cL_law 490 = .ok (.iconst 0, 1) := by decide +kernel
theorem dL_law_491 : decode cL_law 491 = .ok (.ireturn, 1) := by decide +kernel
theorem dL_law_492 : decode cL_law 492 = .ok (.aload_n 1, 1) := by decide +kernel
theorem dL_law_493 : decode cL_law 493 = .ok (.aload_n 0, 1) := by decide +kernel
theorem dL_law_494 : decode cL_law 494 = .ok (.iload_n 3, 1) := by decide +kernel
theorem dL_law_495 : decode cL_law 495 = .ok (.iconst 1, 1) := by decide +kernel
theorem dL_law_496 : decode cL_law 496 = .ok (.iadd, 1) := by decide +kernel
theorem dL_law_497 : decode cL_law 497 = .ok (.iaload, 1) := by decide +kernel
theorem dL_law_498 : decode cL_law 498 = .ok (.aload_n 0, 1) := by decide +kernel
theorem dL_law_499 : decode cL_law 499 = .ok (.iload_n 3, 1) := by decide +kernel
theorem dL_law_500 : decode cL_law 500 = .ok (.iconst 2, 1) := by decide +kernel
theorem dL_law_501 : decode cL_law 501 = .ok (.iadd, 1) := by decide +kernel
theorem dL_law_502 : decode cL_law 502 = .ok (.iaload, 1) := by decide +kernel
theorem dL_law_503 : decode cL_law 503 = .ok (.invokevirtual 48, 3) := by decide +kernel
theorem dL_law_506 : decode cL_law 506 = .ok (.aload_n 2, 1) := by decide +kernel
theorem dL_law_507 : decode cL_law 507 = .ok (.aload_n 0, 1) := by decide +kernel
theorem dL_law_508 : decode cL_law 508 = .ok (.iload_n 3, 1) := by decide +kernel
theorem dL_law_509 : decode cL_law 509 = .ok (.iconst 1, 1) := by decide +kernel
theorem dL_law_510 : decode cL_law 510 = .ok (.iadd, 1) := by decide +kernel
theorem dL_law_511 : decode cL_law 511 = .ok (.iaload, 1) := by decide +kernel
theorem dL_law_512 : decode cL_law 512 = .ok (.aload_n 0, 1) := by decide +kernel
theorem dL_law_513 : decode cL_law 513 = .ok (.iload_n 3, 1) := by decide +kernel
theorem dL_law_514 : decode cL_law 514 = .ok (.iconst 2, 1) := by decide +kernel
theorem dL_law_515 : decode cL_law 515 = .ok (.iadd, 1) := by decide +kernel
theorem dL_law_516 : decode cL_law 516 = .ok (.iaload, 1) := by decide +kernel
theorem dL_law_517 : decode cL_law 517 = .ok (.invokevirtual 51, 3) := by decide +kernel
theorem dL_law_520 : decode cL_law 520 = .ok (.if_icmp .eq 948, 3) := by decide +kernel
theorem dL_law_523 : decode cL_law 523 = .ok (.iconst 0, 1) := by decide +kernel
theorem dL_law_524 : decode cL_law 524 = .ok (.ireturn, 1) := by decide +kernel
theorem dL_law_525 : decode cL_law 525 = .ok (.aload_n 1, 1) := by decide +kernel
theorem dL_law_526 : decode cL_law 526 = .ok (.aload_n 0, 1) := by decide +kernel
theorem dL_law_527 : decode cL_law 527 = .ok (.iload_n 3, 1) := by decide +kernel
theorem dL_law_528 : decode cL_law 528 = .ok (.iconst 1, 1) := by decide +kernel
theorem dL_law_529 : decode cL_law 529 = .ok (.iadd, 1) := by decide +kernel
theorem dL_law_530 : decode cL_law 530 = .ok (.iaload, 1) := by decide +kernel
theorem dL_law_531 : decode cL_law 531 = .ok (.i2l, 1) := by decide +kernel
theorem dL_law_532 : decode cL_law 532 = .ok (.bipush 32, 2) := by decide +kernel
theorem dL_law_534 : decode cL_law 534 = .ok (.lshl, 1) := by decide +kernel
theorem dL_law_535 : decode cL_law 535 = .ok (.aload_n 0, 1) := by decide +kernel
theorem dL_law_536 : decode cL_law 536 = .ok (.iload_n 3, 1) := by decide +kernel
theorem dL_law_537 : decode cL_law 537 = .ok (.iconst 2, 1) := by decide +kernel
theorem dL_law_538 : decode cL_law 538 = .ok (.iadd, 1) := by decide +kernel
theorem dL_law_539 : decode cL_law 539 = .ok (.iaload, 1) := by decide +kernel
theorem dL_law_540 : decode cL_law 540 = .ok (.i2l, 1) := by decide +kernel
theorem dL_law_541 : decode cL_law 541 = .ok (.ldc2_w 52, 3) := by decide +kernel
theorem dL_law_544 : decode cL_law 544 = .ok (.land, 1) := by decide +kernel
theorem dL_law_545 : decode cL_law 545 = .ok (.lor, 1) := by decide +kernel
theorem dL_law_546 : decode cL_law 546 = .ok (.aload_n 0, 1) := by decide +kernel
theorem dL_law_547 : decode cL_law 547 = .ok (.iload_n 3, 1) := by decide +kernel
theorem dL_law_548 : decode cL_law 548 = .ok (.iconst 3, 1) := by decide +kernel
theorem dL_law_549 : decode cL_law 549 = .ok (.iadd, 1) := by decide +kernel
theorem dL_law_550 : decode cL_law 550 = .ok (.iaload, 1) := by decide +kernel
theorem dL_law_551 : decode cL_law 551 = .ok (.invokevirtual 54, 3) := by decide +kernel
theorem dL_law_554 : decode cL_law 554 = .ok (.aload_n 2, 1) := by decide +kernel
theorem dL_law_555 : decode cL_law 555 = .ok (.aload_n 0, 1) := by decide +kernel
theorem dL_law_556 : decode cL_law 556 = .ok (.iload_n 3, 1) := by decide +kernel
theorem dL_law_557 : decode cL_law 557 = .ok (.iconst 1, 1) := by decide +kernel
theorem dL_law_558 : decode cL_law 558 = .ok (.iadd, 1) := by decide +kernel
theorem dL_law_559 : decode cL_law 559 = .ok (.iaload, 1) := by decide +kernel
theorem dL_law_560 : decode cL_law 560 = .ok (.i2l, 1) := by decide +kernel
theorem dL_law_561 : decode cL_law 561 = .ok (.bipush 32, 2) := by decide +kernel
theorem dL_law_563 : decode cL_law 563 = .ok (.lshl, 1) := by decide +kernel
theorem dL_law_564 : decode cL_law 564 = .ok (.aload_n 0, 1) := by decide +kernel
theorem dL_law_565 : decode cL_law 565 = .ok (.iload_n 3, 1) := by decide +kernel
theorem dL_law_566 : decode cL_law 566 = .ok (.iconst 2, 1) := by decide +kernel
theorem dL_law_567 : decode cL_law 567 = .ok (.iadd, 1) := by decide +kernel
theorem dL_law_568 : decode cL_law 568 = .ok (.iaload, 1) := by decide +kernel
theorem dL_law_569 : decode cL_law 569 = .ok (.i2l, 1) := by decide +kernel
theorem dL_law_570 : decode cL_law 570 = .ok (.ldc2_w 52, 3) := by decide +kernel
theorem dL_law_573 : decode cL_law 573 = .ok (.land, 1) := by decide +kernel
theorem dL_law_574 : decode cL_law 574 = .ok (.lor, 1) := by decide +kernel
theorem dL_law_575 : decode cL_law 575 = .ok (.aload_n 0, 1) := by decide +kernel
theorem dL_law_576 : decode cL_law 576 = .ok (.iload_n 3, 1) := by decide +kernel
theorem dL_law_577 : decode cL_law 577 = .ok (.iconst 3, 1) := by decide +kernel
theorem dL_law_578 : decode cL_law 578 = .ok (.iadd, 1) := by decide +kernel
theorem dL_law_579 : decode cL_law 579 = .ok (.iaload, 1) := by decide +kernel
theorem dL_law_580 : decode cL_law 580 = .ok (.invokevirtual 58, 3) := by decide +kernel
theorem dL_law_583 : decode cL_law 583 = .ok (.if_icmp .eq 885, 3) := by decide +kernel
theorem dL_law_586 : decode cL_law 586 = .ok (.iconst 0, 1) := by decide +kernel
theorem dL_law_587 : decode cL_law 587 = .ok (.ireturn, 1) := by decide +kernel
theorem dL_law_588 : decode cL_law 588 = .ok (.aload_n 1, 1) := by decide +kernel
theorem dL_law_589 : decode cL_law 589 = .ok (.aload_n 0, 1) := by decide +kernel
theorem dL_law_590 : decode cL_law 590 = .ok (.iload_n 3, 1) := by decide +kernel
theorem dL_law_591 : decode cL_law 591 = .ok (.iconst 1, 1) := by decide +kernel
theorem dL_law_592 : decode cL_law 592 = .ok (.iadd, 1) := by decide +kernel
theorem dL_law_593 : decode cL_law 593 = .ok (.iaload, 1) := by decide +kernel
theorem dL_law_594 : decode cL_law 594 = .ok (.invokevirtual 59, 3) := by decide +kernel
theorem dL_law_597 : decode cL_law 597 = .ok (.aload_n 2, 1) := by decide +kernel
theorem dL_law_598 : decode cL_law 598 = .ok (.aload_n 0, 1) := by decide +kernel
theorem dL_law_599 : decode cL_law 599 = .ok (.iload_n 3, 1) := by decide +kernel
theorem dL_law_600 : decode cL_law 600 = .ok (.iconst 1, 1) := by decide +kernel
theorem dL_law_601 : decode cL_law 601 = .ok (.iadd, 1) := by decide +kernel
theorem dL_law_602 : decode cL_law 602 = .ok (.iaload, 1) := by decide +kernel
theorem dL_law_603 : decode cL_law 603 = .ok (.invokevirtual 62, 3) := by decide +kernel
theorem dL_law_606 : decode cL_law 606 = .ok (.if_icmp .eq 862, 3) := by decide +kernel
theorem dL_law_609 : decode cL_law 609 = .ok (.iconst 0, 1) := by decide +kernel
theorem dL_law_610 : decode cL_law 610 = .ok (.ireturn, 1) := by decide +kernel
theorem dL_law_611 : decode cL_law 611 = .ok (.aload_n 1, 1) := by decide +kernel
theorem dL_law_612 : decode cL_law 612 = .ok (.aload_n 0, 1) := by decide +kernel
theorem dL_law_613 : decode cL_law 613 = .ok (.iload_n 3, 1) := by decide +kernel
theorem dL_law_614 : decode cL_law 614 = .ok (.iconst 1, 1) := by decide +kernel
theorem dL_law_615 : decode cL_law 615 = .ok (.iadd, 1) := by decide +kernel
theorem dL_law_616 : decode cL_law 616 = .ok (.iaload, 1) := by decide +kernel
theorem dL_law_617 : decode cL_law 617 = .ok (.aload_n 0, 1) := by decide +kernel
theorem dL_law_618 : decode cL_law 618 = .ok (.iload_n 3, 1) := by decide +kernel
theorem dL_law_619 : decode cL_law 619 = .ok (.iconst 2, 1) := by decide +kernel
theorem dL_law_620 : decode cL_law 620 = .ok (.iadd, 1) := by decide +kernel
theorem dL_law_621 : decode cL_law 621 = .ok (.iaload, 1) := by decide +kernel
theorem dL_law_622 : decode cL_law 622 = .ok (.aload_n 0, 1) := by decide +kernel
theorem dL_law_623 : decode cL_law 623 = .ok (.iload_n 3, 1) := by decide +kernel
theorem dL_law_624 : decode cL_law 624 = .ok (.iconst 3, 1) := by decide +kernel
theorem dL_law_625 : decode cL_law 625 = .ok (.iadd, 1) := by decide +kernel
theorem dL_law_626 : decode cL_law 626 = .ok (.iaload, 1) := by decide +kernel
theorem dL_law_627 : decode cL_law 627 = .ok (.aload_n 0, 1) := by decide +kernel
theorem dL_law_628 : decode cL_law 628 = .ok (.iload_n 3, 1) := by decide +kernel
theorem dL_law_629 : decode cL_law 629 = .ok (.iconst 4, 1) := by decide +kernel
theorem dL_law_630 : decode cL_law 630 = .ok (.iadd, 1) := by decide +kernel
theorem dL_law_631 : decode cL_law 631 = .ok (.iaload, 1) := by decide +kernel
theorem dL_law_632 : decode cL_law 632 = .ok (.invokevirtual 63, 3) := by decide +kernel
theorem dL_law_635 : decode cL_law 635 = .ok (.aload_n 2, 1) := by decide +kernel
theorem dL_law_636 : decode cL_law 636 = .ok (.aload_n 0, 1) := by decide +kernel
theorem dL_law_637 : decode cL_law 637 = .ok (.iload_n 3, 1) := by decide +kernel
theorem dL_law_638 : decode cL_law 638 = .ok (.iconst 1, 1) := by decide +kernel
theorem dL_law_639 : decode cL_law 639 = .ok (.iadd, 1) := by decide +kernel
theorem dL_law_640 : decode cL_law 640 = .ok (.iaload, 1) := by decide +kernel
theorem dL_law_641 : decode cL_law 641 = .ok (.aload_n 0, 1) := by decide +kernel
theorem dL_law_642 : decode cL_law 642 = .ok (.iload_n 3, 1) := by decide +kernel
theorem dL_law_643 : decode cL_law 643 = .ok (.iconst 2, 1) := by decide +kernel
theorem dL_law_644 : decode cL_law 644 = .ok (.iadd, 1) := by decide +kernel
theorem dL_law_645 : decode cL_law 645 = .ok (.iaload, 1) := by decide +kernel
theorem dL_law_646 : decode cL_law 646 = .ok (.aload_n 0, 1) := by decide +kernel
theorem dL_law_647 : decode cL_law 647 = .ok (.iload_n 3, 1) := by decide +kernel
theorem dL_law_648 : decode cL_law 648 = .ok (.iconst 3, 1) := by decide +kernel
theorem dL_law_649 : decode cL_law 649 = .ok (.iadd, 1) := by decide +kernel
theorem dL_law_650 : decode cL_law 650 = .ok (.iaload, 1) := by decide +kernel
theorem dL_law_651 : decode cL_law 651 = .ok (.aload_n 0, 1) := by decide +kernel
theorem dL_law_652 : decode cL_law 652 = .ok (.iload_n 3, 1) := by decide +kernel
theorem dL_law_653 : decode cL_law 653 = .ok (.iconst 4, 1) := by decide +kernel
theorem dL_law_654 : decode cL_law 654 = .ok (.iadd, 1) := by decide +kernel
theorem dL_law_655 : decode cL_law 655 = .ok (.iaload, 1) := by decide +kernel
theorem dL_law_656 : decode cL_law 656 = .ok (.invokevirtual 67, 3) := by decide +kernel
theorem dL_law_659 : decode cL_law 659 = .ok (.if_icmp .eq 809, 3) := by decide +kernel
theorem dL_law_662 : decode cL_law 662 = .ok (.iconst 0, 1) := by decide +kernel
theorem dL_law_663 : decode cL_law 663 = .ok (.ireturn, 1) := by decide +kernel
theorem dL_law_664 : decode cL_law 664 = .ok (.aload_n 1, 1) := by decide +kernel
theorem dL_law_665 : decode cL_law 665 = .ok (.aload_n 0, 1) := by decide +kernel
theorem dL_law_666 : decode cL_law 666 = .ok (.iload_n 3, 1) := by decide +kernel
theorem dL_law_667 : decode cL_law 667 = .ok (.iconst 1, 1) := by decide +kernel
theorem dL_law_668 : decode cL_law 668 = .ok (.iadd, 1) := by decide +kernel
theorem dL_law_669 : decode cL_law 669 = .ok (.iaload, 1) := by decide +kernel
theorem dL_law_670 : decode cL_law 670 = .ok (.invokevirtual 68, 3) := by decide +kernel
theorem dL_law_673 : decode cL_law 673 = .ok (.aload_n 2, 1) := by decide +kernel
theorem dL_law_674 : decode cL_law 674 = .ok (.aload_n 0, 1) := by decide +kernel
theorem dL_law_675 : decode cL_law 675 = .ok (.iload_n 3, 1) := by decide +kernel
theorem dL_law_676 : decode cL_law 676 = .ok (.iconst 1, 1) := by decide +kernel
theorem dL_law_677 : decode cL_law 677 = .ok (.iadd, 1) := by decide +kernel
theorem dL_law_678 : decode cL_law 678 = .ok (.iaload, 1) := by decide +kernel
theorem dL_law_679 : decode cL_law 679 = .ok (.invokevirtual 71, 3) := by decide +kernel
theorem dL_law_682 : decode cL_law 682 = .ok (.if_icmp .eq 786, 3) := by decide +kernel
theorem dL_law_685 : decode cL_law 685 = .ok (.iconst 0, 1) := by decide +kernel
theorem dL_law_686 : decode cL_law 686 = .ok (.ireturn, 1) := by decide +kernel
theorem dL_law_687 : decode cL_law 687 = .ok (.aload_n 1, 1) := by decide +kernel
theorem dL_law_688 : decode cL_law 688 = .ok (.aload_n 0, 1) := by decide +kernel
theorem dL_law_689 : decode cL_law 689 = .ok (.iload_n 3, 1) := by decide +kernel
theorem dL_law_690 : decode cL_law 690 = .ok (.iconst 1, 1) := by decide +kernel
theorem dL_law_691 : decode cL_law 691 = .ok (.iadd, 1) := by decide +kernel
theorem dL_law_692 : decode cL_law 692 = .ok (.iaload, 1) := by decide +kernel
theorem dL_law_693 : decode cL_law 693 = .ok (.invokevirtual 72, 3) := by decide +kernel
theorem dL_law_696 : decode cL_law 696 = .ok (.aload_n 2, 1) := by decide +kernel
theorem dL_law_697 : decode cL_law 697 = .ok (.aload_n 0, 1) := by decide +kernel
theorem dL_law_698 : decode cL_law 698 = .ok (.iload_n 3, 1) := by decide +kernel
theorem dL_law_699 : decode cL_law 699 = .ok (.iconst 1, 1) := by decide +kernel
theorem dL_law_700 : decode cL_law 700 = .ok (.iadd, 1) := by decide +kernel
theorem dL_law_701 : decode cL_law 701 = .ok (.iaload, 1) := by decide +kernel
theorem dL_law_702 : decode cL_law 702 = .ok (.invokevirtual 75, 3) := by decide +kernel
theorem dL_law_705 : decode cL_law 705 = .ok (.if_icmp .eq 763, 3) := by decide +kernel
theorem dL_law_708 : decode cL_law 708 = .ok (.iconst 0, 1) := by decide +kernel
theorem dL_law_709 : decode cL_law 709 = .ok (.ireturn, 1) := by decide +kernel
theorem dL_law_710 : decode cL_law 710 = .ok (.aload_n 1, 1) := by decide +kernel
theorem dL_law_711 : decode cL_law 711 = .ok (.aload_n 0, 1) := by decide +kernel
theorem dL_law_712 : decode cL_law 712 = .ok (.iload_n 3, 1) := by decide +kernel
theorem dL_law_713 : decode cL_law 713 = .ok (.iconst 1, 1) := by decide +kernel
theorem dL_law_714 : decode cL_law 714 = .ok (.iadd, 1) := by decide +kernel
theorem dL_law_715 : decode cL_law 715 = .ok (.iaload, 1) := by decide +kernel
theorem dL_law_716 : decode cL_law 716 = .ok (.aload_n 0, 1) := by decide +kernel
theorem dL_law_717 : decode cL_law 717 = .ok (.iload_n 3, 1) := by decide +kernel
theorem dL_law_718 : decode cL_law 718 = .ok (.iconst 2, 1) := by decide +kernel
theorem dL_law_719 : decode cL_law 719 = .ok (.iadd, 1) := by decide +kernel
theorem dL_law_720 : decode cL_law 720 = .ok (.iaload, 1) := by decide +kernel
theorem dL_law_721 : decode cL_law 721 = .ok (.invokevirtual 76, 3) := by decide +kernel
theorem dL_law_724 : decode cL_law 724 = .ok (.aload_n 2, 1) := by decide +kernel
theorem dL_law_725 : decode cL_law 725 = .ok (.aload_n 0, 1) := by decide +kernel
theorem dL_law_726 : decode cL_law 726 = .ok (.iload_n 3, 1) := by decide +kernel
theorem dL_law_727 : decode cL_law 727 = .ok (.iconst 1, 1) := by decide +kernel
theorem dL_law_728 : decode cL_law 728 = .ok (.iadd, 1) := by decide +kernel
theorem dL_law_729 : decode cL_law 729 = .ok (.iaload, 1) := by decide +kernel
theorem dL_law_730 : decode cL_law 730 = .ok (.aload_n 0, 1) := by decide +kernel
theorem dL_law_731 : decode cL_law 731 = .ok (.iload_n 3, 1) := by decide +kernel
theorem dL_law_732 : decode cL_law 732 = .ok (.iconst 2, 1) := by decide +kernel
theorem dL_law_733 : decode cL_law 733 = .ok (.iadd, 1) := by decide +kernel
theorem dL_law_734 : decode cL_law 734 = .ok (.iaload, 1) := by decide +kernel
theorem dL_law_735 : decode cL_law 735 = .ok (.invokevirtual 79, 3) := by decide +kernel
theorem dL_law_738 : decode cL_law 738 = .ok (.if_icmp .eq 730, 3) := by decide +kernel
theorem dL_law_741 : decode cL_law 741 = .ok (.iconst 0, 1) := by decide +kernel
theorem dL_law_742 : decode cL_law 742 = .ok (.ireturn, 1) := by decide +kernel
theorem dL_law_743 : decode cL_law 743 = .ok (.aload_n 1, 1) := by decide +kernel
theorem dL_law_744 : decode cL_law 744 = .ok (.aload_n 0, 1) := by decide +kernel
theorem dL_law_745 : decode cL_law 745 = .ok (.iload_n 3, 1) := by decide +kernel
theorem dL_law_746 : decode cL_law 746 = .ok (.iconst 1, 1) := by decide +kernel
theorem dL_law_747 : decode cL_law 747 = .ok (.iadd, 1) := by decide +kernel
theorem dL_law_748 : decode cL_law 748 = .ok (.iaload, 1) := by decide +kernel
theorem dL_law_749 : decode cL_law 749 = .ok (.aload_n 0, 1) := by decide +kernel
theorem dL_law_750 : decode cL_law 750 = .ok (.iload_n 3, 1) := by decide +kernel
theorem dL_law_751 : decode cL_law 751 = .ok (.iconst 2, 1) := by decide +kernel
theorem dL_law_752 : decode cL_law 752 = .ok (.iadd, 1) := by decide +kernel
theorem dL_law_753 : decode cL_law 753 = .ok (.iaload, 1) := by decide +kernel
theorem dL_law_754 : decode cL_law 754 = .ok (.aload_n 0, 1) := by decide +kernel
theorem dL_law_755 : decode cL_law 755 = .ok (.iload_n 3, 1) := by decide +kernel
theorem dL_law_756 : decode cL_law 756 = .ok (.iconst 3, 1) := by decide +kernel
theorem dL_law_757 : decode cL_law 757 = .ok (.iadd, 1) := by decide +kernel
theorem dL_law_758 : decode cL_law 758 = .ok (.iaload, 1) := by decide +kernel
theorem dL_law_759 : decode cL_law 759 = .ok (.invokevirtual 80, 3) := by decide +kernel
theorem dL_law_762 : decode cL_law 762 = .ok (.aload_n 2, 1) := by decide +kernel
theorem dL_law_763 : decode cL_law 763 = .ok (.aload_n 0, 1) := by decide +kernel
theorem dL_law_764 : decode cL_law 764 = .ok (.iload_n 3, 1) := by decide +kernel
theorem dL_law_765 : decode cL_law 765 = .ok (.iconst 1, 1) := by decide +kernel
theorem dL_law_766 : decode cL_law 766 = .ok (.iadd, 1) := by decide +kernel
theorem dL_law_767 : decode cL_law 767 = .ok (.iaload, 1) := by decide +kernel
theorem dL_law_768 : decode cL_law 768 = .ok (.aload_n 0, 1) := by decide +kernel
theorem dL_law_769 : decode cL_law 769 = .ok (.iload_n 3, 1) := by decide +kernel
theorem dL_law_770 : decode cL_law 770 = .ok (.iconst 2, 1) := by decide +kernel
theorem dL_law_771 : decode cL_law 771 = .ok (.iadd, 1) := by decide +kernel
theorem dL_law_772 : decode cL_law 772 = .ok (.iaload, 1) := by decide +kernel
theorem dL_law_773 : decode cL_law 773 = .ok (.aload_n 0, 1) := by decide +kernel
theorem dL_law_774 : decode cL_law 774 = .ok (.iload_n 3, 1) := by decide +kernel
theorem dL_law_775 : decode cL_law 775 = .ok (.iconst 3, 1) := by decide +kernel
theorem dL_law_776 : decode cL_law 776 = .ok (.iadd, 1) := by decide +kernel
theorem dL_law_777 : decode cL_law 777 = .ok (.iaload, 1) := by decide +kernel
theorem dL_law_778 : decode cL_law 778 = .ok (.invokevirtual 83, 3) := by decide +kernel
theorem dL_law_781 : decode cL_law 781 = .ok (.if_icmp .eq 687, 3) := by decide +kernel
theorem dL_law_784 : decode cL_law 784 = .ok (.iconst 0, 1) := by decide +kernel
theorem dL_law_785 : decode cL_law 785 = .ok (.ireturn, 1) := by decide +kernel
theorem dL_law_786 : decode cL_law 786 = .ok (.aload_n 1, 1) := by decide +kernel
theorem dL_law_787 : decode cL_law 787 = .ok (.aload_n 0, 1) := by decide +kernel
theorem dL_law_788 : decode cL_law 788 = .ok (.iload_n 3, 1) := by decide +kernel
theorem dL_law_789 : decode cL_law 789 = .ok (.iconst 1, 1) := by decide +kernel
theorem dL_law_790 : decode cL_law 790 = .ok (.iadd, 1) := by decide +kernel
theorem dL_law_791 : decode cL_law 791 = .ok (.iaload, 1) := by decide +kernel
theorem dL_law_792 : decode cL_law 792 = .ok (.invokevirtual 84, 3) := by decide +kernel
theorem dL_law_795 : decode cL_law 795 = .ok (.aload_n 2, 1) := by decide +kernel
theorem dL_law_796 : decode cL_law 796 = .ok (.aload_n 0, 1) := by decide +kernel
theorem dL_law_797 : decode cL_law 797 = .ok (.iload_n 3, 1) := by decide +kernel
theorem dL_law_798 : decode cL_law 798 = .ok (.iconst 1, 1) := by decide +kernel
theorem dL_law_799 : decode cL_law 799 = .ok (.iadd, 1) := by decide +kernel
theorem dL_law_800 : decode cL_law 800 = .ok (.iaload, 1) := by decide +kernel
theorem dL_law_801 : decode cL_law 801 = .ok (.invokevirtual 87, 3) := by decide +kernel
theorem dL_law_804 : decode cL_law 804 = .ok (.if_icmp .eq 664, 3) := by decide +kernel
theorem dL_law_807 : decode cL_law 807 = .ok (.iconst 0, 1) := by decide +kernel
theorem dL_law_808 : decode cL_law 808 = .ok (.ireturn, 1) := by decide +kernel
theorem dL_law_809 : decode cL_law 809 = .ok (.aload_n 1, 1) := by decide +kernel
theorem dL_law_810 : decode cL_law 810 = .ok (.aload_n 0, 1) := by decide +kernel
theorem dL_law_811 : decode cL_law 811 = .ok (.iload_n 3, 1) := by decide +kernel
theorem dL_law_812 : decode cL_law 812 = .ok (.iconst 1, 1) := by decide +kernel
theorem dL_law_813 : decode cL_law 813 = .ok (.iadd, 1) := by decide +kernel
theorem dL_law_814 : decode cL_law 814 = .ok (.iaload, 1) := by decide +kernel
theorem dL_law_815 : decode cL_law 815 = .ok (.aload_n 0, 1) := by decide +kernel
theorem dL_law_816 : decode cL_law 816 = .ok (.iload_n 3, 1) := by decide +kernel
theorem dL_law_817 : decode cL_law 817 = .ok (.iconst 2, 1) := by decide +kernel
theorem dL_law_818 : decode cL_law 818 = .ok (.iadd, 1) := by decide +kernel
theorem dL_law_819 : decode cL_law 819 = .ok (.iaload, 1) := by decide +kernel
theorem dL_law_820 : decode cL_law 820 = .ok (.invokevirtual 88, 3) := by decide +kernel
theorem dL_law_823 : decode cL_law 823 = .ok (.aload_n 2, 1) := by decide +kernel
theorem dL_law_824 : decode cL_law 824 = .ok (.aload_n 0, 1) := by decide +kernel
theorem dL_law_825 : decode cL_law 825 = .ok (.iload_n 3, 1) := by decide +kernel
theorem dL_law_826 : decode cL_law 826 = .ok (.iconst 1, 1) := by decide +kernel
theorem dL_law_827 : decode cL_law 827 = .ok (.iadd, 1) := by decide +kernel
theorem dL_law_828 : decode cL_law 828 = .ok (.iaload, 1) := by decide +kernel
theorem dL_law_829 : decode cL_law 829 = .ok (.aload_n 0, 1) := by decide +kernel
theorem dL_law_830 : decode cL_law 830 = .ok (.iload_n 3, 1) := by decide +kernel
theorem dL_law_831 : decode cL_law 831 = .ok (.iconst 2, 1) := by decide +kernel
theorem dL_law_832 : decode cL_law 832 = .ok (.iadd, 1) := by decide +kernel
theorem dL_law_833 : decode cL_law 833 = .ok (.iaload, 1) := by decide +kernel
theorem dL_law_834 : decode cL_law 834 = .ok (.invokevirtual 91, 3) := by decide +kernel
theorem dL_law_837 : decode cL_law 837 = .ok (.if_icmp .eq 631, 3) := by decide +kernel
theorem dL_law_840 : decode cL_law 840 = .ok (.iconst 0, 1) := by decide +kernel
theorem dL_law_841 : decode cL_law 841 = .ok (.ireturn, 1) := by decide +kernel
theorem dL_law_842 : decode cL_law 842 = .ok (.aload_n 1, 1) := by decide +kernel
theorem dL_law_843 : decode cL_law 843 = .ok (.aload_n 0, 1) := by decide +kernel
theorem dL_law_844 : decode cL_law 844 = .ok (.iload_n 3, 1) := by decide +kernel
theorem dL_law_845 : decode cL_law 845 = .ok (.iconst 1, 1) := by decide +kernel
theorem dL_law_846 : decode cL_law 846 = .ok (.iadd, 1) := by decide +kernel
theorem dL_law_847 : decode cL_law 847 = .ok (.iaload, 1) := by decide +kernel
theorem dL_law_848 : decode cL_law 848 = .ok (.invokevirtual 92, 3) := by decide +kernel
theorem dL_law_851 : decode cL_law 851 = .ok (.aload_n 2, 1) := by decide +kernel
theorem dL_law_852 : decode cL_law 852 = .ok (.aload_n 0, 1) := by decide +kernel
theorem dL_law_853 : decode cL_law 853 = .ok (.iload_n 3, 1) := by decide +kernel
theorem dL_law_854 : decode cL_law 854 = .ok (.iconst 1, 1) := by decide +kernel
theorem dL_law_855 : decode cL_law 855 = .ok (.iadd, 1) := by decide +kernel
theorem dL_law_856 : decode cL_law 856 = .ok (.iaload, 1) := by decide +kernel
theorem dL_law_857 : decode cL_law 857 = .ok (.invokevirtual 95, 3) := by decide +kernel
theorem dL_law_860 : decode cL_law 860 = .ok (.if_icmp .eq 608, 3) := by decide +kernel
theorem dL_law_863 : decode cL_law 863 = .ok (.iconst 0, 1) := by decide +kernel
theorem dL_law_864 : decode cL_law 864 = .ok (.ireturn, 1) := by decide +kernel
theorem dL_law_865 : decode cL_law 865 = .ok (.aload_n 1, 1) := by decide +kernel
theorem dL_law_866 : decode cL_law 866 = .ok (.aload_n 0, 1) := by decide +kernel
theorem dL_law_867 : decode cL_law 867 = .ok (.iload_n 3, 1) := by decide +kernel
theorem dL_law_868 : decode cL_law 868 = .ok (.iconst 1, 1) := by decide +kernel
theorem dL_law_869 : decode cL_law 869 = .ok (.iadd, 1) := by decide +kernel
theorem dL_law_870 : decode cL_law 870 = .ok (.iaload, 1) := by decide +kernel
theorem dL_law_871 : decode cL_law 871 = .ok (.aload_n 0, 1) := by decide +kernel
theorem dL_law_872 : decode cL_law 872 = .ok (.iload_n 3, 1) := by decide +kernel
theorem dL_law_873 : decode cL_law 873 = .ok (.iconst 2, 1) := by decide +kernel
theorem dL_law_874 : decode cL_law 874 = .ok (.iadd, 1) := by decide +kernel
theorem dL_law_875 : decode cL_law 875 = .ok (.iaload, 1) := by decide +kernel
theorem dL_law_876 : decode cL_law 876 = .ok (.invokevirtual 96, 3) := by decide +kernel
theorem dL_law_879 : decode cL_law 879 = .ok (.aload_n 2, 1) := by decide +kernel
theorem dL_law_880 : decode cL_law 880 = .ok (.aload_n 0, 1) := by decide +kernel
theorem dL_law_881 : decode cL_law 881 = .ok (.iload_n 3, 1) := by decide +kernel
theorem dL_law_882 : decode cL_law 882 = .ok (.iconst 1, 1) := by decide +kernel
theorem dL_law_883 : decode cL_law 883 = .ok (.iadd, 1) := by decide +kernel
theorem dL_law_884 : decode cL_law 884 = .ok (.iaload, 1) := by decide +kernel
theorem dL_law_885 : decode cL_law 885 = .ok (.aload_n 0, 1) := by decide +kernel
theorem dL_law_886 : decode cL_law 886 = .ok (.iload_n 3, 1) := by decide +kernel
theorem dL_law_887 : decode cL_law 887 = .ok (.iconst 2, 1) := by decide +kernel
theorem dL_law_888 : decode cL_law 888 = .ok (.iadd, 1) := by decide +kernel
theorem dL_law_889 : decode cL_law 889 = .ok (.iaload, 1) := by decide +kernel
theorem dL_law_890 : decode cL_law 890 = .ok (.invokevirtual 99, 3) := by decide +kernel
theorem dL_law_893 : decode cL_law 893 = .ok (.if_icmp .eq 575, 3) := by decide +kernel
theorem dL_law_896 : decode cL_law 896 = .ok (.iconst 0, 1) := by decide +kernel
theorem dL_law_897 : decode cL_law 897 = .ok (.ireturn, 1) := by decide +kernel
theorem dL_law_898 : decode cL_law 898 = .ok (.aload_n 1, 1) := by decide +kernel
theorem dL_law_899 : decode cL_law 899 = .ok (.aload_n 0, 1) := by decide +kernel
theorem dL_law_900 : decode cL_law 900 = .ok (.iload_n 3, 1) := by decide +kernel
theorem dL_law_901 : decode cL_law 901 = .ok (.iconst 1, 1) := by decide +kernel
theorem dL_law_902 : decode cL_law 902 = .ok (.iadd, 1) := by decide +kernel
theorem dL_law_903 : decode cL_law 903 = .ok (.iaload, 1) := by decide +kernel
theorem dL_law_904 : decode cL_law 904 = .ok (.invokevirtual 100, 3) := by decide +kernel
theorem dL_law_907 : decode cL_law 907 = .ok (.aload_n 2, 1) := by decide +kernel
theorem dL_law_908 : decode cL_law 908 = .ok (.aload_n 0, 1) := by decide +kernel
theorem dL_law_909 : decode cL_law 909 = .ok (.iload_n 3, 1) := by decide +kernel
theorem dL_law_910 : decode cL_law 910 = .ok (.iconst 1, 1) := by decide +kernel
theorem dL_law_911 : decode cL_law 911 = .ok (.iadd, 1) := by decide +kernel
theorem dL_law_912 : decode cL_law 912 = .ok (.iaload, 1) := by decide +kernel
theorem dL_law_913 : decode cL_law 913 = .ok (.invokevirtual 103, 3) := by decide +kernel
theorem dL_law_916 : decode cL_law 916 = .ok (.if_icmp .eq 552, 3) := by decide +kernel
theorem dL_law_919 : decode cL_law 919 = .ok (.iconst 0, 1) := by decide +kernel
theorem dL_law_920 : decode cL_law 920 = .ok (.ireturn, 1) := by decide +kernel
theorem dL_law_921 : decode cL_law 921 = .ok (.aload_n 1, 1) := by decide +kernel
theorem dL_law_922 : decode cL_law 922 = .ok (.aload_n 0, 1) := by decide +kernel
theorem dL_law_923 : decode cL_law 923 = .ok (.iload_n 3, 1) := by decide +kernel
theorem dL_law_924 : decode cL_law 924 = .ok (.iconst 1, 1) := by decide +kernel
theorem dL_law_925 : decode cL_law 925 = .ok (.iadd, 1) := by decide +kernel
theorem dL_law_926 : decode cL_law 926 = .ok (.iaload, 1) := by decide +kernel
theorem dL_law_927 : decode cL_law 927 = .ok (.invokevirtual 104, 3) := by decide +kernel
theorem dL_law_930 : decode cL_law 930 = .ok (.aload_n 2, 1) := by decide +kernel
theorem dL_law_931 : decode cL_law 931 = .ok (.aload_n 0, 1) := by decide +kernel
theorem dL_law_932 : decode cL_law 932 = .ok (.iload_n 3, 1) := by decide +kernel
theorem dL_law_933 : decode cL_law 933 = .ok (.iconst 1, 1) := by decide +kernel
theorem dL_law_934 : decode cL_law 934 = .ok (.iadd, 1) := by decide +kernel
theorem dL_law_935 : decode cL_law 935 = .ok (.iaload, 1) := by decide +kernel
theorem dL_law_936 : decode cL_law 936 = .ok (.invokevirtual 107, 3) := by decide +kernel
theorem dL_law_939 : decode cL_law 939 = .ok (.if_icmp .eq 529, 3) := by decide +kernel
theorem dL_law_942 : decode cL_law 942 = .ok (.iconst 0, 1) := by decide +kernel
theorem dL_law_943 : decode cL_law 943 = .ok (.ireturn, 1) := by decide +kernel
theorem dL_law_944 : decode cL_law 944 = .ok (.aload_n 1, 1) := by decide +kernel
theorem dL_law_945 : decode cL_law 945 = .ok (.aload_n 0, 1) := by decide +kernel
theorem dL_law_946 : decode cL_law 946 = .ok (.iload_n 3, 1) := by decide +kernel
theorem dL_law_947 : decode cL_law 947 = .ok (.iconst 1, 1) := by decide +kernel
theorem dL_law_948 : decode cL_law 948 = .ok (.iadd, 1) := by decide +kernel
theorem dL_law_949 : decode cL_law 949 = .ok (.iaload, 1) := by decide +kernel
theorem dL_law_950 : decode cL_law 950 = .ok (.aload_n 0, 1) := by decide +kernel
theorem dL_law_951 : decode cL_law 951 = .ok (.iload_n 3, 1) := by decide +kernel
theorem dL_law_952 : decode cL_law 952 = .ok (.iconst 2, 1) := by decide +kernel
theorem dL_law_953 : decode cL_law 953 = .ok (.iadd, 1) := by decide +kernel
theorem dL_law_954 : decode cL_law 954 = .ok (.iaload, 1) := by decide +kernel
theorem dL_law_955 : decode cL_law 955 = .ok (.invokevirtual 108, 3) := by decide +kernel
theorem dL_law_958 : decode cL_law 958 = .ok (.aload_n 2, 1) := by decide +kernel
theorem dL_law_959 : decode cL_law 959 = .ok (.aload_n 0, 1) := by decide +kernel
theorem dL_law_960 : decode cL_law 960 = .ok (.iload_n 3, 1) := by decide +kernel
theorem dL_law_961 : decode cL_law 961 = .ok (.iconst 1, 1) := by decide +kernel
theorem dL_law_962 : decode cL_law 962 = .ok (.iadd, 1) := by decide +kernel
theorem dL_law_963 : decode cL_law 963 = .ok (.iaload, 1) := by decide +kernel
theorem dL_law_964 : decode cL_law 964 = .ok (.aload_n 0, 1) := by decide +kernel
theorem dL_law_965 : decode cL_law 965 = .ok (.iload_n 3, 1) := by decide +kernel
theorem dL_law_966 : decode cL_law 966 = .ok (.iconst 2, 1) := by decide +kernel
theorem dL_law_967 : decode cL_law 967 = .ok (.iadd, 1) := by decide +kernel
theorem dL_law_968 : decode cL_law 968 = .ok (.iaload, 1) := by decide +kernel
theorem dL_law_969 : decode cL_law 969 = .ok (.invokevirtual 111, 3) := by decide +kernel
theorem dL_law_972 : decode cL_law 972 = .ok (.if_icmp .eq 496, 3) := by decide +kernel
theorem dL_law_975 : decode cL_law 975 = .ok (.iconst 0, 1) := by decide +kernel
theorem dL_law_976 : decode cL_law 976 = .ok (.ireturn, 1) := by decide +kernel
theorem dL_law_977 : decode cL_law 977 = .ok (.aload_n 1, 1) := by decide +kernel
theorem dL_law_978 : decode cL_law 978 = .ok (.aload_n 0, 1) := by decide +kernel
theorem dL_law_979 : decode cL_law 979 = .ok (.iload_n 3, 1) := by decide +kernel
theorem dL_law_980 : decode cL_law 980 = .ok (.iconst 1, 1) := by decide +kernel
theorem dL_law_981 : decode cL_law 981 = .ok (.iadd, 1) := by decide +kernel
theorem dL_law_982 : decode cL_law 982 = .ok (.iaload, 1) := by decide +kernel
theorem dL_law_983 : decode cL_law 983 = .ok (.invokevirtual 112, 3) := by decide +kernel
theorem dL_law_986 : decode cL_law 986 = .ok (.aload_n 2, 1) := by decide +kernel
theorem dL_law_987 : decode cL_law 987 = .ok (.aload_n 0, 1) := by decide +kernel
theorem dL_law_988 : decode cL_law 988 = .ok (.iload_n 3, 1) := by decide +kernel
theorem dL_law_989 : decode cL_law 989 = .ok (.iconst 1, 1) := by decide +kernel
theorem dL_law_990 : decode cL_law 990 = .ok (.iadd, 1) := by decide +kernel
theorem dL_law_991 : decode cL_law 991 = .ok (.iaload, 1) := by decide +kernel
theorem dL_law_992 : decode cL_law 992 = .ok (.invokevirtual 115, 3) := by decide +kernel
theorem dL_law_995 : decode cL_law 995 = .ok (.if_icmp .eq 473, 3) := by decide +kernel
theorem dL_law_998 : decode cL_law 998 = .ok (.iconst 0, 1) := by decide +kernel
theorem dL_law_999 : decode cL_law 999 = .ok (.ireturn, 1) := by decide +kernel
theorem dL_law_1000 : decode cL_law 1000 = .ok (.aload_n 1, 1) := by decide +kernel
theorem dL_law_1001 : decode cL_law 1001 = .ok (.aload_n 0, 1) := by decide +kernel
theorem dL_law_1002 : decode cL_law 1002 = .ok (.iload_n 3, 1) := by decide +kernel
theorem dL_law_1003 : decode cL_law 1003 = .ok (.iconst 1, 1) := by decide +kernel
theorem dL_law_1004 : decode cL_law 1004 = .ok (.iadd, 1) := by decide +kernel
theorem dL_law_1005 : decode cL_law 1005 = .ok (.iaload, 1) := by decide +kernel
theorem dL_law_1006 : decode cL_law 1006 = .ok (.aload_n 0, 1) := by decide +kernel
theorem dL_law_1007 : decode cL_law 1007 = .ok (.iload_n 3, 1) := by decide +kernel
theorem dL_law_1008 : decode cL_law 1008 = .ok (.iconst 2, 1) := by decide +kernel
theorem dL_law_1009 : decode cL_law 1009 = .ok (.iadd, 1) := by decide +kernel
theorem dL_law_1010 : decode cL_law 1010 = .ok (.iaload, 1) := by decide +kernel
theorem dL_law_1011 : decode cL_law 1011 = .ok (.invokevirtual 116, 3) := by decide +kernel
theorem dL_law_1014 : decode cL_law 1014 = .ok (.aload_n 2, 1) := by decide +kernel
theorem dL_law_1015 : decode cL_law 1015 = .ok (.aload_n 0, 1) := by decide +kernel
theorem dL_law_1016 : decode cL_law 1016 = .ok (.iload_n 3, 1) := by decide +kernel
theorem dL_law_1017 : decode cL_law 1017 = .ok (.iconst 1, 1) := by decide +kernel
theorem dL_law_1018 : decode cL_law 1018 = .ok (.iadd, 1) := by decide +kernel
theorem dL_law_1019 : decode cL_law 1019 = .ok (.iaload, 1) := by decide +kernel
theorem dL_law_1020 : decode cL_law 1020 = .ok (.aload_n 0, 1) := by decide +kernel
theorem dL_law_1021 : decode cL_law 1021 = .ok (.iload_n 3, 1) := by decide +kernel
theorem dL_law_1022 : decode cL_law 1022 = .ok (.iconst 2, 1) := by decide +kernel
theorem dL_law_1023 : decode cL_law 1023 = .ok (.iadd, 1) := by decide +kernel
theorem dL_law_1024 : decode cL_law 1024 = .ok (.iaload, 1) := by decide +kernel
theorem dL_law_1025 : decode cL_law 1025 = .ok (.invokevirtual 119, 3) := by decide +kernel
theorem dL_law_1028 : decode cL_law 1028 = .ok (.if_icmp .eq 440, 3) := by decide +kernel
theorem dL_law_1031 : decode cL_law 1031 = .ok (.iconst 0, 1) := by decide +kernel
theorem dL_law_1032 : decode cL_law 1032 = .ok (.ireturn, 1) := by decide +kernel
theorem dL_law_1033 : decode cL_law 1033 = .ok (.aload_n 1, 1) := by decide +kernel
theorem dL_law_1034 : decode cL_law 1034 = .ok (.aload_n 0, 1) := by decide +kernel
theorem dL_law_1035 : decode cL_law 1035 = .ok (.iload_n 3, 1) := by decide +kernel
theorem dL_law_1036 : decode cL_law 1036 = .ok (.iconst 1, 1) := by decide +kernel
theorem dL_law_1037 : decode cL_law 1037 = .ok (.iadd, 1) := by decide +kernel
theorem dL_law_1038 : decode cL_law 1038 = .ok (.iaload, 1) := by decide +kernel
theorem dL_law_1039 : decode cL_law 1039 = .ok (.aload_n 0, 1) := by decide +kernel
theorem dL_law_1040 : decode cL_law 1040 = .ok (.iload_n 3, 1) := by decide +kernel
theorem dL_law_1041 : decode cL_law 1041 = .ok (.iconst 2, 1) := by decide +kernel
theorem dL_law_1042 : decode cL_law 1042 = .ok (.iadd, 1) := by decide +kernel
theorem dL_law_1043 : decode cL_law 1043 = .ok (.iaload, 1) := by decide +kernel
theorem dL_law_1044 : decode cL_law 1044 = .ok (.aload_n 0, 1) := by decide +kernel
theorem dL_law_1045 : decode cL_law 1045 = .ok (.iload_n 3, 1) := by decide +kernel
theorem dL_law_1046 : decode cL_law 1046 = .ok (.iconst 3, 1) := by decide +kernel
theorem dL_law_1047 : decode cL_law 1047 = .ok (.iadd, 1) := by decide +kernel
theorem dL_law_1048 : decode cL_law 1048 = .ok (.iaload, 1) := by decide +kernel
theorem dL_law_1049 : decode cL_law 1049 = .ok (.invokevirtual 120, 3) := by decide +kernel
theorem dL_law_1052 : decode cL_law 1052 = .ok (.aload_n 2, 1) := by decide +kernel
theorem dL_law_1053 : decode cL_law 1053 = .ok (.aload_n 0, 1) := by decide +kernel
theorem dL_law_1054 : decode cL_law 1054 = .ok (.iload_n 3, 1) := by decide +kernel
theorem dL_law_1055 : decode cL_law 1055 = .ok (.iconst 1, 1) := by decide +kernel
theorem dL_law_1056 : decode cL_law 1056 = .ok (.iadd, 1) := by decide +kernel
theorem dL_law_1057 : decode cL_law 1057 = .ok (.iaload, 1) := by decide +kernel
theorem dL_law_1058 : decode cL_law 1058 = .ok (.aload_n 0, 1) := by decide +kernel
theorem dL_law_1059 : decode cL_law 1059 = .ok (.iload_n 3, 1) := by decide +kernel
theorem dL_law_1060 : decode cL_law 1060 = .ok (.iconst 2, 1) := by decide +kernel
theorem dL_law_1061 : decode cL_law 1061 = .ok (.iadd, 1) := by decide +kernel
theorem dL_law_1062 : decode cL_law 1062 = .ok (.iaload, 1) := by decide +kernel
theorem dL_law_1063 : decode cL_law 1063 = .ok (.aload_n 0, 1) := by decide +kernel
theorem dL_law_1064 : decode cL_law 1064 = .ok (.iload_n 3, 1) := by decide +kernel
theorem dL_law_1065 : decode cL_law 1065 = .ok (.iconst 3, 1) := by decide +kernel
theorem dL_law_1066 : decode cL_law 1066 = .ok (.iadd, 1) := by decide +kernel
theorem dL_law_1067 : decode cL_law 1067 = .ok (.iaload, 1) := by decide +kernel
theorem dL_law_1068 : decode cL_law 1068 = .ok (.invokevirtual 123, 3) := by decide +kernel
theorem dL_law_1071 : decode cL_law 1071 = .ok (.if_icmp .eq 397, 3) := by decide +kernel
theorem dL_law_1074 : decode cL_law 1074 = .ok (.iconst 0, 1) := by decide +kernel
theorem dL_law_1075 : decode cL_law 1075 = .ok (.ireturn, 1) := by decide +kernel
theorem dL_law_1076 : decode cL_law 1076 = .ok (.aload_n 1, 1) := by decide +kernel
theorem dL_law_1077 : decode cL_law 1077 = .ok (.aload_n 0, 1) := by decide +kernel
theorem dL_law_1078 : decode cL_law 1078 = .ok (.iload_n 3, 1) := by decide +kernel
theorem dL_law_1079 : decode cL_law 1079 = .ok (.iconst 1, 1) := by decide +kernel
theorem dL_law_1080 : decode cL_law 1080 = .ok (.iadd, 1) := by decide +kernel
theorem dL_law_1081 : decode cL_law 1081 = .ok (.iaload, 1) := by decide +kernel
theorem dL_law_1082 : decode cL_law 1082 = .ok (.invokevirtual 124, 3) := by decide +kernel
theorem dL_law_1085 : decode cL_law 1085 = .ok (.aload_n 2, 1) := by decide +kernel
theorem dL_law_1086 : decode cL_law 1086 = .ok (.aload_n 0, 1) := by decide +kernel
theorem dL_law_1087 : decode cL_law 1087 = .ok (.iload_n 3, 1) := by decide +kernel
theorem dL_law_1088 : decode cL_law 1088 = .ok (.iconst 1, 1) := by decide +kernel
theorem dL_law_1089 : decode cL_law 1089 = .ok (.iadd, 1) := by decide +kernel
theorem dL_law_1090 : decode cL_law 1090 = .ok (.iaload, 1) := by decide +kernel
theorem dL_law_1091 : decode cL_law 1091 = .ok (.invokevirtual 127, 3) := by decide +kernel
theorem dL_law_1094 : decode cL_law 1094 = .ok (.if_icmp .eq 374, 3) := by decide +kernel
theorem dL_law_1097 : decode cL_law 1097 = .ok (.iconst 0, 1) := by decide +kernel
theorem dL_law_1098 : decode cL_law 1098 = .ok (.ireturn, 1) := by decide +kernel
theorem dL_law_1099 : decode cL_law 1099 = .ok (.aload_n 1, 1) := by decide +kernel
theorem dL_law_1100 : decode cL_law 1100 = .ok (.aload_n 0, 1) := by decide +kernel
theorem dL_law_1101 : decode cL_law 1101 = .ok (.iload_n 3, 1) := by decide +kernel
theorem dL_law_1102 : decode cL_law 1102 = .ok (.iconst 1, 1) := by decide +kernel
theorem dL_law_1103 : decode cL_law 1103 = .ok (.iadd, 1) := by decide +kernel
theorem dL_law_1104 : decode cL_law 1104 = .ok (.iaload, 1) := by decide +kernel
theorem dL_law_1105 : decode cL_law 1105 = .ok (.aload_n 0, 1) := by decide +kernel
theorem dL_law_1106 : decode cL_law 1106 = .ok (.iload_n 3, 1) := by decide +kernel
theorem dL_law_1107 : decode cL_law 1107 = .ok (.iconst 2, 1) := by decide +kernel
theorem dL_law_1108 : decode cL_law 1108 = .ok (.iadd, 1) := by decide +kernel
theorem dL_law_1109 : decode cL_law 1109 = .ok (.iaload, 1) := by decide +kernel
theorem dL_law_1110 : decode cL_law 1110 = .ok (.aload_n 0, 1) := by decide +kernel
theorem dL_law_1111 : decode cL_law 1111 = .ok (.iload_n 3, 1) := by decide +kernel
theorem dL_law_1112 : decode cL_law 1112 = .ok (.iconst 3, 1) := by decide +kernel
theorem dL_law_1113 : decode cL_law 1113 = .ok (.iadd, 1) := by decide +kernel
theorem dL_law_1114 : decode cL_law 1114 = .ok (.iaload, 1) := by decide +kernel
theorem dL_law_1115 : decode cL_law 1115 = .ok (.invokevirtual 128, 3) := by decide +kernel
theorem dL_law_1118 : decode cL_law 1118 = .ok (.aload_n 2, 1) := by decide +kernel
theorem dL_law_1119 : decode cL_law 1119 = .ok (.aload_n 0, 1) := by decide +kernel
theorem dL_law_1120 : decode cL_law 1120 = .ok (.iload_n 3, 1) := by decide +kernel
theorem dL_law_1121 : decode cL_law 1121 = .ok (.iconst 1, 1) := by decide +kernel
theorem dL_law_1122 : decode cL_law 1122 = .ok (.iadd, 1) := by decide +kernel
theorem dL_law_1123 : decode cL_law 1123 = .ok (.iaload, 1) := by decide +kernel
theorem dL_law_1124 : decode cL_law 1124 = .ok (.aload_n 0, 1) := by decide +kernel
theorem dL_law_1125 : decode cL_law 1125 = .ok (.iload_n 3, 1) := by decide +kernel
theorem dL_law_1126 : decode cL_law 1126 = .ok (.iconst 2, 1) := by decide +kernel
theorem dL_law_1127 : decode cL_law 1127 = .ok (.iadd, 1) := by decide +kernel
theorem dL_law_1128 : decode cL_law 1128 = .ok (.iaload, 1) := by decide +kernel
theorem dL_law_1129 : decode cL_law 1129 = .ok (.aload_n 0, 1) := by decide +kernel
theorem dL_law_1130 : decode cL_law 1130 = .ok (.iload_n 3, 1) := by decide +kernel
theorem dL_law_1131 : decode cL_law 1131 = .ok (.iconst 3, 1) := by decide +kernel
theorem dL_law_1132 : decode cL_law 1132 = .ok (.iadd, 1) := by decide +kernel
theorem dL_law_1133 : decode cL_law 1133 = .ok (.iaload, 1) := by decide +kernel
theorem dL_law_1134 : decode cL_law 1134 = .ok (.invokevirtual 131, 3) := by decide +kernel
theorem dL_law_1137 : decode cL_law 1137 = .ok (.if_icmp .eq 331, 3) := by decide +kernel
theorem dL_law_1140 : decode cL_law 1140 = .ok (.iconst 0, 1) := by decide +kernel
theorem dL_law_1141 : decode cL_law 1141 = .ok (.ireturn, 1) := by decide +kernel
theorem dL_law_1142 : decode cL_law 1142 = .ok (.aload_n 1, 1) := by decide +kernel
theorem dL_law_1143 : decode cL_law 1143 = .ok (.aload_n 0, 1) := by decide +kernel
theorem dL_law_1144 : decode cL_law 1144 = .ok (.iload_n 3, 1) := by decide +kernel
theorem dL_law_1145 : decode cL_law 1145 = .ok (.iconst 1, 1) := by decide +kernel
theorem dL_law_1146 : decode cL_law 1146 = .ok (.iadd, 1) := by decide +kernel
theorem dL_law_1147 : decode cL_law 1147 = .ok (.iaload, 1) := by decide +kernel
theorem dL_law_1148 : decode cL_law 1148 = .ok (.invokevirtual 132, 3) := by decide +kernel
theorem dL_law_1151 : decode cL_law 1151 = .ok (.aload_n 2, 1) := by decide +kernel
theorem dL_law_1152 : decode cL_law 1152 = .ok (.aload_n 0, 1) := by decide +kernel
theorem dL_law_1153 : decode cL_law 1153 = .ok (.iload_n 3, 1) := by decide +kernel
theorem dL_law_1154 : decode cL_law 1154 = .ok (.iconst 1, 1) := by decide +kernel
theorem dL_law_1155 : decode cL_law 1155 = .ok (.iadd, 1) := by decide +kernel
theorem dL_law_1156 : decode cL_law 1156 = .ok (.iaload, 1) := by decide +kernel
theorem dL_law_1157 : decode cL_law 1157 = .ok (.invokevirtual 135, 3) := by decide +kernel
theorem dL_law_1160 : decode cL_law 1160 = .ok (.if_icmp .eq 308, 3) := by decide +kernel
theorem dL_law_1163 : decode cL_law 1163 = .ok (.iconst 0, 1) := by decide +kernel
theorem dL_law_1164 : decode cL_law 1164 = .ok (.ireturn, 1) := by decide +kernel
theorem dL_law_1165 : decode cL_law 1165 = .ok (.aload_n 1, 1) := by decide +kernel
theorem dL_law_1166 : decode cL_law 1166 = .ok (.aload_n 0, 1) := by decide +kernel
theorem dL_law_1167 : decode cL_law 1167 = .ok (.iload_n 3, 1) := by decide +kernel
theorem dL_law_1168 : decode cL_law 1168 = .ok (.iconst 1, 1) := by decide +kernel
theorem dL_law_1169 : decode cL_law 1169 = .ok (.iadd, 1) := by decide +kernel
theorem dL_law_1170 : decode cL_law 1170 = .ok (.iaload, 1) := by decide +kernel
theorem dL_law_1171 : decode cL_law 1171 = .ok (.aload_n 0, 1) := by decide +kernel
theorem dL_law_1172 : decode cL_law 1172 = .ok (.iload_n 3, 1) := by decide +kernel
theorem dL_law_1173 : decode cL_law 1173 = .ok (.iconst 2, 1) := by decide +kernel
theorem dL_law_1174 : decode cL_law 1174 = .ok (.iadd, 1) := by decide +kernel
theorem dL_law_1175 : decode cL_law 1175 = .ok (.iaload, 1) := by decide +kernel
theorem dL_law_1176 : decode cL_law 1176 = .ok (.aload_n 0, 1) := by decide +kernel
theorem dL_law_1177 : decode cL_law 1177 = .ok (.iload_n 3, 1) := by decide +kernel
theorem dL_law_1178 : decode cL_law 1178 = .ok (.iconst 3, 1) := by decide +kernel
theorem dL_law_1179 : decode cL_law 1179 = .ok (.iadd, 1) := by decide +kernel
theorem dL_law_1180 : decode cL_law 1180 = .ok (.iaload, 1) := by decide +kernel
theorem dL_law_1181 : decode cL_law 1181 = .ok (.invokevirtual 136, 3) := by decide +kernel
theorem dL_law_1184 : decode cL_law 1184 = .ok (.aload_n 2, 1) := by decide +kernel
theorem dL_law_1185 : decode cL_law 1185 = .ok (.aload_n 0, 1) := by decide +kernel
theorem dL_law_1186 : decode cL_law 1186 = .ok (.iload_n 3, 1) := by decide +kernel
theorem dL_law_1187 : decode cL_law 1187 = .ok (.iconst 1, 1) := by decide +kernel
theorem dL_law_1188 : decode cL_law 1188 = .ok (.iadd, 1) := by decide +kernel
theorem dL_law_1189 : decode cL_law 1189 = .ok (.iaload, 1) := by decide +kernel
theorem dL_law_1190 : decode cL_law 1190 = .ok (.aload_n 0, 1) := by decide +kernel
theorem dL_law_1191 : decode cL_law 1191 = .ok (.iload_n 3, 1) := by decide +kernel
theorem dL_law_1192 : decode cL_law 1192 = .ok (.iconst 2, 1) := by decide +kernel
theorem dL_law_1193 : decode cL_law 1193 = .ok (.iadd, 1) := by decide +kernel
theorem dL_law_1194 : decode cL_law 1194 = .ok (.iaload, 1) := by decide +kernel
theorem dL_law_1195 : decode cL_law 1195 = .ok (.aload_n 0, 1) := by decide +kernel
theorem dL_law_1196 : decode cL_law 1196 = .ok (.iload_n 3, 1) := by decide +kernel
theorem dL_law_1197 : decode cL_law 1197 = .ok (.iconst 3, 1) := by decide +kernel
theorem dL_law_1198 : decode cL_law 1198 = .ok (.iadd, 1) := by decide +kernel
theorem dL_law_1199 : decode cL_law 1199 = .ok (.iaload, 1) := by decide +kernel
theorem dL_law_1200 : decode cL_law 1200 = .ok (.invokevirtual 139, 3) := by decide +kernel
theorem dL_law_1203 : decode cL_law 1203 = .ok (.if_icmp .eq 265, 3) := by decide +kernel
theorem dL_law_1206 : decode cL_law 1206 = .ok (.iconst 0, 1) := by decide +kernel
theorem dL_law_1207 : decode cL_law 1207 = .ok (.ireturn, 1) := by decide +kernel
theorem dL_law_1208 : decode cL_law 1208 = .ok (.aload_n 1, 1) := by decide +kernel
theorem dL_law_1209 : decode cL_law 1209 = .ok (.aload_n 0, 1) := by decide +kernel
theorem dL_law_1210 : decode cL_law 1210 = .ok (.iload_n 3, 1) := by decide +kernel
theorem dL_law_1211 : decode cL_law 1211 = .ok (.iconst 1, 1) := by decide +kernel
theorem dL_law_1212 : decode cL_law 1212 = .ok (.iadd, 1) := by decide +kernel
theorem dL_law_1213 : decode cL_law 1213 = .ok (.iaload, 1) := by decide +kernel
theorem dL_law_1214 : decode cL_law 1214 = .ok (.aload_n 0, 1) := by decide +kernel
theorem dL_law_1215 : decode cL_law 1215 = .ok (.iload_n 3, 1) := by decide +kernel
theorem dL_law_1216 : decode cL_law 1216 = .ok (.iconst 2, 1) := by decide +kernel
theorem dL_law_1217 : decode cL_law 1217 = .ok (.iadd, 1) := by decide +kernel
theorem dL_law_1218 : decode cL_law 1218 = .ok (.iaload, 1) := by decide +kernel
theorem dL_law_1219 : decode cL_law 1219 = .ok (.aload_n 0, 1) := by decide +kernel
theorem dL_law_1220 : decode cL_law 1220 = .ok (.iload_n 3, 1) := by decide +kernel
theorem dL_law_1221 : decode cL_law 1221 = .ok (.iconst 3, 1) := by decide +kernel
theorem dL_law_1222 : decode cL_law 1222 = .ok (.iadd, 1) := by decide +kernel
theorem dL_law_1223 : decode cL_law 1223 = .ok (.iaload, 1) := by decide +kernel
theorem dL_law_1224 : decode cL_law 1224 = .ok (.invokevirtual 140, 3) := by decide +kernel
theorem dL_law_1227 : decode cL_law 1227 = .ok (.aload_n 2, 1) := by decide +kernel
theorem dL_law_1228 : decode cL_law 1228 = .ok (.aload_n 0, 1) := by decide +kernel
theorem dL_law_1229 : decode cL_law 1229 = .ok (.iload_n 3, 1) := by decide +kernel
theorem dL_law_1230 : decode cL_law 1230 = .ok (.iconst 1, 1) := by decide +kernel
theorem dL_law_1231 : decode cL_law 1231 = .ok (.iadd, 1) := by decide +kernel
theorem dL_law_1232 : decode cL_law 1232 = .ok (.iaload, 1) := by decide +kernel
theorem dL_law_1233 : decode cL_law 1233 = .ok (.aload_n 0, 1) := by decide +kernel
theorem dL_law_1234 : decode cL_law 1234 = .ok (.iload_n 3, 1) := by decide +kernel
theorem dL_law_1235 : decode cL_law 1235 = .ok (.iconst 2, 1) := by decide +kernel
theorem dL_law_1236 : decode cL_law 1236 = .ok (.iadd, 1) := by decide +kernel
theorem dL_law_1237 : decode cL_law 1237 = .ok (.iaload, 1) := by decide +kernel
theorem dL_law_1238 : decode cL_law 1238 = .ok (.aload_n 0, 1) := by decide +kernel
theorem dL_law_1239 : decode cL_law 1239 = .ok (.iload_n 3, 1) := by decide +kernel
theorem dL_law_1240 : decode cL_law 1240 = .ok (.iconst 3, 1) := by decide +kernel
theorem dL_law_1241 : decode cL_law 1241 = .ok (.iadd, 1) := by decide +kernel
theorem dL_law_1242 : decode cL_law 1242 = .ok (.iaload, 1) := by decide +kernel
theorem dL_law_1243 : decode cL_law 1243 = .ok (.invokevirtual 143, 3) := by decide +kernel
theorem dL_law_1246 : decode cL_law 1246 = .ok (.if_icmp .eq 222, 3) := by decide +kernel
theorem dL_law_1249 : decode cL_law 1249 = .ok (.iconst 0, 1) := by decide +kernel
theorem dL_law_1250 : decode cL_law 1250 = .ok (.ireturn, 1) := by decide +kernel
theorem dL_law_1251 : decode cL_law 1251 = .ok (.aload_n 1, 1) := by decide +kernel
theorem dL_law_1252 : decode cL_law 1252 = .ok (.aload_n 0, 1) := by decide +kernel
theorem dL_law_1253 : decode cL_law 1253 = .ok (.iload_n 3, 1) := by decide +kernel
theorem dL_law_1254 : decode cL_law 1254 = .ok (.iconst 1, 1) := by decide +kernel
theorem dL_law_1255 : decode cL_law 1255 = .ok (.iadd, 1) := by decide +kernel
theorem dL_law_1256 : decode cL_law 1256 = .ok (.iaload, 1) := by decide +kernel
theorem dL_law_1257 : decode cL_law 1257 = .ok (.aload_n 0, 1) := by decide +kernel
theorem dL_law_1258 : decode cL_law 1258 = .ok (.iload_n 3, 1) := by decide +kernel
theorem dL_law_1259 : decode cL_law 1259 = .ok (.iconst 2, 1) := by decide +kernel
theorem dL_law_1260 : decode cL_law 1260 = .ok (.iadd, 1) := by decide +kernel
theorem dL_law_1261 : decode cL_law 1261 = .ok (.iaload, 1) := by decide +kernel
theorem dL_law_1262 : decode cL_law 1262 = .ok (.aload_n 0, 1) := by decide +kernel
theorem dL_law_1263 : decode cL_law 1263 = .ok (.iload_n 3, 1) := by decide +kernel
theorem dL_law_1264 : decode cL_law 1264 = .ok (.iconst 3, 1) := by decide +kernel
theorem dL_law_1265 : decode cL_law 1265 = .ok (.iadd, 1) := by decide +kernel
theorem dL_law_1266 : decode cL_law 1266 = .ok (.iaload, 1) := by decide +kernel
theorem dL_law_1267 : decode cL_law 1267 = .ok (.aload_n 0, 1) := by decide +kernel
theorem dL_law_1268 : decode cL_law 1268 = .ok (.iload_n 3, 1) := by decide +kernel
theorem dL_law_1269 : decode cL_law 1269 = .ok (.iconst 4, 1) := by decide +kernel
theorem dL_law_1270 : decode cL_law 1270 = .ok (.iadd, 1) := by decide +kernel
theorem dL_law_1271 : decode cL_law 1271 = .ok (.iaload, 1) := by decide +kernel
theorem dL_law_1272 : decode cL_law 1272 = .ok (.aload_n 0, 1) := by decide +kernel
theorem dL_law_1273 : decode cL_law 1273 = .ok (.iload_n 3, 1) := by decide +kernel
theorem dL_law_1274 : decode cL_law 1274 = .ok (.iconst 5, 1) := by decide +kernel
theorem dL_law_1275 : decode cL_law 1275 = .ok (.iadd, 1) := by decide +kernel
theorem dL_law_1276 : decode cL_law 1276 = .ok (.iaload, 1) := by decide +kernel
theorem dL_law_1277 : decode cL_law 1277 = .ok (.invokevirtual 144, 3) := by decide +kernel
theorem dL_law_1280 : decode cL_law 1280 = .ok (.aload_n 2, 1) := by decide +kernel
theorem dL_law_1281 : decode cL_law 1281 = .ok (.aload_n 0, 1) := by decide +kernel
theorem dL_law_1282 : decode cL_law 1282 = .ok (.iload_n 3, 1) := by decide +kernel
theorem dL_law_1283 : decode cL_law 1283 = .ok (.iconst 1, 1) := by decide +kernel
theorem dL_law_1284 : decode cL_law 1284 = .ok (.iadd, 1) := by decide +kernel
theorem dL_law_1285 : decode cL_law 1285 = .ok (.iaload, 1) := by decide +kernel
theorem dL_law_1286 : decode cL_law 1286 = .ok (.aload_n 0, 1) := by decide +kernel
theorem dL_law_1287 : decode cL_law 1287 = .ok (.iload_n 3, 1) := by decide +kernel
theorem dL_law_1288 : decode cL_law 1288 = .ok (.iconst 2, 1) := by decide +kernel
theorem dL_law_1289 : decode cL_law 1289 = .ok (.iadd, 1) := by decide +kernel
theorem dL_law_1290 : decode cL_law 1290 = .ok (.iaload, 1) := by decide +kernel
theorem dL_law_1291 : decode cL_law 1291 = .ok (.aload_n 0, 1) := by decide +kernel
theorem dL_law_1292 : decode cL_law 1292 = .ok (.iload_n 3, 1) := by decide +kernel
theorem dL_law_1293 : decode cL_law 1293 = .ok (.iconst 3, 1) := by decide +kernel
theorem dL_law_1294 : decode cL_law 1294 = .ok (.iadd, 1) := by decide +kernel
theorem dL_law_1295 : decode cL_law 1295 = .ok (.iaload, 1) := by decide +kernel
theorem dL_law_1296 : decode cL_law 1296 = .ok (.aload_n 0, 1) := by decide +kernel
theorem dL_law_1297 : decode cL_law 1297 = .ok (.iload_n 3, 1) := by decide +kernel
theorem dL_law_1298 : decode cL_law 1298 = .ok (.iconst 4, 1) := by decide +kernel
theorem dL_law_1299 : decode cL_law 1299 = .ok (.iadd, 1) := by decide +kernel
theorem dL_law_1300 : decode cL_law 1300 = .ok (.iaload, 1) := by decide +kernel
theorem dL_law_1301 : decode cL_law 1301 = .ok (.aload_n 0, 1) := by decide +kernel
theorem dL_law_1302 : decode cL_law 1302 = .ok (.iload_n 3, 1) := by decide +kernel
theorem dL_law_1303 : decode cL_law 1303 = .ok (.iconst 5, 1) := by decide +kernel
theorem dL_law_1304 : decode cL_law 1304 = .ok (.iadd, 1) := by decide +kernel
theorem dL_law_1305 : decode cL_law 1305 = .ok (.iaload, 1) := by decide +kernel
theorem dL_law_1306 : decode cL_law 1306 = .ok (.invokevirtual 148, 3) := by decide +kernel
theorem dL_law_1309 : decode cL_law 1309 = .ok (.if_icmp .eq 159, 3) := by decide +kernel
theorem dL_law_1312 : decode cL_law 1312 = .ok (.iconst 0, 1) := by decide +kernel
theorem dL_law_1313 : decode cL_law 1313 = .ok (.ireturn, 1) := by decide +kernel
theorem dL_law_1314 : decode cL_law 1314 = .ok (.aload_n 1, 1) := by decide +kernel
theorem dL_law_1315 : decode cL_law 1315 = .ok (.aload_n 0, 1) := by decide +kernel
theorem dL_law_1316 : decode cL_law 1316 = .ok (.iload_n 3, 1) := by decide +kernel
theorem dL_law_1317 : decode cL_law 1317 = .ok (.iconst 1, 1) := by decide +kernel
theorem dL_law_1318 : decode cL_law 1318 = .ok (.iadd, 1) := by decide +kernel
theorem dL_law_1319 : decode cL_law 1319 = .ok (.iaload, 1) := by decide +kernel
theorem dL_law_1320 : decode cL_law 1320 = .ok (.invokevirtual 149, 3) := by decide +kernel
theorem dL_law_1323 : decode cL_law 1323 = .ok (.aload_n 2, 1) := by decide +kernel
theorem dL_law_1324 : decode cL_law 1324 = .ok (.aload_n 0, 1) := by decide +kernel
theorem dL_law_1325 : decode cL_law 1325 = .ok (.iload_n 3, 1) := by decide +kernel
theorem dL_law_1326 : decode cL_law 1326 = .ok (.iconst 1, 1) := by decide +kernel
theorem dL_law_1327 : decode cL_law 1327 = .ok (.iadd, 1) := by decide +kernel
theorem dL_law_1328 : decode cL_law 1328 = .ok (.iaload, 1) := by decide +kernel
theorem dL_law_1329 : decode cL_law 1329 = .ok (.invokevirtual 152, 3) := by decide +kernel
theorem dL_law_1332 : decode cL_law 1332 = .ok (.if_icmp .eq 136, 3) := by decide +kernel
theorem dL_law_1335 : decode cL_law 1335 = .ok (.iconst 0, 1) := by decide +kernel
theorem dL_law_1336 : decode cL_law 1336 = .ok (.ireturn, 1) := by decide +kernel
theorem dL_law_1337 : decode cL_law 1337 = .ok (.aload_n 1, 1) := by decide +kernel
theorem dL_law_1338 : decode cL_law 1338 = .ok (.aload_n 0, 1) := by decide +kernel
theorem dL_law_1339 : decode cL_law 1339 = .ok (.iload_n 3, 1) := by decide +kernel
theorem dL_law_1340 : decode cL_law 1340 = .ok (.iconst 1, 1) := by decide +kernel
theorem dL_law_1341 : decode cL_law 1341 = .ok (.iadd, 1) := by decide +kernel
theorem dL_law_1342 : decode cL_law 1342 = .ok (.iaload, 1) := by decide +kernel
theorem dL_law_1343 : decode cL_law 1343 = .ok (.invokevirtual 153, 3) := by decide +kernel
theorem dL_law_1346 : decode cL_law 1346 = .ok (.aload_n 2, 1) := by decide +kernel
theorem dL_law_1347 : decode cL_law 1347 = .ok (.aload_n 0, 1) := by decide +kernel
theorem dL_law_1348 : decode cL_law 1348 = .ok (.iload_n 3, 1) := by decide +kernel
theorem dL_law_1349 : decode cL_law 1349 = .ok (.iconst 1, 1) := by decide +kernel
theorem dL_law_1350 : decode cL_law 1350 = .ok (.iadd, 1) := by decide +kernel
theorem dL_law_1351 : decode cL_law 1351 = .ok (.iaload, 1) := by decide +kernel
theorem dL_law_1352 : decode cL_law 1352 = .ok (.invokevirtual 156, 3) := by decide +kernel
theorem dL_law_1355 : decode cL_law 1355 = .ok (.if_icmp .eq 113, 3) := by decide +kernel
theorem dL_law_1358 : decode cL_law 1358 = .ok (.iconst 0, 1) := by decide +kernel
theorem dL_law_1359 : decode cL_law 1359 = .ok (.ireturn, 1) := by decide +kernel
theorem dL_law_1360 : decode cL_law 1360 = .ok (.aload_n 1, 1) := by decide +kernel
theorem dL_law_1361 : decode cL_law 1361 = .ok (.invokevirtual 157, 3) := by decide +kernel
theorem dL_law_1364 : decode cL_law 1364 = .ok (.aload_n 2, 1) := by decide +kernel
theorem dL_law_1365 : decode cL_law 1365 = .ok (.invokevirtual 161, 3) := by decide +kernel
theorem dL_law_1368 : decode cL_law 1368 = .ok (.if_icmp .eq 100, 3) := by decide +kernel
theorem dL_law_1371 : decode cL_law 1371 = .ok (.iconst 0, 1) := by decide +kernel
theorem dL_law_1372 : decode cL_law 1372 = .ok (.ireturn, 1) := by decide +kernel
theorem dL_law_1373 : decode cL_law 1373 = .ok (.aload_n 1, 1) := by decide +kernel
theorem dL_law_1374 : decode cL_law 1374 = .ok (.invokevirtual 162, 3) := by decide +kernel
theorem dL_law_1377 : decode cL_law 1377 = .ok (.aload_n 2, 1) := by decide +kernel
theorem dL_law_1378 : decode cL_law 1378 = .ok (.invokevirtual 165, 3) := by decide +kernel
theorem dL_law_1381 : decode cL_law 1381 = .ok (.if_icmp .eq 87, 3) := by decide +kernel
theorem dL_law_1384 : decode cL_law 1384 = .ok (.iconst 0, 1) := by decide +kernel
theorem dL_law_1385 : decode cL_law 1385 = .ok (.ireturn, 1) := by decide +kernel
theorem dL_law_1386 : decode cL_law 1386 = .ok (.aload_n 1, 1) := by decide +kernel
theorem dL_law_1387 : decode cL_law 1387 = .ok (.aload_n 0, 1) := by decide +kernel
theorem dL_law_1388 : decode cL_law 1388 = .ok (.iload_n 3, 1) := by decide +kernel
theorem dL_law_1389 : decode cL_law 1389 = .ok (.iconst 1, 1) := by decide +kernel
theorem dL_law_1390 : decode cL_law 1390 = .ok (.iadd, 1) := by decide +kernel
theorem dL_law_1391 : decode cL_law 1391 = .ok (.iaload, 1) := by decide +kernel
theorem dL_law_1392 : decode cL_law 1392 = .ok (.invokevirtual 166, 3) := by decide +kernel
theorem dL_law_1395 : decode cL_law 1395 = .ok (.aload_n 2, 1) := by decide +kernel
theorem dL_law_1396 : decode cL_law 1396 = .ok (.aload_n 0, 1) := by decide +kernel
theorem dL_law_1397 : decode cL_law 1397 = .ok (.iload_n 3, 1) := by decide +kernel
theorem dL_law_1398 : decode cL_law 1398 = .ok (.iconst 1, 1) := by decide +kernel
theorem dL_law_1399 : decode cL_law 1399 = .ok (.iadd, 1) := by decide +kernel
theorem dL_law_1400 : decode cL_law 1400 = .ok (.iaload, 1) := by decide +kernel
theorem dL_law_1401 : decode cL_law 1401 = .ok (.invokevirtual 169, 3) := by decide +kernel
theorem dL_law_1404 : decode cL_law 1404 = .ok (.if_icmp .eq 64, 3) := by decide +kernel
theorem dL_law_1407 : decode cL_law 1407 = .ok (.iconst 0, 1) := by decide +kernel
theorem dL_law_1408 : decode cL_law 1408 = .ok (.ireturn, 1) := by decide +kernel
theorem dL_law_1409 : decode cL_law 1409 = .ok (.aload_n 1, 1) := by decide +kernel
theorem dL_law_1410 : decode cL_law 1410 = .ok (.invokevirtual 170, 3) := by decide +kernel
theorem dL_law_1413 : decode cL_law 1413 = .ok (.aload_n 2, 1) := by decide +kernel
theorem dL_law_1414 : decode cL_law 1414 = .ok (.invokevirtual 173, 3) := by decide +kernel
theorem dL_law_1417 : decode cL_law 1417 = .ok (.if_icmp .eq 51, 3) := by decide +kernel
theorem dL_law_1420 : decode cL_law 1420 = .ok (.iconst 0, 1) := by decide +kernel
theorem dL_law_1421 : decode cL_law 1421 = .ok (.ireturn, 1) := by decide +kernel
theorem dL_law_1422 : decode cL_law 1422 = .ok (.aload_n 1, 1) := by decide +kernel
theorem dL_law_1423 : decode cL_law 1423 = .ok (.aload_n 0, 1) := by decide +kernel
theorem dL_law_1424 : decode cL_law 1424 = .ok (.iload_n 3, 1) := by decide +kernel
theorem dL_law_1425 : decode cL_law 1425 = .ok (.iconst 1, 1) := by decide +kernel
theorem dL_law_1426 : decode cL_law 1426 = .ok (.iadd, 1) := by decide +kernel
theorem dL_law_1427 : decode cL_law 1427 = .ok (.iaload, 1) := by decide +kernel
theorem dL_law_1428 : decode cL_law 1428 = .ok (.invokevirtual 174, 3) := by decide +kernel
theorem dL_law_1431 : decode cL_law 1431 = .ok (.aload_n 2, 1) := by decide +kernel
theorem dL_law_1432 : decode cL_law 1432 = .ok (.aload_n 0, 1) := by decide +kernel
theorem dL_law_1433 : decode cL_law 1433 = .ok (.iload_n 3, 1) := by decide +kernel
theorem dL_law_1434 : decode cL_law 1434 = .ok (.iconst 1, 1) := by decide +kernel
theorem dL_law_1435 : decode cL_law 1435 = .ok (.iadd, 1) := by decide +kernel
theorem dL_law_1436 : decode cL_law 1436 = .ok (.iaload, 1) := by decide +kernel
theorem dL_law_1437 : decode cL_law 1437 = .ok (.invokevirtual 177, 3) := by decide +kernel
theorem dL_law_1440 : decode cL_law 1440 = .ok (.if_icmp .eq 28, 3) := by decide +kernel
theorem dL_law_1443 : decode cL_law 1443 = .ok (.iconst 0, 1) := by decide +kernel
theorem dL_law_1444 : decode cL_law 1444 = .ok (.ireturn, 1) := by decide +kernel
theorem dL_law_1445 : decode cL_law 1445 = .ok (.aload_n 1, 1) := by decide +kernel
theorem dL_law_1446 : decode cL_law 1446 = .ok (.aload_n 0, 1) := by decide +kernel
theorem dL_law_1447 : decode cL_law 1447 = .ok (.iload_n 3, 1) := by decide +kernel
theorem dL_law_1448 : decode cL_law 1448 = .ok (.iconst 1, 1) := by decide +kernel
theorem dL_law_1449 : decode cL_law 1449 = .ok (.iadd, 1) := by decide +kernel
theorem dL_law_1450 : decode cL_law 1450 = .ok (.iaload, 1) := by decide +kernel
theorem dL_law_1451 : decode cL_law 1451 = .ok (.invokevirtual 178, 3) := by decide +kernel
theorem dL_law_1454 : decode cL_law 1454 = .ok (.aload_n 2, 1) := by decide +kernel
theorem dL_law_1455 : decode cL_law 1455 = .ok (.aload_n 0, 1) := by decide +kernel
theorem dL_law_1456 : decode cL_law 1456 = .ok (.iload_n 3, 1) := by decide +kernel
theorem dL_law_1457 : decode cL_law 1457 = .ok (.iconst 1, 1) := by decide +kernel
theorem dL_law_1458 : decode cL_law 1458 = .ok (.iadd, 1) := by decide +kernel
theorem dL_law_1459 : decode cL_law 1459 = .ok (.iaload, 1) := by decide +kernel
theorem dL_law_1460 : decode cL_law 1460 = .ok (.invokevirtual 181, 3) := by decide +kernel
theorem dL_law_1463 : decode cL_law 1463 = .ok (.if_icmp .eq 5, 3) := by decide +kernel
theorem dL_law_1466 : decode cL_law 1466 = .ok (.iconst 0, 1) := by decide +kernel
theorem dL_law_1467 : decode cL_law 1467 = .ok (.ireturn, 1) := by decide +kernel
theorem dL_law_1468 : decode cL_law 1468 = .ok (.iinc 3 6, 3) := by decide +kernel
theorem dL_law_1471 : decode cL_law 1471 = .ok (.goto (-1453), 3) := by decide +kernel
theorem dL_law_1474 : decode cL_law 1474 = .ok (.iconst 1, 1) := by decide +kernel
theorem dL_law_1475 : decode cL_law 1475 = .ok (.ireturn, 1) := by decide +kernel
end
section
/-- links between nest mates that the methods (not the constructors) use -/
def xNestM : List (String × Nat × MethodName × String) := [("OldLight$Bay", 79, yX8_has, "OldLight"), ("OldLight$Chart", 39, yX8_has, "OldLight")]
def xNestF : List (String × Nat × String × String × String × String) := [("OldLight$Speaker", 36, "OldLight", "ABOVE", "[I", "OldLight")]
end
section
/-! ===== the tables' words that keep ===== -/
def xT : List Cond := lw_tbl.filter goodWord
theorem xT_good {w : Cond} (h : w ∈ xT) : (w.onTables && w.keeps) = true ∨ ∃ ty, w = .arrayClass ty := good_of_word (List.mem_filter.mp h).2
theorem xT_in {w : Cond} (h : w ∈ lw_tbl) (hg : goodWord w = true) : w ∈ xT := List.mem_filter.mpr ⟨h, hg⟩
theorem xT_tb {w : Cond} (h : w ∈ tables_1) (hg : goodWord w = true) : w ∈ xT := xT_in (List.mem_append_right _ h) hg
theorem xT_hts {args : Array Value} {s : State} (h : ∀ w ∈ lw_tbl, w.before args s = true) : ∀ w ∈ xT, w.before args s = true := fun w hw => h w (List.mem_filter.mp hw).1
theorem xT_GoodIn {y : MethodName} {cc : ByteArray} {nL : Nat} {ret : Option FieldType} (h : Cond.code y cc nL ret ∈ xT) : GoodIn xT (.code y cc nL ret :: xT) := by
  intro w hw
  rcases List.mem_cons.mp hw with rfl | hw
  · exact ⟨h, xT_good h⟩
  · exact ⟨hw, xT_good hw⟩
/-! ===== a side's world: cells at numbered addresses, of fixed shapes, holding ints ===== -/
abbrev xS : Type := Nat → Nat → Int32
abbrev xSh : Type := Nat ⊕ (Nat × List (Option Nat)) ⊕ List Nat
abbrev xG : Type := va_G × (ClassId × ClassId × String) × (Nat → Nat) × Nat × (Nat → xSh)
def gD (G : xG) : va_G := G.1
def gI (G : xG) : ClassId := G.2.1.1
def gR (G : xG) : ClassId := G.2.1.2.1
def gC (G : xG) : String := G.2.1.2.2
def gA (G : xG) : Nat → Nat := G.2.2.1
def gN (G : xG) : Nat := G.2.2.2.1
def gS (G : xG) : Nat → xSh := G.2.2.2.2
def gT (G : xG) : List (ClassId × FieldType) := [(gI G, .int), (gR G, .object (gC G))]
def gF (G : xG) : Nat → Prop := fun q => ∃ k, k < gN G ∧ gA G k = q
def xV (G : xG) (σ : xS) (k j : Nat) (o : Option Nat) : Value := match o with
  | none => .int (σ k j)
  | some k' => .ref (gA G k')
def xFs (G : xG) (σ : xS) (k : Nat) (fs : List (Option Nat)) : List Value := fs.mapIdx (fun j o => xV G σ k j o)
def xCell (G : xG) (σ : xS) (k : Nat) : va_E := match gS G k with
  | .inl n => .inl (gI G, n, .inl (σ k))
  | .inr (.inl (ci, fs)) => .inr (ci, xFs G σ k fs)
  | .inr (.inr rs) => .inl (gR G, rs.length, .inr (.inr (.inr (.inr (fun j => (rs[j]?).map (gA G))))))
def xW (G : xG) (σ : xS) : va_W := (List.range (gN G)).map (fun k => (gA G k, xCell G σ k))
def xInj (G : xG) : Prop := ∀ i j, i < gN G → j < gN G → gA G i = gA G j → i = j
/-- an int row of a world anew -/
def xup (σ : xS) (k : Nat) (f : Nat → Int32) : xS := fun j => if j = k then f else σ j
theorem xup_s (σ : xS) (k : Nat) (f : Nat → Int32) : xup σ k f k = f := if_pos rfl
theorem xup_n (σ : xS) {k j : Nat} (f : Nat → Int32) (h : j ≠ k) : xup σ k f j = σ j := if_neg h
theorem xW_at {G : xG} {σ : xS} {k : Nat} (hk : k < gN G) : (xW G σ)[k]? = some (gA G k, xCell G σ k) := by
  simp [xW, hk]
theorem xW_atI {G : xG} {σ : xS} {k n : Nat} (hk : k < gN G) (hs : gS G k = .inl n) : (xW G σ)[k]? = some (gA G k, .inl (gI G, n, .inl (σ k))) := by
  rw [xW_at hk]; simp [xCell, hs]
theorem xW_atO {G : xG} {σ : xS} {k ci : Nat} {fs : List (Option Nat)} (hk : k < gN G) (hs : gS G k = .inr (.inl (ci, fs))) : (xW G σ)[k]? = some (gA G k, .inr (ci, xFs G σ k fs)) := by
  rw [xW_at hk]; simp [xCell, hs]
theorem xW_atR {G : xG} {σ : xS} {k : Nat} {rs : List Nat} (hk : k < gN G) (hs : gS G k = .inr (.inr rs)) : (xW G σ)[k]? = some (gA G k, .inl (gR G, rs.length, .inr (.inr (.inr (.inr (fun j => (rs[j]?).map (gA G))))))) := by
  rw [xW_at hk]; simp [xCell, hs]
theorem xFs_at {G : xG} {σ : xS} {k j : Nat} {fs : List (Option Nat)} {o : Option Nat} (h : fs[j]? = some o) : (xFs G σ k fs)[j]? = some (xV G σ k j o) := by
  simp [xFs, List.getElem?_mapIdx, h]
theorem xCell_n {G : xG} {σ : xS} {k j : Nat} (f : Nat → Int32) (h : j ≠ k) : xCell G (xup σ k f) j = xCell G σ j := by
  unfold xCell xFs xV
  rw [xup_n σ f h]
theorem xW_set {G : xG} {σ σ' : xS} {k : Nat} {e : va_E} (hk : k < gN G) (he : xCell G σ' k = e) (ho : ∀ j, j ≠ k → xCell G σ' j = xCell G σ j) : (xW G σ).set k (gA G k, e) = xW G σ' := by
  apply List.ext_getElem?
  intro j
  by_cases hj : j = k
  · subst hj
    rw [List.getElem?_set_self (by simp [xW, hk]), xW_at hk, he]
  · rw [List.getElem?_set_ne (Ne.symm hj)]
    simp only [xW, List.getElem?_map]
    cases h : (List.range (gN G))[j]? with
    | none => rfl
    | some x =>
      have : x = j := by
        have := List.getElem?_eq_some_iff.mp h
        obtain ⟨h1, h2⟩ := this
        simpa using h2.symm
      subst this
      simp [ho x hj]
theorem xW_setI {G : xG} {σ : xS} {k n : Nat} {f : Nat → Int32} (hk : k < gN G) (hs : gS G k = .inl n) : (xW G σ).set k (gA G k, .inl (gI G, n, .inl f)) = xW G (xup σ k f) :=
  xW_set hk (by unfold xCell; rw [hs]; simp [xup_s]) (fun j hj => xCell_n f hj)
theorem xW_setO {G : xG} {σ : xS} {k ci j : Nat} {fs : List (Option Nat)} {x : Int32} (hk : k < gN G) (hs : gS G k = .inr (.inl (ci, fs))) (hj : fs[j]? = some none) : (xW G σ).set k (gA G k, .inr (ci, (xFs G σ k fs).set j (.int x))) = xW G (xup σ k (upd (σ k) j x)) := by
  refine xW_set hk ?_ (fun i hi => xCell_n _ hi)
  unfold xCell
  rw [hs]
  show Sum.inr (ci, xFs G (xup σ k (upd (σ k) j x)) k fs) = _
  congr 2
  apply List.ext_getElem?
  intro i
  by_cases hi : i = j
  · subst hi
    have hl : i < fs.length := (List.getElem?_eq_some_iff.mp hj).1
    rw [List.getElem?_set_self (by simp [xFs, hl]), xFs_at hj]
    simp [xV, xup_s, upd]
  · rw [List.getElem?_set_ne (Ne.symm hi)]
    simp only [xFs, List.getElem?_mapIdx]
    cases fs[i]? with
    | none => rfl
    | some o => cases o <;> simp [xV, xup_s, upd, hi]
theorem xD_of {G : xG} {σ : xS} (h : xInj G) : va_D (gF G) (xW G σ) := by
  refine ⟨fun i j p q hi hj hpq => ?_, fun k q hk => ?_⟩
  · have hi' : i < gN G := by have := (List.getElem?_eq_some_iff.mp hi).1; simpa [xW] using this
    have hj' : j < gN G := by have := (List.getElem?_eq_some_iff.mp hj).1; simpa [xW] using this
    rw [xW_at hi'] at hi
    rw [xW_at hj'] at hj
    cases hi
    cases hj
    exact h i j hi' hj' hpq
  · have hk' : k < gN G := by have := (List.getElem?_eq_some_iff.mp hk).1; simpa [xW] using this
    rw [xW_at hk'] at hk
    cases hk
    exact ⟨k, hk', rfl⟩
/-! ===== what nobody writes: static rows, String constants ===== -/
def xAbove : List Int32 := [0, 0, 0, 0, 1, 2, 3]
def xBodies : List Int32 := [10, 11, 12, 13, 20, 0, 0, 0, 0, 30, 0, 0, 0, 0, 40, 0, 0, 0, 0, 50, 0, 60, 0, 0, 0, 0, 70, 71]
def xNames : List Int32 := [99, 121, 98, 100, 109, 104]
def xTx : List (List Int32) := [[99, 121, 98], [100, 109, 104]]
def xSt (a : Nat → Nat) (A : Nat → Prop) (U : State) (H : Heap) : Prop :=
  (va_Z "OldLight" "ABOVE" "[I" (.ref (a 1000)) A U H ∧ va_T .int (a 1000) 7 (fun j => .int (xAbove.getD j 0)) A U H) ∧
  (va_Z "OldLight$Speaker" "BODIES" "[I" (.ref (a 1001)) A U H ∧ va_T .int (a 1001) 28 (fun j => .int (xBodies.getD j 0)) A U H) ∧
  (va_Z "OldLight$Reader" "NAMES" "[C" (.ref (a 1002)) A U H ∧ va_T .char (a 1002) 6 (fun j => .int (xNames.getD j 0)) A U H) ∧
  va_Z "java/lang/String" "COMPACT_STRINGS" "Z" (.int 1) A U H ∧
  vk_S 2 [3, 3] xTx (fun i => a (1010 + i)) (fun i => a (1020 + i)) A U H
theorem xSt.moved {a : Nat → Nat} {A : Nat → Prop} {u U : State} {H : Heap} (hvm : u.vm.Alike U.vm) (h : xSt a A u H) : xSt a A U H := by
  obtain ⟨⟨h1, h2⟩, ⟨h3, h4⟩, ⟨h5, h6⟩, h7, h8⟩ := h
  exact ⟨⟨h1.moved hvm, h2.moved hvm⟩, ⟨h3.moved hvm, h4.moved hvm⟩, ⟨h5.moved hvm, h6.moved hvm⟩, h7.moved hvm, h8.moved hvm⟩
theorem xSt.kept {a : Nat → Nat} {A : Nat → Prop} {U : State} {H H1 : Heap} (h : xSt a A U H) (hq : ∀ a : Nat, a < H.size → ¬ A a → H1[a]? = H[a]?) : xSt a A U H1 := by
  obtain ⟨⟨h1, h2⟩, ⟨h3, h4⟩, ⟨h5, h6⟩, h7, h8⟩ := h
  exact ⟨⟨h1.kept hq, h2.kept hq⟩, ⟨h3.kept hq, h4.kept hq⟩, ⟨h5.kept hq, h6.kept hq⟩, h7.kept hq, h8.kept hq⟩
theorem xSt.narrow {a : Nat → Nat} {A B : Nat → Prop} {U : State} {H : Heap} (h : xSt a A U H) (hAB : ∀ q, B q → A q) : xSt a B U H := by
  obtain ⟨⟨h1, h2⟩, ⟨h3, h4⟩, ⟨h5, h6⟩, h7, h8⟩ := h
  exact ⟨⟨h1.narrow hAB, h2.narrow hAB⟩, ⟨h3.narrow hAB, h4.narrow hAB⟩, ⟨h5.narrow hAB, h6.narrow hAB⟩, h7.narrow hAB, h8.narrow hAB⟩
/-- words that a call carries on by name: links between nest mates -/
def xNw (U : State) : Prop := (∀ q ∈ xNestM, va_Nw (.methodLinkNest q.1 q.2.1 q.2.2.1 q.2.2.2) U) ∧ ∀ q ∈ xNestF, va_Nw (.fieldLinkNest q.1 q.2.1 q.2.2.1 q.2.2.2.1 q.2.2.2.2.1 q.2.2.2.2.2) U
def xOk (G : xG) (U : State) (H : Heap) : Prop := va_K (gD G) vwCl (gT G) U ∧ xInj G ∧ xSt (gA G) (gF G) U H ∧ xNw U
theorem xOk.go {G : xG} {u U : State} {H H1 : Heap} (h : xOk G u H) (hW : u.WarmedH U.vm) (hq : ∀ a : Nat, a < H.size → ¬ gF G a → H1[a]? = H[a]?) : xOk G U H1 :=
  ⟨h.1.moved hW.alike, h.2.1, (h.2.2.1.moved hW.alike).kept hq, fun q hm => va_Nw.warmM hW (h.2.2.2.1 q hm), fun q hm => va_Nw.warmF hW (h.2.2.2.2 q hm)⟩
theorem xOk.blind {G : xG} {u U : State} {H : Heap} (h : xOk G u H) (hv : u.vm = U.vm) : xOk G U H :=
  have ha : u.vm.Alike U.vm := hv ▸ Vm.Alike.refl u.vm
  ⟨h.1.moved ha, h.2.1, h.2.2.1.moved ha, fun q hm => va_Nw.same rfl hv (h.2.2.2.1 q hm), fun q hm => va_Nw.same rfl hv (h.2.2.2.2 q hm)⟩
def xPic (G : xG) (σ : xS) (H : Heap) : Prop := va_P (gD G) vwCl (xW G σ) H
def xPre (G : xG) (σ : xS) : State → Prop := fun U => xPic G σ U.heap ∧ xOk G U U.heap
def xPost (G : xG) (Φ : Option Value → xS → Prop) : Array Value → State → Outcome → State → Prop := fun _ st oc t => (∃ (v : Option Value) (σ' : xS), oc = .returned v ∧ Φ v σ' ∧ xPic G σ' t.heap) ∧ va_F (gF G) st t
def xRm (n : Nat) : Room := { frames := n, cells := 0, slots := 0, locals := 40 * n }
/-! ===== a method's contract; a walk within a method ===== -/
def xMet (l : Launch) (G : xG) (n : Nat) (y : MethodName) (cc : ByteArray) (nL : Nat) (ret : Option FieldType) (av : List Value) (σ : xS) (Φ : Option Value → xS → Prop) : Prop :=
  Met l y (.code y cc nL ret :: xT) (xRm n) (va_Pc av (xPre G σ)) (xPost G Φ) 0 0 (gF G)
def wk (l : Launch) (G : xG) (n : Nat) (own : String) (cc : ByteArray) (nL : Nat) (ret : Option FieldType) (Φ : Option Value → xS → Prop) (pc : Nat) (lv : List (Nat × Value)) (st : List Value) (σ : xS) : Prop :=
  ∀ (p : Program) (e : Env) (s : State) (m : MethodId) (args : Array Value) (below : List Frame) (meth : Method) (c : Code),
    p.tables.exec = Jvm.exec → c.code = cc → meth.sig.returnType = ret → c.maxLocals = nL → s.vm.findClass own = some m.cls → (∀ w ∈ xT, w.before args s = true) → meth.locks = false → xOk G s s.heap →
    ∀ (H : Heap) (locs : List Loc) (ls : Array Slot), lv_has ls nL lv → xPic G σ H → va_S (gF G) s.heap H locs →
      W p l e (xRm n) s m args below meth c H locs 0 0 (MQ below (xPost G Φ) args s 0 0 (gF G)) (F0 m pc ls st)
theorem xMet.of {l : Launch} {G : xG} {n : Nat} {y : MethodName} {cc : ByteArray} {nL : Nat} {ret : Option FieldType} {av : List Value} {σ : xS} {Φ : Option Value → xS → Prop} (hy : plainName y.cls = true) (hlen : (lg_sl av).length ≤ nL) (h : wk l G n y.cls cc nL ret Φ 0 (lv_args 0 av) [] σ) : xMet l G n y cc nL ret av σ Φ := by
  refine Met.ofW (cc := cc) (maxL := nL) (ret := ret) (ws' := xT) hy rfl ?_
  intro p e s m args below meth c s₁ B hml hv
  obtain ⟨rfl, hP, hO⟩ := hv
  have hts := atoms_spec (ws := .code y cc nL ret :: xT) B.pre
  have hl := lv_entry av (n := nL) hlen
  rw [lg_entry_eq]
  exact h p e s m _ below meth c B.exec B.bytes B.returns hml (findClass_of_methodNamed B.named) (fun w hw => hts w (List.mem_cons_of_mem _ hw)) B.notSynchronized hO s.heap [] _ hl hP va_S.rf
/-! ===== answers ===== -/
def xI (r : Int32) (σ : xS) : Option Value → xS → Prop := fun v t => v = some (.int r) ∧ t = σ
def xU (σ : xS) : Option Value → xS → Prop := fun v t => v = none ∧ t = σ
def xR (G : xG) (k : Nat) (σ : xS) : Option Value → xS → Prop := fun v t => v = some (.ref (gA G k)) ∧ t = σ
def xbind {α β : Type} (o : Option (α × xS)) (k : α → xS → Option β) : Option β := match o with
  | none => none
  | some (x, s) => k x s
theorem xbind_some {α β : Type} {o : Option (α × xS)} {k : α → xS → Option β} {r : β} (h : xbind o k = some r) : ∃ x s, o = some (x, s) ∧ k x s = some r := by
  cases o with
  | none => cases h
  | some q => exact ⟨q.1, q.2, rfl, h⟩
theorem xbind_eq {α β : Type} {o : Option (α × xS)} {k : α → xS → Option β} {x : α} {s : xS} (h : o = some (x, s)) : xbind o k = k x s := by rw [h]; rfl
def xlet {α β : Type} (x : α) (f : α → β) : β := f x
theorem xlet_some {α β : Type} {x : α} {f : α → β} {r : β} (h : xlet x f = r) : ∃ y, y = x ∧ f y = r := ⟨x, rfl, h⟩
/-- a loop: its body gets what goes on with it -/
def xloop {V β : Type} (body : (V → xS → Option β) → V → xS → Option β) : Nat → V → xS → Option β
  | 0 => fun _ _ => none
  | n + 1 => body (xloop body n)
theorem xloop_s {V β : Type} (body : (V → xS → Option β) → V → xS → Option β) (n : Nat) : xloop body (n + 1) = body (xloop body n) := rfl
theorem xloop_0 {V β : Type} {body : (V → xS → Option β) → V → xS → Option β} {v : V} {σ : xS} {r : β} (h : xloop body 0 v σ = some r) : False := by cases h
theorem xif_some {β : Type} {c : Prop} [Decidable c] {A : Option β} {r : β} (h : (if c then A else none) = some r) : c ∧ A = some r := by
  by_cases hc : c
  · rw [if_pos hc] at h; exact ⟨hc, h⟩
  · rw [if_neg hc] at h; cases h
theorem xif_none {β : Type} {c : Prop} [Decidable c] {A : Option β} {r : β} (h : (if c then none else A) = some r) : ¬ c ∧ A = some r := by
  by_cases hc : c
  · rw [if_pos hc] at h; cases h
  · rw [if_neg hc] at h; exact ⟨hc, h⟩
/-- an index within a row of n -/
abbrev xin (i : Int32) (n : Nat) : Prop := 0 ≤ i.toInt ∧ i.toInt < (n : Int)
theorem xin_vp {i : Int32} {n : Nat} (h : xin i n) : vp_in i n := vp_in_iff.mpr h
end
section
theorem wk_iconst {l : Launch} {G : xG} {n : Nat} {own : String} {cc : ByteArray} {nL : Nat} {ret : Option FieldType} {Φ : Option Value → xS → Prop} {pc : Nat} {lv : List (Nat × Value)} {st : List Value} {σ : xS} {z : Int} {v : Int32} (hd : decode cc pc = .ok (.iconst z, 1)) (hv : Int32.ofInt z = v) (kk : wk l G n own cc nL ret Φ (pc + 1) lv (.int v :: st) σ) : wk l G n own cc nL ret Φ pc lv (st) σ := by
  intro p e s m args below meth c hx hb hr hml ho ht hk hO H locs ls hl hP hS
  exact lv_iconst hx hb hd hv (kk p e s m args below meth c hx hb hr hml ho ht hk hO H locs ls hl hP hS)
theorem wk_bipush {l : Launch} {G : xG} {n : Nat} {own : String} {cc : ByteArray} {nL : Nat} {ret : Option FieldType} {Φ : Option Value → xS → Prop} {pc : Nat} {lv : List (Nat × Value)} {st : List Value} {σ : xS} {z : Int} {v : Int32} (hd : decode cc pc = .ok (.bipush z, 2)) (hv : (Int8.ofInt z).toInt32 = v) (kk : wk l G n own cc nL ret Φ (pc + 2) lv (.int v :: st) σ) : wk l G n own cc nL ret Φ pc lv (st) σ := by
  intro p e s m args below meth c hx hb hr hml ho ht hk hO H locs ls hl hP hS
  exact lv_bipush hx hb hd hv (kk p e s m args below meth c hx hb hr hml ho ht hk hO H locs ls hl hP hS)
theorem wk_sipush {l : Launch} {G : xG} {n : Nat} {own : String} {cc : ByteArray} {nL : Nat} {ret : Option FieldType} {Φ : Option Value → xS → Prop} {pc : Nat} {lv : List (Nat × Value)} {st : List Value} {σ : xS} {z : Int} {v : Int32} (hd : decode cc pc = .ok (.sipush z, 3)) (hv : (Int16.ofInt z).toInt32 = v) (kk : wk l G n own cc nL ret Φ (pc + 3) lv (.int v :: st) σ) : wk l G n own cc nL ret Φ pc lv (st) σ := by
  intro p e s m args below meth c hx hb hr hml ho ht hk hO H locs ls hl hP hS
  exact lv_sipush hx hb hd hv (kk p e s m args below meth c hx hb hr hml ho ht hk hO H locs ls hl hP hS)
theorem wk_ldc {l : Launch} {G : xG} {n : Nat} {own : String} {cc : ByteArray} {nL : Nat} {ret : Option FieldType} {Φ : Option Value → xS → Prop} {pc : Nat} {lv : List (Nat × Value)} {st : List Value} {σ : xS} {i : Nat} {v : Int32} (hd : decode cc pc = .ok (.ldc i, 2)) (hw : Cond.constant own i v ∈ xT) (kk : wk l G n own cc nL ret Φ (pc + 2) lv (.int v :: st) σ) : wk l G n own cc nL ret Φ pc lv (st) σ := by
  intro p e s m args below meth c hx hb hr hml ho ht hk hO H locs ls hl hP hS
  exact lv_ldc hx hb ho (ht _ hw) hd (kk p e s m args below meth c hx hb hr hml ho ht hk hO H locs ls hl hP hS)
theorem wk_ldcw {l : Launch} {G : xG} {n : Nat} {own : String} {cc : ByteArray} {nL : Nat} {ret : Option FieldType} {Φ : Option Value → xS → Prop} {pc : Nat} {lv : List (Nat × Value)} {st : List Value} {σ : xS} {i : Nat} {v : Int32} (hd : decode cc pc = .ok (.ldc_w i, 3)) (hw : Cond.constant own i v ∈ xT) (kk : wk l G n own cc nL ret Φ (pc + 3) lv (.int v :: st) σ) : wk l G n own cc nL ret Φ pc lv (st) σ := by
  intro p e s m args below meth c hx hb hr hml ho ht hk hO H locs ls hl hP hS
  exact lv_ldcw hx hb ho (ht _ hw) hd (kk p e s m args below meth c hx hb hr hml ho ht hk hO H locs ls hl hP hS)
theorem wk_ldc2 {l : Launch} {G : xG} {n : Nat} {own : String} {cc : ByteArray} {nL : Nat} {ret : Option FieldType} {Φ : Option Value → xS → Prop} {pc : Nat} {lv : List (Nat × Value)} {st : List Value} {σ : xS} {i : Nat} {v : Int64} (hd : decode cc pc = .ok (.ldc2_w i, 3)) (hw : Cond.constantLong own i v ∈ xT) (kk : wk l G n own cc nL ret Φ (pc + 3) lv (.long v :: st) σ) : wk l G n own cc nL ret Φ pc lv (st) σ := by
  intro p e s m args below meth c hx hb hr hml ho ht hk hO H locs ls hl hP hS
  exact lv_ldc2 hx hb ho (ht _ hw) hd (kk p e s m args below meth c hx hb hr hml ho ht hk hO H locs ls hl hP hS)
theorem wk_iload_n {l : Launch} {G : xG} {n : Nat} {own : String} {cc : ByteArray} {nL : Nat} {ret : Option FieldType} {Φ : Option Value → xS → Prop} {pc : Nat} {lv : List (Nat × Value)} {st : List Value} {σ : xS} {f : Fin 4} {i : Nat} {x : Int32} (hd : decode cc pc = .ok (.iload_n f, 1)) (hi : (f : Nat) = i) (j : Nat) (hj : lv[j]? = some (i, .int x)) (kk : wk l G n own cc nL ret Φ (pc + 1) lv (.int x :: st) σ) : wk l G n own cc nL ret Φ pc lv (st) σ := by
  intro p e s m args below meth c hx hb hr hml ho ht hk hO H locs ls hl hP hS
  exact lv_iload_n hx hb hd hi (lv_at hl j hj) (kk p e s m args below meth c hx hb hr hml ho ht hk hO H locs ls hl hP hS)
theorem wk_iload {l : Launch} {G : xG} {n : Nat} {own : String} {cc : ByteArray} {nL : Nat} {ret : Option FieldType} {Φ : Option Value → xS → Prop} {pc : Nat} {lv : List (Nat × Value)} {st : List Value} {σ : xS} {i : Nat} {x : Int32} (hd : decode cc pc = .ok (.iload i, 2)) (j : Nat) (hj : lv[j]? = some (i, .int x)) (kk : wk l G n own cc nL ret Φ (pc + 2) lv (.int x :: st) σ) : wk l G n own cc nL ret Φ pc lv (st) σ := by
  intro p e s m args below meth c hx hb hr hml ho ht hk hO H locs ls hl hP hS
  exact lv_iload hx hb hd (lv_at hl j hj) (kk p e s m args below meth c hx hb hr hml ho ht hk hO H locs ls hl hP hS)
theorem wk_lload_n {l : Launch} {G : xG} {n : Nat} {own : String} {cc : ByteArray} {nL : Nat} {ret : Option FieldType} {Φ : Option Value → xS → Prop} {pc : Nat} {lv : List (Nat × Value)} {st : List Value} {σ : xS} {f : Fin 4} {i : Nat} {x : Int64} (hd : decode cc pc = .ok (.lload_n f, 1)) (hi : (f : Nat) = i) (j : Nat) (hj : lv[j]? = some (i, .long x)) (kk : wk l G n own cc nL ret Φ (pc + 1) lv (.long x :: st) σ) : wk l G n own cc nL ret Φ pc lv (st) σ := by
  intro p e s m args below meth c hx hb hr hml ho ht hk hO H locs ls hl hP hS
  exact lv_lload_n hx hb hd hi (lv_at hl j hj) (kk p e s m args below meth c hx hb hr hml ho ht hk hO H locs ls hl hP hS)
theorem wk_lload {l : Launch} {G : xG} {n : Nat} {own : String} {cc : ByteArray} {nL : Nat} {ret : Option FieldType} {Φ : Option Value → xS → Prop} {pc : Nat} {lv : List (Nat × Value)} {st : List Value} {σ : xS} {i : Nat} {x : Int64} (hd : decode cc pc = .ok (.lload i, 2)) (j : Nat) (hj : lv[j]? = some (i, .long x)) (kk : wk l G n own cc nL ret Φ (pc + 2) lv (.long x :: st) σ) : wk l G n own cc nL ret Φ pc lv (st) σ := by
  intro p e s m args below meth c hx hb hr hml ho ht hk hO H locs ls hl hP hS
  exact lv_lload hx hb hd (lv_at hl j hj) (kk p e s m args below meth c hx hb hr hml ho ht hk hO H locs ls hl hP hS)
theorem wk_aload_n {l : Launch} {G : xG} {n : Nat} {own : String} {cc : ByteArray} {nL : Nat} {ret : Option FieldType} {Φ : Option Value → xS → Prop} {pc : Nat} {lv : List (Nat × Value)} {st : List Value} {σ : xS} {f : Fin 4} {i : Nat} {x : Nat} (hd : decode cc pc = .ok (.aload_n f, 1)) (hi : (f : Nat) = i) (j : Nat) (hj : lv[j]? = some (i, .ref x)) (kk : wk l G n own cc nL ret Φ (pc + 1) lv (.ref x :: st) σ) : wk l G n own cc nL ret Φ pc lv (st) σ := by
  intro p e s m args below meth c hx hb hr hml ho ht hk hO H locs ls hl hP hS
  exact lv_aload_n hx hb hd hi (lv_at hl j hj) (kk p e s m args below meth c hx hb hr hml ho ht hk hO H locs ls hl hP hS)
theorem wk_aload {l : Launch} {G : xG} {n : Nat} {own : String} {cc : ByteArray} {nL : Nat} {ret : Option FieldType} {Φ : Option Value → xS → Prop} {pc : Nat} {lv : List (Nat × Value)} {st : List Value} {σ : xS} {i : Nat} {x : Nat} (hd : decode cc pc = .ok (.aload i, 2)) (j : Nat) (hj : lv[j]? = some (i, .ref x)) (kk : wk l G n own cc nL ret Φ (pc + 2) lv (.ref x :: st) σ) : wk l G n own cc nL ret Φ pc lv (st) σ := by
  intro p e s m args below meth c hx hb hr hml ho ht hk hO H locs ls hl hP hS
  exact lv_aload hx hb hd (lv_at hl j hj) (kk p e s m args below meth c hx hb hr hml ho ht hk hO H locs ls hl hP hS)
theorem wk_istore_n {l : Launch} {G : xG} {n : Nat} {own : String} {cc : ByteArray} {nL : Nat} {ret : Option FieldType} {Φ : Option Value → xS → Prop} {pc : Nat} {lv : List (Nat × Value)} {st : List Value} {σ : xS} {f : Fin 4} {i : Nat} {x : Int32} {lv' : List (Nat × Value)} (hd : decode cc pc = .ok (.istore_n f, 1)) (hi : (f : Nat) = i) (hn : i < nL) (hf : (i, Value.int x) :: lv.filter (fun q => !(q.1 == i) && !(q.1 + 1 == i && q.2.category == 2)) = lv') (kk : wk l G n own cc nL ret Φ (pc + 1) lv' st σ) : wk l G n own cc nL ret Φ pc lv (.int x :: st) σ := by
  intro p e s m args below meth c hx hb hr hml ho ht hk hO H locs ls hl hP hS
  exact lv_istore_n hx hb hd hi hl hn hf (fun ls hl => kk p e s m args below meth c hx hb hr hml ho ht hk hO H locs ls hl hP hS)
theorem wk_istore {l : Launch} {G : xG} {n : Nat} {own : String} {cc : ByteArray} {nL : Nat} {ret : Option FieldType} {Φ : Option Value → xS → Prop} {pc : Nat} {lv : List (Nat × Value)} {st : List Value} {σ : xS} {i : Nat} {x : Int32} {lv' : List (Nat × Value)} (hd : decode cc pc = .ok (.istore i, 2)) (hn : i < nL) (hf : (i, Value.int x) :: lv.filter (fun q => !(q.1 == i) && !(q.1 + 1 == i && q.2.category == 2)) = lv') (kk : wk l G n own cc nL ret Φ (pc + 2) lv' st σ) : wk l G n own cc nL ret Φ pc lv (.int x :: st) σ := by
  intro p e s m args below meth c hx hb hr hml ho ht hk hO H locs ls hl hP hS
  exact lv_istore hx hb hd hl hn hf (fun ls hl => kk p e s m args below meth c hx hb hr hml ho ht hk hO H locs ls hl hP hS)
theorem wk_astore_n {l : Launch} {G : xG} {n : Nat} {own : String} {cc : ByteArray} {nL : Nat} {ret : Option FieldType} {Φ : Option Value → xS → Prop} {pc : Nat} {lv : List (Nat × Value)} {st : List Value} {σ : xS} {f : Fin 4} {i : Nat} {x : Nat} {lv' : List (Nat × Value)} (hd : decode cc pc = .ok (.astore_n f, 1)) (hi : (f : Nat) = i) (hn : i < nL) (hf : (i, Value.ref x) :: lv.filter (fun q => !(q.1 == i) && !(q.1 + 1 == i && q.2.category == 2)) = lv') (kk : wk l G n own cc nL ret Φ (pc + 1) lv' st σ) : wk l G n own cc nL ret Φ pc lv (.ref x :: st) σ := by
  intro p e s m args below meth c hx hb hr hml ho ht hk hO H locs ls hl hP hS
  exact lv_astore_n hx hb hd hi hl hn hf (fun ls hl => kk p e s m args below meth c hx hb hr hml ho ht hk hO H locs ls hl hP hS)
theorem wk_astore {l : Launch} {G : xG} {n : Nat} {own : String} {cc : ByteArray} {nL : Nat} {ret : Option FieldType} {Φ : Option Value → xS → Prop} {pc : Nat} {lv : List (Nat × Value)} {st : List Value} {σ : xS} {i : Nat} {x : Nat} {lv' : List (Nat × Value)} (hd : decode cc pc = .ok (.astore i, 2)) (hn : i < nL) (hf : (i, Value.ref x) :: lv.filter (fun q => !(q.1 == i) && !(q.1 + 1 == i && q.2.category == 2)) = lv') (kk : wk l G n own cc nL ret Φ (pc + 2) lv' st σ) : wk l G n own cc nL ret Φ pc lv (.ref x :: st) σ := by
  intro p e s m args below meth c hx hb hr hml ho ht hk hO H locs ls hl hP hS
  exact lv_astore hx hb hd hl hn hf (fun ls hl => kk p e s m args below meth c hx hb hr hml ho ht hk hO H locs ls hl hP hS)
theorem wk_iinc {l : Launch} {G : xG} {n : Nat} {own : String} {cc : ByteArray} {nL : Nat} {ret : Option FieldType} {Φ : Option Value → xS → Prop} {pc : Nat} {lv : List (Nat × Value)} {st : List Value} {σ : xS} {i : Nat} {z : Int} {x v : Int32} {lv' : List (Nat × Value)} (hd : decode cc pc = .ok (.iinc i z, 3)) (j : Nat) (hj : lv[j]? = some (i, .int x)) (hv : x + Int32.ofInt z = v) (hn : i < nL) (hf : (i, Value.int v) :: lv.filter (fun q => !(q.1 == i) && !(q.1 + 1 == i && q.2.category == 2)) = lv') (kk : wk l G n own cc nL ret Φ (pc + 3) lv' st σ) : wk l G n own cc nL ret Φ pc lv st σ := by
  intro p e s m args below meth c hx hb hr hml ho ht hk hO H locs ls hl hP hS
  exact lv_iinc hx hb hd hl hj hv hn hf (fun ls hl => kk p e s m args below meth c hx hb hr hml ho ht hk hO H locs ls hl hP hS)
theorem wk_lv {l : Launch} {G : xG} {n : Nat} {own : String} {cc : ByteArray} {nL : Nat} {ret : Option FieldType} {Φ : Option Value → xS → Prop} {pc : Nat} {lv : List (Nat × Value)} {st : List Value} {σ : xS} {lv' : List (Nat × Value)} (is : List Nat) (hf : lv_pick lv is = lv') (kk : wk l G n own cc nL ret Φ pc lv' st σ) : wk l G n own cc nL ret Φ pc lv st σ := by
  intro p e s m args below meth c hx hb hr hml ho ht hk hO H locs ls hl hP hS
  exact kk p e s m args below meth c hx hb hr hml ho ht hk hO H locs ls (lv_sub hl is hf) hP hS
theorem wk_iadd {l : Launch} {G : xG} {n : Nat} {own : String} {cc : ByteArray} {nL : Nat} {ret : Option FieldType} {Φ : Option Value → xS → Prop} {pc : Nat} {lv : List (Nat × Value)} {st : List Value} {σ : xS} {x y : Int32} (hd : decode cc pc = .ok (.iadd, 1))  (kk : wk l G n own cc nL ret Φ (pc + 1) lv (.int (x + y) :: st) σ) : wk l G n own cc nL ret Φ pc lv (.int y :: .int x :: st) σ := by
  intro p e s m args below meth c hx hb hr hml ho ht hk hO H locs ls hl hP hS
  exact lv_iadd hx hb hd (kk p e s m args below meth c hx hb hr hml ho ht hk hO H locs ls hl hP hS)
theorem wk_isub {l : Launch} {G : xG} {n : Nat} {own : String} {cc : ByteArray} {nL : Nat} {ret : Option FieldType} {Φ : Option Value → xS → Prop} {pc : Nat} {lv : List (Nat × Value)} {st : List Value} {σ : xS} {x y : Int32} (hd : decode cc pc = .ok (.isub, 1))  (kk : wk l G n own cc nL ret Φ (pc + 1) lv (.int (x - y) :: st) σ) : wk l G n own cc nL ret Φ pc lv (.int y :: .int x :: st) σ := by
  intro p e s m args below meth c hx hb hr hml ho ht hk hO H locs ls hl hP hS
  exact lv_isub hx hb hd (kk p e s m args below meth c hx hb hr hml ho ht hk hO H locs ls hl hP hS)
theorem wk_imul {l : Launch} {G : xG} {n : Nat} {own : String} {cc : ByteArray} {nL : Nat} {ret : Option FieldType} {Φ : Option Value → xS → Prop} {pc : Nat} {lv : List (Nat × Value)} {st : List Value} {σ : xS} {x y : Int32} (hd : decode cc pc = .ok (.imul, 1))  (kk : wk l G n own cc nL ret Φ (pc + 1) lv (.int (x * y) :: st) σ) : wk l G n own cc nL ret Φ pc lv (.int y :: .int x :: st) σ := by
  intro p e s m args below meth c hx hb hr hml ho ht hk hO H locs ls hl hP hS
  exact lv_imul hx hb hd (kk p e s m args below meth c hx hb hr hml ho ht hk hO H locs ls hl hP hS)
theorem wk_iand {l : Launch} {G : xG} {n : Nat} {own : String} {cc : ByteArray} {nL : Nat} {ret : Option FieldType} {Φ : Option Value → xS → Prop} {pc : Nat} {lv : List (Nat × Value)} {st : List Value} {σ : xS} {x y : Int32} (hd : decode cc pc = .ok (.iand, 1))  (kk : wk l G n own cc nL ret Φ (pc + 1) lv (.int (x &&& y) :: st) σ) : wk l G n own cc nL ret Φ pc lv (.int y :: .int x :: st) σ := by
  intro p e s m args below meth c hx hb hr hml ho ht hk hO H locs ls hl hP hS
  exact lv_iand hx hb hd (kk p e s m args below meth c hx hb hr hml ho ht hk hO H locs ls hl hP hS)
theorem wk_ior {l : Launch} {G : xG} {n : Nat} {own : String} {cc : ByteArray} {nL : Nat} {ret : Option FieldType} {Φ : Option Value → xS → Prop} {pc : Nat} {lv : List (Nat × Value)} {st : List Value} {σ : xS} {x y : Int32} (hd : decode cc pc = .ok (.ior, 1))  (kk : wk l G n own cc nL ret Φ (pc + 1) lv (.int (x ||| y) :: st) σ) : wk l G n own cc nL ret Φ pc lv (.int y :: .int x :: st) σ := by
  intro p e s m args below meth c hx hb hr hml ho ht hk hO H locs ls hl hP hS
  exact lv_ior hx hb hd (kk p e s m args below meth c hx hb hr hml ho ht hk hO H locs ls hl hP hS)
theorem wk_ixor {l : Launch} {G : xG} {n : Nat} {own : String} {cc : ByteArray} {nL : Nat} {ret : Option FieldType} {Φ : Option Value → xS → Prop} {pc : Nat} {lv : List (Nat × Value)} {st : List Value} {σ : xS} {x y : Int32} (hd : decode cc pc = .ok (.ixor, 1))  (kk : wk l G n own cc nL ret Φ (pc + 1) lv (.int (x ^^^ y) :: st) σ) : wk l G n own cc nL ret Φ pc lv (.int y :: .int x :: st) σ := by
  intro p e s m args below meth c hx hb hr hml ho ht hk hO H locs ls hl hP hS
  exact lv_ixor hx hb hd (kk p e s m args below meth c hx hb hr hml ho ht hk hO H locs ls hl hP hS)
theorem wk_ishl {l : Launch} {G : xG} {n : Nat} {own : String} {cc : ByteArray} {nL : Nat} {ret : Option FieldType} {Φ : Option Value → xS → Prop} {pc : Nat} {lv : List (Nat × Value)} {st : List Value} {σ : xS} {x y : Int32} (hd : decode cc pc = .ok (.ishl, 1))  (kk : wk l G n own cc nL ret Φ (pc + 1) lv (.int (x <<< (y &&& 31)) :: st) σ) : wk l G n own cc nL ret Φ pc lv (.int y :: .int x :: st) σ := by
  intro p e s m args below meth c hx hb hr hml ho ht hk hO H locs ls hl hP hS
  exact lv_ishl hx hb hd (kk p e s m args below meth c hx hb hr hml ho ht hk hO H locs ls hl hP hS)
theorem wk_ishr {l : Launch} {G : xG} {n : Nat} {own : String} {cc : ByteArray} {nL : Nat} {ret : Option FieldType} {Φ : Option Value → xS → Prop} {pc : Nat} {lv : List (Nat × Value)} {st : List Value} {σ : xS} {x y : Int32} (hd : decode cc pc = .ok (.ishr, 1))  (kk : wk l G n own cc nL ret Φ (pc + 1) lv (.int (x >>> (y &&& 31)) :: st) σ) : wk l G n own cc nL ret Φ pc lv (.int y :: .int x :: st) σ := by
  intro p e s m args below meth c hx hb hr hml ho ht hk hO H locs ls hl hP hS
  exact lv_ishr hx hb hd (kk p e s m args below meth c hx hb hr hml ho ht hk hO H locs ls hl hP hS)
theorem wk_iushr {l : Launch} {G : xG} {n : Nat} {own : String} {cc : ByteArray} {nL : Nat} {ret : Option FieldType} {Φ : Option Value → xS → Prop} {pc : Nat} {lv : List (Nat × Value)} {st : List Value} {σ : xS} {x y : Int32} (hd : decode cc pc = .ok (.iushr, 1))  (kk : wk l G n own cc nL ret Φ (pc + 1) lv (.int ((x.toUInt32 >>> (y.toUInt32 &&& Int32.toUInt32 31)).toInt32) :: st) σ) : wk l G n own cc nL ret Φ pc lv (.int y :: .int x :: st) σ := by
  intro p e s m args below meth c hx hb hr hml ho ht hk hO H locs ls hl hP hS
  exact lv_iushr hx hb hd rfl (kk p e s m args below meth c hx hb hr hml ho ht hk hO H locs ls hl hP hS)
theorem wk_idiv {l : Launch} {G : xG} {n : Nat} {own : String} {cc : ByteArray} {nL : Nat} {ret : Option FieldType} {Φ : Option Value → xS → Prop} {pc : Nat} {lv : List (Nat × Value)} {st : List Value} {σ : xS} {x y : Int32} (hd : decode cc pc = .ok (.idiv, 1)) (hne : ¬ y = 0) (kk : wk l G n own cc nL ret Φ (pc + 1) lv (.int (x / y) :: st) σ) : wk l G n own cc nL ret Φ pc lv (.int y :: .int x :: st) σ := by
  intro p e s m args below meth c hx hb hr hml ho ht hk hO H locs ls hl hP hS
  exact lv_idiv hx hb hd hne (kk p e s m args below meth c hx hb hr hml ho ht hk hO H locs ls hl hP hS)
theorem wk_irem {l : Launch} {G : xG} {n : Nat} {own : String} {cc : ByteArray} {nL : Nat} {ret : Option FieldType} {Φ : Option Value → xS → Prop} {pc : Nat} {lv : List (Nat × Value)} {st : List Value} {σ : xS} {x y : Int32} (hd : decode cc pc = .ok (.irem, 1)) (hne : ¬ y = 0) (kk : wk l G n own cc nL ret Φ (pc + 1) lv (.int (x - x / y * y) :: st) σ) : wk l G n own cc nL ret Φ pc lv (.int y :: .int x :: st) σ := by
  intro p e s m args below meth c hx hb hr hml ho ht hk hO H locs ls hl hP hS
  exact lv_irem hx hb hd hne (kk p e s m args below meth c hx hb hr hml ho ht hk hO H locs ls hl hP hS)
theorem wk_ineg {l : Launch} {G : xG} {n : Nat} {own : String} {cc : ByteArray} {nL : Nat} {ret : Option FieldType} {Φ : Option Value → xS → Prop} {pc : Nat} {lv : List (Nat × Value)} {st : List Value} {σ : xS} {x : Int32} (hd : decode cc pc = .ok (.ineg, 1))  (kk : wk l G n own cc nL ret Φ (pc + 1) lv (.int (-x) :: st) σ) : wk l G n own cc nL ret Φ pc lv (.int x :: st) σ := by
  intro p e s m args below meth c hx hb hr hml ho ht hk hO H locs ls hl hP hS
  exact lv_ineg hx hb hd (kk p e s m args below meth c hx hb hr hml ho ht hk hO H locs ls hl hP hS)
theorem wk_i2l {l : Launch} {G : xG} {n : Nat} {own : String} {cc : ByteArray} {nL : Nat} {ret : Option FieldType} {Φ : Option Value → xS → Prop} {pc : Nat} {lv : List (Nat × Value)} {st : List Value} {σ : xS} {x : Int32} (hd : decode cc pc = .ok (.i2l, 1))  (kk : wk l G n own cc nL ret Φ (pc + 1) lv (.long x.toInt64 :: st) σ) : wk l G n own cc nL ret Φ pc lv (.int x :: st) σ := by
  intro p e s m args below meth c hx hb hr hml ho ht hk hO H locs ls hl hP hS
  exact lv_i2l hx hb hd rfl (kk p e s m args below meth c hx hb hr hml ho ht hk hO H locs ls hl hP hS)
theorem wk_l2i {l : Launch} {G : xG} {n : Nat} {own : String} {cc : ByteArray} {nL : Nat} {ret : Option FieldType} {Φ : Option Value → xS → Prop} {pc : Nat} {lv : List (Nat × Value)} {st : List Value} {σ : xS} {x : Int64} (hd : decode cc pc = .ok (.l2i, 1))  (kk : wk l G n own cc nL ret Φ (pc + 1) lv (.int x.toInt32 :: st) σ) : wk l G n own cc nL ret Φ pc lv (.long x :: st) σ := by
  intro p e s m args below meth c hx hb hr hml ho ht hk hO H locs ls hl hP hS
  exact lv_l2i hx hb hd rfl (kk p e s m args below meth c hx hb hr hml ho ht hk hO H locs ls hl hP hS)
theorem wk_i2b {l : Launch} {G : xG} {n : Nat} {own : String} {cc : ByteArray} {nL : Nat} {ret : Option FieldType} {Φ : Option Value → xS → Prop} {pc : Nat} {lv : List (Nat × Value)} {st : List Value} {σ : xS} {x : Int32} (hd : decode cc pc = .ok (.i2b, 1))  (kk : wk l G n own cc nL ret Φ (pc + 1) lv (.int x.toInt8.toInt32 :: st) σ) : wk l G n own cc nL ret Φ pc lv (.int x :: st) σ := by
  intro p e s m args below meth c hx hb hr hml ho ht hk hO H locs ls hl hP hS
  exact lv_i2b hx hb hd rfl (kk p e s m args below meth c hx hb hr hml ho ht hk hO H locs ls hl hP hS)
theorem wk_i2s {l : Launch} {G : xG} {n : Nat} {own : String} {cc : ByteArray} {nL : Nat} {ret : Option FieldType} {Φ : Option Value → xS → Prop} {pc : Nat} {lv : List (Nat × Value)} {st : List Value} {σ : xS} {x : Int32} (hd : decode cc pc = .ok (.i2s, 1))  (kk : wk l G n own cc nL ret Φ (pc + 1) lv (.int x.toInt16.toInt32 :: st) σ) : wk l G n own cc nL ret Φ pc lv (.int x :: st) σ := by
  intro p e s m args below meth c hx hb hr hml ho ht hk hO H locs ls hl hP hS
  exact lv_i2s hx hb hd rfl (kk p e s m args below meth c hx hb hr hml ho ht hk hO H locs ls hl hP hS)
theorem wk_i2c {l : Launch} {G : xG} {n : Nat} {own : String} {cc : ByteArray} {nL : Nat} {ret : Option FieldType} {Φ : Option Value → xS → Prop} {pc : Nat} {lv : List (Nat × Value)} {st : List Value} {σ : xS} {x : Int32} (hd : decode cc pc = .ok (.i2c, 1))  (kk : wk l G n own cc nL ret Φ (pc + 1) lv (.int (x.toUInt32 % 65536).toInt32 :: st) σ) : wk l G n own cc nL ret Φ pc lv (.int x :: st) σ := by
  intro p e s m args below meth c hx hb hr hml ho ht hk hO H locs ls hl hP hS
  exact lv_i2c hx hb hd rfl (kk p e s m args below meth c hx hb hr hml ho ht hk hO H locs ls hl hP hS)
theorem wk_ladd {l : Launch} {G : xG} {n : Nat} {own : String} {cc : ByteArray} {nL : Nat} {ret : Option FieldType} {Φ : Option Value → xS → Prop} {pc : Nat} {lv : List (Nat × Value)} {st : List Value} {σ : xS} {x y : Int64} (hd : decode cc pc = .ok (.ladd, 1))  (kk : wk l G n own cc nL ret Φ (pc + 1) lv (.long (x + y) :: st) σ) : wk l G n own cc nL ret Φ pc lv (.long y :: .long x :: st) σ := by
  intro p e s m args below meth c hx hb hr hml ho ht hk hO H locs ls hl hP hS
  exact lv_ladd hx hb hd (kk p e s m args below meth c hx hb hr hml ho ht hk hO H locs ls hl hP hS)
theorem wk_land {l : Launch} {G : xG} {n : Nat} {own : String} {cc : ByteArray} {nL : Nat} {ret : Option FieldType} {Φ : Option Value → xS → Prop} {pc : Nat} {lv : List (Nat × Value)} {st : List Value} {σ : xS} {x y : Int64} (hd : decode cc pc = .ok (.land, 1))  (kk : wk l G n own cc nL ret Φ (pc + 1) lv (.long (x &&& y) :: st) σ) : wk l G n own cc nL ret Φ pc lv (.long y :: .long x :: st) σ := by
  intro p e s m args below meth c hx hb hr hml ho ht hk hO H locs ls hl hP hS
  exact lv_land hx hb hd (kk p e s m args below meth c hx hb hr hml ho ht hk hO H locs ls hl hP hS)
theorem wk_lshr {l : Launch} {G : xG} {n : Nat} {own : String} {cc : ByteArray} {nL : Nat} {ret : Option FieldType} {Φ : Option Value → xS → Prop} {pc : Nat} {lv : List (Nat × Value)} {st : List Value} {σ : xS} {x : Int64} {y : Int32} (hd : decode cc pc = .ok (.lshr, 1))  (kk : wk l G n own cc nL ret Φ (pc + 1) lv (.long (x >>> (y.toInt64 &&& 63)) :: st) σ) : wk l G n own cc nL ret Φ pc lv (.int y :: .long x :: st) σ := by
  intro p e s m args below meth c hx hb hr hml ho ht hk hO H locs ls hl hP hS
  exact lv_lshr hx hb hd rfl (kk p e s m args below meth c hx hb hr hml ho ht hk hO H locs ls hl hP hS)
theorem wk_lushr {l : Launch} {G : xG} {n : Nat} {own : String} {cc : ByteArray} {nL : Nat} {ret : Option FieldType} {Φ : Option Value → xS → Prop} {pc : Nat} {lv : List (Nat × Value)} {st : List Value} {σ : xS} {x : Int64} {y : Int32} (hd : decode cc pc = .ok (.lushr, 1))  (kk : wk l G n own cc nL ret Φ (pc + 1) lv (.long ((x.toUInt64 >>> (y.toInt64.toUInt64 &&& Int64.toUInt64 63)).toInt64) :: st) σ) : wk l G n own cc nL ret Φ pc lv (.int y :: .long x :: st) σ := by
  intro p e s m args below meth c hx hb hr hml ho ht hk hO H locs ls hl hP hS
  exact lv_lushr hx hb hd rfl (kk p e s m args below meth c hx hb hr hml ho ht hk hO H locs ls hl hP hS)
theorem wk_lcmp {l : Launch} {G : xG} {n : Nat} {own : String} {cc : ByteArray} {nL : Nat} {ret : Option FieldType} {Φ : Option Value → xS → Prop} {pc : Nat} {lv : List (Nat × Value)} {st : List Value} {σ : xS} {x y : Int64} (hd : decode cc pc = .ok (.lcmp, 1))  (kk : wk l G n own cc nL ret Φ (pc + 1) lv (.int (lg_cmp x y) :: st) σ) : wk l G n own cc nL ret Φ pc lv (.long y :: .long x :: st) σ := by
  intro p e s m args below meth c hx hb hr hml ho ht hk hO H locs ls hl hP hS
  exact W.lcmp hx hb hd (kk p e s m args below meth c hx hb hr hml ho ht hk hO H locs ls hl hP hS)
theorem wk_dup {l : Launch} {G : xG} {n : Nat} {own : String} {cc : ByteArray} {nL : Nat} {ret : Option FieldType} {Φ : Option Value → xS → Prop} {pc : Nat} {lv : List (Nat × Value)} {st : List Value} {σ : xS} {v : Value} (hd : decode cc pc = .ok (.dup, 1)) (hv : v.category = 1) (kk : wk l G n own cc nL ret Φ (pc + 1) lv (v :: v :: st) σ) : wk l G n own cc nL ret Φ pc lv (v :: st) σ := by
  intro p e s m args below meth c hx hb hr hml ho ht hk hO H locs ls hl hP hS
  exact lv_dup hx hb hd hv (kk p e s m args below meth c hx hb hr hml ho ht hk hO H locs ls hl hP hS)
theorem wk_pop {l : Launch} {G : xG} {n : Nat} {own : String} {cc : ByteArray} {nL : Nat} {ret : Option FieldType} {Φ : Option Value → xS → Prop} {pc : Nat} {lv : List (Nat × Value)} {st : List Value} {σ : xS} {v : Value} (hd : decode cc pc = .ok (.pop, 1)) (hv : v.category = 1) (kk : wk l G n own cc nL ret Φ (pc + 1) lv (st) σ) : wk l G n own cc nL ret Φ pc lv (v :: st) σ := by
  intro p e s m args below meth c hx hb hr hml ho ht hk hO H locs ls hl hP hS
  exact lv_pop hx hb hd hv (kk p e s m args below meth c hx hb hr hml ho ht hk hO H locs ls hl hP hS)
theorem wk_dup2 {l : Launch} {G : xG} {n : Nat} {own : String} {cc : ByteArray} {nL : Nat} {ret : Option FieldType} {Φ : Option Value → xS → Prop} {pc : Nat} {lv : List (Nat × Value)} {st : List Value} {σ : xS} {v w : Value} (hd : decode cc pc = .ok (.dup2, 1)) (hv : v.category = 1) (hw : w.category = 1) (kk : wk l G n own cc nL ret Φ (pc + 1) lv (v :: w :: v :: w :: st) σ) : wk l G n own cc nL ret Φ pc lv (v :: w :: st) σ := by
  intro p e s m args below meth c hx hb hr hml ho ht hk hO H locs ls hl hP hS
  exact lv_dup2_11 hx hb hd hv hw (kk p e s m args below meth c hx hb hr hml ho ht hk hO H locs ls hl hP hS)
theorem wk_goto {l : Launch} {G : xG} {n : Nat} {own : String} {cc : ByteArray} {nL : Nat} {ret : Option FieldType} {Φ : Option Value → xS → Prop} {pc : Nat} {lv : List (Nat × Value)} {st : List Value} {σ : xS} {off : Int} {tgt : Nat} (hd : decode cc pc = .ok (.goto off, 3)) (hg : (pc : Int) + off = (tgt : Int)) (kk : wk l G n own cc nL ret Φ tgt lv st σ) : wk l G n own cc nL ret Φ pc lv st σ := by
  intro p e s m args below meth c hx hb hr hml ho ht hk hO H locs ls hl hP hS
  exact lv_goto hx hb hd hg (kk p e s m args below meth c hx hb hr hml ho ht hk hO H locs ls hl hP hS)
theorem wk_icmp_eq {l : Launch} {G : xG} {n : Nat} {own : String} {cc : ByteArray} {nL : Nat} {ret : Option FieldType} {Φ : Option Value → xS → Prop} {pc : Nat} {lv : List (Nat × Value)} {st : List Value} {σ : xS} {x y : Int32} {β : Type} {A B : Option β} {r : Option β} {off : Int} {tgt : Nat} (hd : decode cc pc = .ok (.if_icmp .eq off, 3)) (hg : (pc : Int) + off = (tgt : Int)) (hf : (if x = y then A else B) = r) (kt : A = r → wk l G n own cc nL ret Φ tgt lv st σ) (kf : B = r → wk l G n own cc nL ret Φ (pc + 3) lv st σ) : wk l G n own cc nL ret Φ pc lv (.int y :: .int x :: st) σ := by
  intro p e s m args below meth c hx hb hr hml ho ht hk hO H locs ls hl hP hS
  refine lv_icmp_eq hx hb hd hg (fun h => ?_) (fun h => ?_)
  · rw [if_pos h] at hf; exact kt hf p e s m args below meth c hx hb hr hml ho ht hk hO H locs ls hl hP hS
  · rw [if_neg h] at hf; exact kf hf p e s m args below meth c hx hb hr hml ho ht hk hO H locs ls hl hP hS
theorem wk_if_eq {l : Launch} {G : xG} {n : Nat} {own : String} {cc : ByteArray} {nL : Nat} {ret : Option FieldType} {Φ : Option Value → xS → Prop} {pc : Nat} {lv : List (Nat × Value)} {st : List Value} {σ : xS} {x : Int32} {β : Type} {A B : Option β} {r : Option β} {off : Int} {tgt : Nat} (hd : decode cc pc = .ok (.ifCond .eq off, 3)) (hg : (pc : Int) + off = (tgt : Int)) (hf : (if x = 0 then A else B) = r) (kt : A = r → wk l G n own cc nL ret Φ tgt lv st σ) (kf : B = r → wk l G n own cc nL ret Φ (pc + 3) lv st σ) : wk l G n own cc nL ret Φ pc lv (.int x :: st) σ := by
  intro p e s m args below meth c hx hb hr hml ho ht hk hO H locs ls hl hP hS
  refine lv_if_eq hx hb hd hg (fun h => ?_) (fun h => ?_)
  · rw [if_pos h] at hf; exact kt hf p e s m args below meth c hx hb hr hml ho ht hk hO H locs ls hl hP hS
  · rw [if_neg h] at hf; exact kf hf p e s m args below meth c hx hb hr hml ho ht hk hO H locs ls hl hP hS
theorem wk_icmp_ne {l : Launch} {G : xG} {n : Nat} {own : String} {cc : ByteArray} {nL : Nat} {ret : Option FieldType} {Φ : Option Value → xS → Prop} {pc : Nat} {lv : List (Nat × Value)} {st : List Value} {σ : xS} {x y : Int32} {β : Type} {A B : Option β} {r : Option β} {off : Int} {tgt : Nat} (hd : decode cc pc = .ok (.if_icmp .ne off, 3)) (hg : (pc : Int) + off = (tgt : Int)) (hf : (if x = y then A else B) = r) (kt : B = r → wk l G n own cc nL ret Φ tgt lv st σ) (kf : A = r → wk l G n own cc nL ret Φ (pc + 3) lv st σ) : wk l G n own cc nL ret Φ pc lv (.int y :: .int x :: st) σ := by
  intro p e s m args below meth c hx hb hr hml ho ht hk hO H locs ls hl hP hS
  refine lv_icmp_ne hx hb hd hg (fun h => ?_) (fun h => ?_)
  · rw [if_neg h] at hf; exact kt hf p e s m args below meth c hx hb hr hml ho ht hk hO H locs ls hl hP hS
  · rw [if_pos h] at hf; exact kf hf p e s m args below meth c hx hb hr hml ho ht hk hO H locs ls hl hP hS
theorem wk_if_ne {l : Launch} {G : xG} {n : Nat} {own : String} {cc : ByteArray} {nL : Nat} {ret : Option FieldType} {Φ : Option Value → xS → Prop} {pc : Nat} {lv : List (Nat × Value)} {st : List Value} {σ : xS} {x : Int32} {β : Type} {A B : Option β} {r : Option β} {off : Int} {tgt : Nat} (hd : decode cc pc = .ok (.ifCond .ne off, 3)) (hg : (pc : Int) + off = (tgt : Int)) (hf : (if x = 0 then A else B) = r) (kt : B = r → wk l G n own cc nL ret Φ tgt lv st σ) (kf : A = r → wk l G n own cc nL ret Φ (pc + 3) lv st σ) : wk l G n own cc nL ret Φ pc lv (.int x :: st) σ := by
  intro p e s m args below meth c hx hb hr hml ho ht hk hO H locs ls hl hP hS
  refine lv_if_ne hx hb hd hg (fun h => ?_) (fun h => ?_)
  · rw [if_neg h] at hf; exact kt hf p e s m args below meth c hx hb hr hml ho ht hk hO H locs ls hl hP hS
  · rw [if_pos h] at hf; exact kf hf p e s m args below meth c hx hb hr hml ho ht hk hO H locs ls hl hP hS
theorem wk_icmp_lt {l : Launch} {G : xG} {n : Nat} {own : String} {cc : ByteArray} {nL : Nat} {ret : Option FieldType} {Φ : Option Value → xS → Prop} {pc : Nat} {lv : List (Nat × Value)} {st : List Value} {σ : xS} {x y : Int32} {β : Type} {A B : Option β} {r : Option β} {off : Int} {tgt : Nat} (hd : decode cc pc = .ok (.if_icmp .lt off, 3)) (hg : (pc : Int) + off = (tgt : Int)) (hf : (if x < y then A else B) = r) (kt : A = r → wk l G n own cc nL ret Φ tgt lv st σ) (kf : B = r → wk l G n own cc nL ret Φ (pc + 3) lv st σ) : wk l G n own cc nL ret Φ pc lv (.int y :: .int x :: st) σ := by
  intro p e s m args below meth c hx hb hr hml ho ht hk hO H locs ls hl hP hS
  refine lv_icmp_lt hx hb hd hg (fun h => ?_) (fun h => ?_)
  · rw [if_pos h] at hf; exact kt hf p e s m args below meth c hx hb hr hml ho ht hk hO H locs ls hl hP hS
  · rw [if_neg h] at hf; exact kf hf p e s m args below meth c hx hb hr hml ho ht hk hO H locs ls hl hP hS
theorem wk_if_lt {l : Launch} {G : xG} {n : Nat} {own : String} {cc : ByteArray} {nL : Nat} {ret : Option FieldType} {Φ : Option Value → xS → Prop} {pc : Nat} {lv : List (Nat × Value)} {st : List Value} {σ : xS} {x : Int32} {β : Type} {A B : Option β} {r : Option β} {off : Int} {tgt : Nat} (hd : decode cc pc = .ok (.ifCond .lt off, 3)) (hg : (pc : Int) + off = (tgt : Int)) (hf : (if x < 0 then A else B) = r) (kt : A = r → wk l G n own cc nL ret Φ tgt lv st σ) (kf : B = r → wk l G n own cc nL ret Φ (pc + 3) lv st σ) : wk l G n own cc nL ret Φ pc lv (.int x :: st) σ := by
  intro p e s m args below meth c hx hb hr hml ho ht hk hO H locs ls hl hP hS
  refine lv_if_lt hx hb hd hg (fun h => ?_) (fun h => ?_)
  · rw [if_pos h] at hf; exact kt hf p e s m args below meth c hx hb hr hml ho ht hk hO H locs ls hl hP hS
  · rw [if_neg h] at hf; exact kf hf p e s m args below meth c hx hb hr hml ho ht hk hO H locs ls hl hP hS
theorem wk_icmp_ge {l : Launch} {G : xG} {n : Nat} {own : String} {cc : ByteArray} {nL : Nat} {ret : Option FieldType} {Φ : Option Value → xS → Prop} {pc : Nat} {lv : List (Nat × Value)} {st : List Value} {σ : xS} {x y : Int32} {β : Type} {A B : Option β} {r : Option β} {off : Int} {tgt : Nat} (hd : decode cc pc = .ok (.if_icmp .ge off, 3)) (hg : (pc : Int) + off = (tgt : Int)) (hf : (if y ≤ x then A else B) = r) (kt : A = r → wk l G n own cc nL ret Φ tgt lv st σ) (kf : B = r → wk l G n own cc nL ret Φ (pc + 3) lv st σ) : wk l G n own cc nL ret Φ pc lv (.int y :: .int x :: st) σ := by
  intro p e s m args below meth c hx hb hr hml ho ht hk hO H locs ls hl hP hS
  refine lv_icmp_ge hx hb hd hg (fun h => ?_) (fun h => ?_)
  · rw [if_pos h] at hf; exact kt hf p e s m args below meth c hx hb hr hml ho ht hk hO H locs ls hl hP hS
  · rw [if_neg h] at hf; exact kf hf p e s m args below meth c hx hb hr hml ho ht hk hO H locs ls hl hP hS
theorem wk_if_ge {l : Launch} {G : xG} {n : Nat} {own : String} {cc : ByteArray} {nL : Nat} {ret : Option FieldType} {Φ : Option Value → xS → Prop} {pc : Nat} {lv : List (Nat × Value)} {st : List Value} {σ : xS} {x : Int32} {β : Type} {A B : Option β} {r : Option β} {off : Int} {tgt : Nat} (hd : decode cc pc = .ok (.ifCond .ge off, 3)) (hg : (pc : Int) + off = (tgt : Int)) (hf : (if 0 ≤ x then A else B) = r) (kt : A = r → wk l G n own cc nL ret Φ tgt lv st σ) (kf : B = r → wk l G n own cc nL ret Φ (pc + 3) lv st σ) : wk l G n own cc nL ret Φ pc lv (.int x :: st) σ := by
  intro p e s m args below meth c hx hb hr hml ho ht hk hO H locs ls hl hP hS
  refine lv_if_ge hx hb hd hg (fun h => ?_) (fun h => ?_)
  · rw [if_pos h] at hf; exact kt hf p e s m args below meth c hx hb hr hml ho ht hk hO H locs ls hl hP hS
  · rw [if_neg h] at hf; exact kf hf p e s m args below meth c hx hb hr hml ho ht hk hO H locs ls hl hP hS
theorem wk_icmp_gt {l : Launch} {G : xG} {n : Nat} {own : String} {cc : ByteArray} {nL : Nat} {ret : Option FieldType} {Φ : Option Value → xS → Prop} {pc : Nat} {lv : List (Nat × Value)} {st : List Value} {σ : xS} {x y : Int32} {β : Type} {A B : Option β} {r : Option β} {off : Int} {tgt : Nat} (hd : decode cc pc = .ok (.if_icmp .gt off, 3)) (hg : (pc : Int) + off = (tgt : Int)) (hf : (if y < x then A else B) = r) (kt : A = r → wk l G n own cc nL ret Φ tgt lv st σ) (kf : B = r → wk l G n own cc nL ret Φ (pc + 3) lv st σ) : wk l G n own cc nL ret Φ pc lv (.int y :: .int x :: st) σ := by
  intro p e s m args below meth c hx hb hr hml ho ht hk hO H locs ls hl hP hS
  refine lv_icmp_gt hx hb hd hg (fun h => ?_) (fun h => ?_)
  · rw [if_pos h] at hf; exact kt hf p e s m args below meth c hx hb hr hml ho ht hk hO H locs ls hl hP hS
  · rw [if_neg h] at hf; exact kf hf p e s m args below meth c hx hb hr hml ho ht hk hO H locs ls hl hP hS
theorem wk_if_gt {l : Launch} {G : xG} {n : Nat} {own : String} {cc : ByteArray} {nL : Nat} {ret : Option FieldType} {Φ : Option Value → xS → Prop} {pc : Nat} {lv : List (Nat × Value)} {st : List Value} {σ : xS} {x : Int32} {β : Type} {A B : Option β} {r : Option β} {off : Int} {tgt : Nat} (hd : decode cc pc = .ok (.ifCond .gt off, 3)) (hg : (pc : Int) + off = (tgt : Int)) (hf : (if 0 < x then A else B) = r) (kt : A = r → wk l G n own cc nL ret Φ tgt lv st σ) (kf : B = r → wk l G n own cc nL ret Φ (pc + 3) lv st σ) : wk l G n own cc nL ret Φ pc lv (.int x :: st) σ := by
  intro p e s m args below meth c hx hb hr hml ho ht hk hO H locs ls hl hP hS
  refine lv_if_gt hx hb hd hg (fun h => ?_) (fun h => ?_)
  · rw [if_pos h] at hf; exact kt hf p e s m args below meth c hx hb hr hml ho ht hk hO H locs ls hl hP hS
  · rw [if_neg h] at hf; exact kf hf p e s m args below meth c hx hb hr hml ho ht hk hO H locs ls hl hP hS
theorem wk_icmp_le {l : Launch} {G : xG} {n : Nat} {own : String} {cc : ByteArray} {nL : Nat} {ret : Option FieldType} {Φ : Option Value → xS → Prop} {pc : Nat} {lv : List (Nat × Value)} {st : List Value} {σ : xS} {x y : Int32} {β : Type} {A B : Option β} {r : Option β} {off : Int} {tgt : Nat} (hd : decode cc pc = .ok (.if_icmp .le off, 3)) (hg : (pc : Int) + off = (tgt : Int)) (hf : (if x ≤ y then A else B) = r) (kt : A = r → wk l G n own cc nL ret Φ tgt lv st σ) (kf : B = r → wk l G n own cc nL ret Φ (pc + 3) lv st σ) : wk l G n own cc nL ret Φ pc lv (.int y :: .int x :: st) σ := by
  intro p e s m args below meth c hx hb hr hml ho ht hk hO H locs ls hl hP hS
  refine lv_icmp_le hx hb hd hg (fun h => ?_) (fun h => ?_)
  · rw [if_pos h] at hf; exact kt hf p e s m args below meth c hx hb hr hml ho ht hk hO H locs ls hl hP hS
  · rw [if_neg h] at hf; exact kf hf p e s m args below meth c hx hb hr hml ho ht hk hO H locs ls hl hP hS
theorem wk_if_le {l : Launch} {G : xG} {n : Nat} {own : String} {cc : ByteArray} {nL : Nat} {ret : Option FieldType} {Φ : Option Value → xS → Prop} {pc : Nat} {lv : List (Nat × Value)} {st : List Value} {σ : xS} {x : Int32} {β : Type} {A B : Option β} {r : Option β} {off : Int} {tgt : Nat} (hd : decode cc pc = .ok (.ifCond .le off, 3)) (hg : (pc : Int) + off = (tgt : Int)) (hf : (if x ≤ 0 then A else B) = r) (kt : A = r → wk l G n own cc nL ret Φ tgt lv st σ) (kf : B = r → wk l G n own cc nL ret Φ (pc + 3) lv st σ) : wk l G n own cc nL ret Φ pc lv (.int x :: st) σ := by
  intro p e s m args below meth c hx hb hr hml ho ht hk hO H locs ls hl hP hS
  refine lv_if_le hx hb hd hg (fun h => ?_) (fun h => ?_)
  · rw [if_pos h] at hf; exact kt hf p e s m args below meth c hx hb hr hml ho ht hk hO H locs ls hl hP hS
  · rw [if_neg h] at hf; exact kf hf p e s m args below meth c hx hb hr hml ho ht hk hO H locs ls hl hP hS
theorem wk_lookup {l : Launch} {G : xG} {n : Nat} {own : String} {cc : ByteArray} {nL : Nat} {ret : Option FieldType} {Φ : Option Value → xS → Prop} {pc : Nat} {lv : List (Nat × Value)} {st : List Value} {σ : xS} {dflt : Int} {ps : Array (Int × Int)} {len : Nat} {x : Int32} {off : Int} {tgt : Nat} (hd : decode cc pc = .ok (.lookupswitch dflt ps, len)) (hp : (ps.toList.zip (ps.toList.drop 1)).all (fun (a, next) => a.1 < next.1) = true) (hoff : Op.lookupswitch.offset ps.toList dflt x.toInt = off) (hg : (pc : Int) + off = (tgt : Int)) (kk : wk l G n own cc nL ret Φ tgt lv st σ) : wk l G n own cc nL ret Φ pc lv (.int x :: st) σ := by
  intro p e s m args below meth c hx hb hr hml ho ht hk hO H locs ls hl hP hS
  exact lv_lookup hx hb hd hp hoff hg (kk p e s m args below meth c hx hb hr hml ho ht hk hO H locs ls hl hP hS)
theorem wk_tableIn {l : Launch} {G : xG} {n : Nat} {own : String} {cc : ByteArray} {nL : Nat} {ret : Option FieldType} {Φ : Option Value → xS → Prop} {pc : Nat} {lv : List (Nat × Value)} {st : List Value} {σ : xS} {dflt lo hi : Int} {offs : Array Int} {len : Nat} {x : Int32} {off : Int} {tgt : Nat} (hd : decode cc pc = .ok (.tableswitch dflt lo hi offs, len)) (v : Int32) (hxv : x = v) (h1 : ¬ v.toInt < lo) (h2 : ¬ hi < v.toInt) (hoff : offs[(v.toInt - lo).toNat]? = some off) (hg : (pc : Int) + off = (tgt : Int)) (kk : wk l G n own cc nL ret Φ tgt lv st σ) : wk l G n own cc nL ret Φ pc lv (.int x :: st) σ := by
  intro p e s m args below meth c hx hb hr hml ho ht hk hO H locs ls hl hP hS
  subst hxv
  exact lv_tableIn hx hb hd h1 h2 hoff hg (kk p e s m args below meth c hx hb hr hml ho ht hk hO H locs ls hl hP hS)
theorem wk_tableOut {l : Launch} {G : xG} {n : Nat} {own : String} {cc : ByteArray} {nL : Nat} {ret : Option FieldType} {Φ : Option Value → xS → Prop} {pc : Nat} {lv : List (Nat × Value)} {st : List Value} {σ : xS} {dflt lo hi : Int} {offs : Array Int} {len : Nat} {x : Int32} {tgt : Nat} (hd : decode cc pc = .ok (.tableswitch dflt lo hi offs, len)) (h : x.toInt < lo ∨ hi < x.toInt) (hg : (pc : Int) + dflt = (tgt : Int)) (kk : wk l G n own cc nL ret Φ tgt lv st σ) : wk l G n own cc nL ret Φ pc lv (.int x :: st) σ := by
  intro p e s m args below meth c hx hb hr hml ho ht hk hO H locs ls hl hP hS
  exact lv_tableOut hx hb hd h hg (kk p e s m args below meth c hx hb hr hml ho ht hk hO H locs ls hl hP hS)
theorem wk_getI {l : Launch} {G : xG} {n : Nat} {own : String} {cc : ByteArray} {nL : Nat} {ret : Option FieldType} {Φ : Option Value → xS → Prop} {pc : Nat} {lv : List (Nat × Value)} {st : List Value} {σ : xS} {C ref : String} {T : u_T} {N ci index k : Nat} {fs : List (Option Nat)} (hd : decode cc pc = .ok (.getfield index, 3)) (hN : k < gN G) (hs : gS G k = .inr (.inl (ci, fs))) (hc : vwCl[ci]? = some (C, T, N)) (hin : ∀ w ∈ u_ws C T N, w ∈ xT) (j : Nat) (hj : j < N) (hw : Cond.fieldLink own index (T j).1 (T j).2.1 (T j).2.2.1 ∈ xT) (hv : fs[j]? = some none) (kk : wk l G n own cc nL ret Φ (pc + 3) lv (.int (σ k j) :: st) σ) : wk l G n own cc nL ret Φ pc lv (.ref (gA G k) :: st) σ := by
  intro p e s m args below meth c hx hb hr hml ho ht hk hO H locs ls hl hP hS
  exact va_get (D := gD G) (ci := ci) (v := .int (σ _ j)) (C := C) (T := T) (N := N) hx hb ht hin ho hO.1 hP _ (xW_atO hN hs) hc j hj (ht _ hw) (fun _ h => h) (xFs_at hv) hd (kk p e s m args below meth c hx hb hr hml ho ht hk hO H locs ls hl hP hS)
theorem wk_getR {l : Launch} {G : xG} {n : Nat} {own : String} {cc : ByteArray} {nL : Nat} {ret : Option FieldType} {Φ : Option Value → xS → Prop} {pc : Nat} {lv : List (Nat × Value)} {st : List Value} {σ : xS} {C ref : String} {T : u_T} {N ci index k : Nat} {fs : List (Option Nat)} (hd : decode cc pc = .ok (.getfield index, 3)) (hN : k < gN G) (hs : gS G k = .inr (.inl (ci, fs))) (hc : vwCl[ci]? = some (C, T, N)) (hin : ∀ w ∈ u_ws C T N, w ∈ xT) (j : Nat) (hj : j < N) (hw : Cond.fieldLink own index (T j).1 (T j).2.1 (T j).2.2.1 ∈ xT) {k' : Nat} (hv : fs[j]? = some (some k')) (kk : wk l G n own cc nL ret Φ (pc + 3) lv (.ref (gA G k') :: st) σ) : wk l G n own cc nL ret Φ pc lv (.ref (gA G k) :: st) σ := by
  intro p e s m args below meth c hx hb hr hml ho ht hk hO H locs ls hl hP hS
  exact va_get (D := gD G) (ci := ci) (v := .ref (gA G k')) (C := C) (T := T) (N := N) hx hb ht hin ho hO.1 hP _ (xW_atO hN hs) hc j hj (ht _ hw) (fun _ h => h) (xFs_at hv) hd (kk p e s m args below meth c hx hb hr hml ho ht hk hO H locs ls hl hP hS)
theorem wk_putI {l : Launch} {G : xG} {n : Nat} {own : String} {cc : ByteArray} {nL : Nat} {ret : Option FieldType} {Φ : Option Value → xS → Prop} {pc : Nat} {lv : List (Nat × Value)} {st : List Value} {σ : xS} {C : String} {T : u_T} {N ci index k : Nat} {fs : List (Option Nat)} (hd : decode cc pc = .ok (.putfield index, 3)) (hN : k < gN G) (hs : gS G k = .inr (.inl (ci, fs))) (hc : vwCl[ci]? = some (C, T, N)) (hin : ∀ w ∈ u_ws C T N, w ∈ xT) (ty0 : Nat → FieldType) (hty : ∀ k, k < N → parseFieldDescriptor (T k).2.2.1 = some (ty0 k)) (hnm : ∀ a, a < N → ∀ b, b < N → a ≠ b → (T a).2.1 ≠ (T b).2.1) (j : Nat) (hj : j < N) (hw : Cond.fieldLink own index (T j).1 (T j).2.1 (T j).2.2.1 ∈ xT) (hfin : (T j).2.2.2 = false) (hv : fs[j]? = some none) {ty : FieldType} (htj : parseFieldDescriptor (T j).2.2.1 = some ty) {x : Int32} (hnr : narrow ty (.int x) = .int x) (hfit : fits ty (.int x) = true) (kk : wk l G n own cc nL ret Φ (pc + 3) lv st (xup σ k (upd (σ k) j x))) : wk l G n own cc nL ret Φ pc lv (.int x :: .ref (gA G k) :: st) σ := by
  intro p e s m args below meth c hx hb hr hml ho ht hk hO H locs ls hl hP hS
  refine va_put (D := gD G) (ci := ci) (v := .int x) (C := C) (T := T) (N := N) hx hb ht hin ty0 hty hnm ho hO.1 hP (xD_of hO.2.1) hS _ (xW_atO hN hs) hc j hj (ht _ hw) (fun _ h => h) hfin htj hnr hfit (by simp only [xFs, List.length_mapIdx]; exact (List.getElem?_eq_some_iff.mp hv).1) hd (fun H1 locs1 hP1 _ hS1 => ?_)
  rw [xW_setO hN hs hv] at hP1
  exact kk p e s m args below meth c hx hb hr hml ho ht hk hO H1 locs1 ls hl hP1 hS1
theorem wk_iald {l : Launch} {G : xG} {n : Nat} {own : String} {cc : ByteArray} {nL : Nat} {ret : Option FieldType} {Φ : Option Value → xS → Prop} {pc : Nat} {lv : List (Nat × Value)} {st : List Value} {σ : xS} {i : Int32} {k z : Nat} (hd : decode cc pc = .ok (.iaload, 1)) (hN : k < gN G) (hs : gS G k = .inl z) (hi : xin i z) (kk : wk l G n own cc nL ret Φ (pc + 1) lv (.int (σ k i.toNatClampNeg) :: st) σ) : wk l G n own cc nL ret Φ pc lv (.int i :: .ref (gA G k) :: st) σ := by
  intro p e s m args below meth c hx hb hr hml ho ht hk hO H locs ls hl hP hS
  exact va_iald hx hb hO.1 hP _ 0 (xW_atI hN hs) rfl (xin_vp hi) hd (kk p e s m args below meth c hx hb hr hml ho ht hk hO H locs ls hl hP hS)
theorem wk_iast {l : Launch} {G : xG} {n : Nat} {own : String} {cc : ByteArray} {nL : Nat} {ret : Option FieldType} {Φ : Option Value → xS → Prop} {pc : Nat} {lv : List (Nat × Value)} {st : List Value} {σ : xS} {i x : Int32} {k z : Nat} (hd : decode cc pc = .ok (.iastore, 1)) (hN : k < gN G) (hs : gS G k = .inl z) (hi : xin i z) (kk : wk l G n own cc nL ret Φ (pc + 1) lv st (xup σ k (upd (σ k) i.toNatClampNeg x))) : wk l G n own cc nL ret Φ pc lv (.int x :: .int i :: .ref (gA G k) :: st) σ := by
  intro p e s m args below meth c hx hb hr hml ho ht hk hO H locs ls hl hP hS
  refine va_iast hx hb hO.1 hP (xD_of hO.2.1) hS _ 0 (xW_atI hN hs) rfl (xin_vp hi) hd (fun H1 locs1 hP1 _ hS1 => ?_)
  rw [xW_setI hN hs] at hP1
  exact kk p e s m args below meth c hx hb hr hml ho ht hk hO H1 locs1 ls hl hP1 hS1
theorem wk_aald {l : Launch} {G : xG} {n : Nat} {own : String} {cc : ByteArray} {nL : Nat} {ret : Option FieldType} {Φ : Option Value → xS → Prop} {pc : Nat} {lv : List (Nat × Value)} {st : List Value} {σ : xS} {i : Int32} {k : Nat} {rs : List Nat} {k' : Nat} (hd : decode cc pc = .ok (.aaload, 1)) (hN : k < gN G) (hs : gS G k = .inr (.inr rs)) (hi : xin i rs.length) (hk' : rs[i.toNatClampNeg]? = some k') (kk : wk l G n own cc nL ret Φ (pc + 1) lv (.ref (gA G k') :: st) σ) : wk l G n own cc nL ret Φ pc lv (.int i :: .ref (gA G k) :: st) σ := by
  intro p e s m args below meth c hx hb hr hml ho ht hk hO H locs ls hl hP hS
  refine va_aldq (C := gC G) hx hb hO.1 hP _ 1 (xW_atR hN hs) rfl (xin_vp hi) hd ?_
  rw [hk']
  exact kk p e s m args below meth c hx hb hr hml ho ht hk hO H locs ls hl hP hS
theorem wk_getsAbove {l : Launch} {G : xG} {n : Nat} {own : String} {cc : ByteArray} {nL : Nat} {ret : Option FieldType} {Φ : Option Value → xS → Prop} {pc : Nat} {lv : List (Nat × Value)} {st : List Value} {σ : xS} {index : Nat} (hd : decode cc pc = .ok (.getstatic index, 3)) (hw : Cond.fieldLink own index "OldLight" "ABOVE" "[I" ∈ xT) (kk : wk l G n own cc nL ret Φ (pc + 3) lv (.ref (gA G 1000) :: st) σ) : wk l G n own cc nL ret Φ pc lv st σ := by
  intro p e s m args below meth c hx hb hr hml ho ht hk hO H locs ls hl hP hS
  exact va_gets hx hb hO.2.2.1.1.1 hS ho (ht _ hw) (fun _ h => h) hd (kk p e s m args below meth c hx hb hr hml ho ht hk hO H locs ls hl hP hS)
theorem wk_tldAbove {l : Launch} {G : xG} {n : Nat} {own : String} {cc : ByteArray} {nL : Nat} {ret : Option FieldType} {Φ : Option Value → xS → Prop} {pc : Nat} {lv : List (Nat × Value)} {st : List Value} {σ : xS} {i : Int32} (hd : decode cc pc = .ok (.iaload, 1)) (hi : xin i 7) (kk : wk l G n own cc nL ret Φ (pc + 1) lv (.int (xAbove.getD i.toNatClampNeg 0) :: st) σ) : wk l G n own cc nL ret Φ pc lv (.int i :: .ref (gA G 1000) :: st) σ := by
  intro p e s m args below meth c hx hb hr hml ho ht hk hO H locs ls hl hP hS
  exact va_ti hx hb hO.2.2.1.1.2 hS (xin_vp hi) rfl hd (kk p e s m args below meth c hx hb hr hml ho ht hk hO H locs ls hl hP hS)
theorem wk_getsBodies {l : Launch} {G : xG} {n : Nat} {own : String} {cc : ByteArray} {nL : Nat} {ret : Option FieldType} {Φ : Option Value → xS → Prop} {pc : Nat} {lv : List (Nat × Value)} {st : List Value} {σ : xS} {index : Nat} (hd : decode cc pc = .ok (.getstatic index, 3)) (hw : Cond.fieldLink own index "OldLight$Speaker" "BODIES" "[I" ∈ xT) (kk : wk l G n own cc nL ret Φ (pc + 3) lv (.ref (gA G 1001) :: st) σ) : wk l G n own cc nL ret Φ pc lv st σ := by
  intro p e s m args below meth c hx hb hr hml ho ht hk hO H locs ls hl hP hS
  exact va_gets hx hb hO.2.2.1.2.1.1 hS ho (ht _ hw) (fun _ h => h) hd (kk p e s m args below meth c hx hb hr hml ho ht hk hO H locs ls hl hP hS)
theorem wk_tldBodies {l : Launch} {G : xG} {n : Nat} {own : String} {cc : ByteArray} {nL : Nat} {ret : Option FieldType} {Φ : Option Value → xS → Prop} {pc : Nat} {lv : List (Nat × Value)} {st : List Value} {σ : xS} {i : Int32} (hd : decode cc pc = .ok (.iaload, 1)) (hi : xin i 28) (kk : wk l G n own cc nL ret Φ (pc + 1) lv (.int (xBodies.getD i.toNatClampNeg 0) :: st) σ) : wk l G n own cc nL ret Φ pc lv (.int i :: .ref (gA G 1001) :: st) σ := by
  intro p e s m args below meth c hx hb hr hml ho ht hk hO H locs ls hl hP hS
  exact va_ti hx hb hO.2.2.1.2.1.2 hS (xin_vp hi) rfl hd (kk p e s m args below meth c hx hb hr hml ho ht hk hO H locs ls hl hP hS)
theorem wk_getsNames {l : Launch} {G : xG} {n : Nat} {own : String} {cc : ByteArray} {nL : Nat} {ret : Option FieldType} {Φ : Option Value → xS → Prop} {pc : Nat} {lv : List (Nat × Value)} {st : List Value} {σ : xS} {index : Nat} (hd : decode cc pc = .ok (.getstatic index, 3)) (hw : Cond.fieldLink own index "OldLight$Reader" "NAMES" "[C" ∈ xT) (kk : wk l G n own cc nL ret Φ (pc + 3) lv (.ref (gA G 1002) :: st) σ) : wk l G n own cc nL ret Φ pc lv st σ := by
  intro p e s m args below meth c hx hb hr hml ho ht hk hO H locs ls hl hP hS
  exact va_gets hx hb hO.2.2.1.2.2.1.1 hS ho (ht _ hw) (fun _ h => h) hd (kk p e s m args below meth c hx hb hr hml ho ht hk hO H locs ls hl hP hS)
theorem wk_tldNames {l : Launch} {G : xG} {n : Nat} {own : String} {cc : ByteArray} {nL : Nat} {ret : Option FieldType} {Φ : Option Value → xS → Prop} {pc : Nat} {lv : List (Nat × Value)} {st : List Value} {σ : xS} {i : Int32} (hd : decode cc pc = .ok (.caload, 1)) (hi : xin i 6) (kk : wk l G n own cc nL ret Φ (pc + 1) lv (.int (xNames.getD i.toNatClampNeg 0) :: st) σ) : wk l G n own cc nL ret Φ pc lv (.int i :: .ref (gA G 1002) :: st) σ := by
  intro p e s m args below meth c hx hb hr hml ho ht hk hO H locs ls hl hP hS
  exact va_tc hx hb hO.2.2.1.2.2.1.2 hS (xin_vp hi) rfl hd (kk p e s m args below meth c hx hb hr hml ho ht hk hO H locs ls hl hP hS)
theorem wk_getsAboveN {l : Launch} {G : xG} {n : Nat} {own : String} {cc : ByteArray} {nL : Nat} {ret : Option FieldType} {Φ : Option Value → xS → Prop} {pc : Nat} {lv : List (Nat × Value)} {st : List Value} {σ : xS} {index : Nat} (hd : decode cc pc = .ok (.getstatic index, 3)) {host : String} (hw : (own, index, "OldLight", "ABOVE", "[I", host) ∈ xNestF) (kk : wk l G n own cc nL ret Φ (pc + 3) lv (.ref (gA G 1000) :: st) σ) : wk l G n own cc nL ret Φ pc lv st σ := by
  intro p e s m args below meth c hx hb hr hml ho ht hk hO H locs ls hl hP hS
  exact va_getsN hx hb hO.2.2.1.1.1 hS ho (va_Nw.use rfl (hO.2.2.2.2 _ hw)) (fun _ h => h) hd (kk p e s m args below meth c hx hb hr hml ho ht hk hO H locs ls hl hP hS)
theorem wk_mmax {l : Launch} {G : xG} {n : Nat} {own : String} {cc : ByteArray} {nL : Nat} {ret : Option FieldType} {Φ : Option Value → xS → Prop} {pc : Nat} {lv : List (Nat × Value)} {st : List Value} {σ : xS} {x y : Int32} {index : Nat} (hd : decode cc pc = .ok (.invokestatic index, 3)) (hw1 : Cond.methodLink own index Lib.Math.max.name ∈ xT) (hw2 : Cond.static Lib.Math.max.name ∈ xT) (hw3 : Cond.initialized "java/lang/Math" ∈ xT) (hw4 : Cond.code Lib.Math.max.name Lib.Math.max.code 2 (some .int) ∈ xT) (hn : 1 ≤ n) (hst : (st.map fun v => v.category).sum ≤ 8) (kk : wk l G n own cc nL ret Φ (pc + 3) lv (.int (if x < y then y else x) :: st) σ) : wk l G n own cc nL ret Φ pc lv (.int y :: .int x :: st) σ := by
  intro p e s m args below meth c hx hb hr hml ho ht hk hO H locs ls hl hP hS
  exact va_mmax hx hb (by rw [hml, hl.1]) ho (ht _ hw1) (ht _ hw2) (ht _ hw3) (ht _ hw4) (by show 1 ≤ n; exact hn) (by show _ ≤ 40 * n; omega) (Nat.le_refl 0) (Nat.le_refl 0) hd (kk p e s m args below meth c hx hb hr hml ho ht hk hO H locs ls hl hP hS)
theorem wk_mmin {l : Launch} {G : xG} {n : Nat} {own : String} {cc : ByteArray} {nL : Nat} {ret : Option FieldType} {Φ : Option Value → xS → Prop} {pc : Nat} {lv : List (Nat × Value)} {st : List Value} {σ : xS} {x y : Int32} {index : Nat} (hd : decode cc pc = .ok (.invokestatic index, 3)) (hw1 : Cond.methodLink own index Lib.Math.min.name ∈ xT) (hw2 : Cond.static Lib.Math.min.name ∈ xT) (hw3 : Cond.initialized "java/lang/Math" ∈ xT) (hw4 : Cond.code Lib.Math.min.name Lib.Math.min.code 2 (some .int) ∈ xT) (hn : 1 ≤ n) (hst : (st.map fun v => v.category).sum ≤ 8) (kk : wk l G n own cc nL ret Φ (pc + 3) lv (.int (if y < x then y else x) :: st) σ) : wk l G n own cc nL ret Φ pc lv (.int y :: .int x :: st) σ := by
  intro p e s m args below meth c hx hb hr hml ho ht hk hO H locs ls hl hP hS
  exact va_mmin hx hb (by rw [hml, hl.1]) ho (ht _ hw1) (ht _ hw2) (ht _ hw3) (ht _ hw4) (by show 1 ≤ n; exact hn) (by show _ ≤ 40 * n; omega) (Nat.le_refl 0) (Nat.le_refl 0) hd (kk p e s m args below meth c hx hb hr hml ho ht hk hO H locs ls hl hP hS)
theorem wk_copyi {l : Launch} {G : xG} {n : Nat} {own : String} {cc : ByteArray} {nL : Nat} {ret : Option FieldType} {Φ : Option Value → xS → Prop} {pc : Nat} {lv : List (Nat × Value)} {st : List Value} {σ : xS} {k0 k1 z0 z1 : Nat} {sp dp z : Int32} {index : Nat} (hd : decode cc pc = .ok (.invokestatic index, 3)) (hw1 : Cond.methodLink own index arraycopyName ∈ xT) (hw2 : Cond.native arraycopyName ∈ xT) (hw3 : Cond.static arraycopyName ∈ xT) (hw4 : Cond.initialized "java/lang/System" ∈ xT) (hN0 : k0 < gN G) (hs0 : gS G k0 = .inl z0) (hN1 : k1 < gN G) (hs1 : gS G k1 = .inl z1) (hn : 2 ≤ n) (hst : (st.map fun v => v.category).sum ≤ 8) (hc : 0 ≤ sp.toInt ∧ 0 ≤ dp.toInt ∧ 0 ≤ z.toInt ∧ sp.toInt + z.toInt ≤ (z0 : Int) ∧ dp.toInt + z.toInt ≤ (z1 : Int)) (kk : wk l G n own cc nL ret Φ (pc + 3) lv st (xup σ k1 (va_cpy (σ k0) (σ k1) sp.toNatClampNeg dp.toNatClampNeg z.toNatClampNeg))) : wk l G n own cc nL ret Φ pc lv (.int z :: .int dp :: .ref (gA G k1) :: .int sp :: .ref (gA G k0) :: st) σ := by
  intro p e s m args below meth c hx hb hr hml ho ht hk hO H locs ls hl hP hS
  have nn : ∀ z : Int32, 0 ≤ z.toInt → ¬ z < 0 := fun z h q => by rw [Int32.lt_iff_toInt_lt] at q; simp at q; omega
  have nc : ∀ z : Int32, 0 ≤ z.toInt → (z.toNatClampNeg : Int) = z.toInt := fun z h => by show (z.toInt.toNat : Int) = _; omega
  obtain ⟨c1, c2, c3, c4, c5⟩ := hc
  have e1 := nc sp c1
  have e2 := nc dp c2
  have e3 := nc z c3
  have q0 : nativeFrameWords "java/lang/System" "arraycopy" 5 + 11 ≤ 60 := by decide +kernel
  have q1 : 1 ≤ (xRm n).frames := by show 1 ≤ n; omega
  have q2 : (st.map fun v => v.category).sum + (nativeFrameWords "java/lang/System" "arraycopy" 5 + 11) ≤ (xRm n).locals := by show _ ≤ 40 * n; omega
  refine va_copyi hx hb (by rw [hml, hl.1]) ho (ht _ hw1) (ht _ hw2) (ht _ hw3) (ht _ hw4) hO.1 hP (xD_of hO.2.1) hS _ _ 0 0 (xW_atI hN0 hs0) (xW_atI hN1 hs1) rfl rfl rfl (nn sp c1) (nn dp c2) (nn z c3) (by omega) (by omega) (fun _ _ => rfl) q1 q2 hd (fun H1 locs1 hP1 _ hS1 => ?_)
  rw [xW_setI hN1 hs1] at hP1
  exact kk p e s m args below meth c hx hb hr hml ho ht hk hO H1 locs1 ls hl hP1 hS1
theorem wk_iret {l : Launch} {G : xG} {n : Nat} {own : String} {cc : ByteArray} {nL : Nat} {ret : Option FieldType} {Φ : Option Value → xS → Prop} {pc : Nat} {lv : List (Nat × Value)} {st : List Value} {σ : xS} {x : Int32} (hd : decode cc pc = .ok (.ireturn, 1)) (hret : ret = some .int) (h : Φ (some (.int x)) σ) : wk l G n own cc nL ret Φ pc lv [.int x] σ := by
  intro p e s m args below meth c hx hb hr hml ho ht hk hO H locs ls hl hP hS
  subst hret
  exact W.iret hx hb hr (fun t htt hW => ⟨⟨_, σ, rfl, h, by rw [htt]; exact hP⟩, hS.F htt⟩) hS.2.2 hd
theorem wk_zret {l : Launch} {G : xG} {n : Nat} {own : String} {cc : ByteArray} {nL : Nat} {ret : Option FieldType} {Φ : Option Value → xS → Prop} {pc : Nat} {lv : List (Nat × Value)} {st : List Value} {σ : xS} {x : Int32} {ty : FieldType} (hd : decode cc pc = .ok (.ireturn, 1)) (hret : ret = some ty) (hnr : narrow ty (.int x) = .int x) (h : Φ (some (.int x)) σ) : wk l G n own cc nL ret Φ pc lv [.int x] σ := by
  intro p e s m args below meth c hx hb hr hml ho ht hk hO H locs ls hl hP hS
  subst hret
  exact W.zret hx hb hr hnr (fun t htt hW => ⟨⟨_, σ, rfl, h, by rw [htt]; exact hP⟩, hS.F htt⟩) hS.2.2 hd
theorem wk_vret {l : Launch} {G : xG} {n : Nat} {own : String} {cc : ByteArray} {nL : Nat} {ret : Option FieldType} {Φ : Option Value → xS → Prop} {pc : Nat} {lv : List (Nat × Value)} {st : List Value} {σ : xS} (hd : decode cc pc = .ok (.return_, 1)) (hret : ret = none) (h : Φ none σ) : wk l G n own cc nL ret Φ pc lv [] σ := by
  intro p e s m args below meth c hx hb hr hml ho ht hk hO H locs ls hl hP hS
  subst hret
  exact W.vret hx hb hr (fun t htt hW => ⟨⟨_, σ, rfl, h, by rw [htt]; exact hP⟩, hS.F htt⟩) hS.2.2 hd
theorem wk_aret {l : Launch} {G : xG} {n : Nat} {own : String} {cc : ByteArray} {nL : Nat} {ret : Option FieldType} {Φ : Option Value → xS → Prop} {pc : Nat} {lv : List (Nat × Value)} {st : List Value} {σ : xS} {a : Nat} {C : String} (hd : decode cc pc = .ok (.areturn, 1)) (hret : ret = some (.object C)) (h : Φ (some (.ref a)) σ) : wk l G n own cc nL ret Φ pc lv [.ref a] σ := by
  intro p e s m args below meth c hx hb hr hml ho ht hk hO H locs ls hl hP hS
  subst hret
  exact W.aret hx hb hr (Or.inl ⟨_, rfl⟩) (Or.inr ⟨_, rfl⟩) (fun t htt hW => ⟨⟨_, σ, rfl, h, by rw [htt]; exact hP⟩, hS.F htt⟩) hS.2.2 hd
end
section
/-! ===== calls ===== -/
theorem x_run {p : Program} {l : Launch} {e : Env} {R : Room} {s : State} {m : MethodId} {args : Array Value} {below : List Frame} {meth : Method} {c : Code} {H : Heap} {locs : List Loc} {Q : State → Prop} {pc : Nat} {ls : Array Slot} {st0 rest : List Value} {G : xG} {Φ : Option Value → xS → Prop} {a : Array Value} {H0 : Heap}
    (hr : va_Run p l e R s m args below meth c H locs 0 0 0 0 (F0 m pc ls st0) rest (xPost G Φ a) (gF G)) (hS : va_S (gF G) H0 H locs)
    (kk : ∀ (v : Option Value) (σ' : xS) (H1 : Heap) (locs1 : List Loc), Φ v σ' → xPic G σ' H1 → va_S (gF G) H0 H1 locs1 → W p l e R s m args below meth c H1 locs1 0 0 Q (F0 m (pc + 3) ls (v.toList ++ rest))) : W p l e R s m args below meth c H locs 0 0 Q (F0 m pc ls st0) := by
  intro T hT X
  obtain ⟨v, st₀, t, T', L, h0, X', hL, e1, e2, ⟨⟨v', σ', hv, hp, hb⟩, hz, hk⟩, st⟩ := hr T hT X
  cases hv
  rw [h0] at hz hk
  obtain ⟨t2, a1, b1⟩ := kk v σ' T'.heap (locs ++ L) hp (by rw [e1]; exact hb)
    ⟨Nat.le_trans hS.1 (by rw [e1]; exact hz), fun q h1 h2 => by rw [e1, hk q (Nat.lt_of_lt_of_le h1 hS.1) h2]; exact hS.2.1 q h1 h2, fun q hq => by
      rcases List.mem_append.mp hq with h | h
      · exact hS.2.2 q h
      · exact hL q h⟩ T' rfl X'
  exact ⟨t2, st t2 a1, b1⟩
theorem x_room {n n' nL : Nat} (h : n' + 1 ≤ n) (hm : nL ≤ 21) : (xRm n').frames + 1 ≤ (xRm n).frames ∧ 8 + (nL + 11) + (xRm n').locals ≤ (xRm n).locals := ⟨h, by show 8 + (nL + 11) + 40 * n' ≤ 40 * n; omega⟩
theorem x_pre {G : xG} {σ : xS} {s : State} {H : Heap} {locs : List Loc} {av : List Value} (hP : xPic G σ H) (hO : xOk G s s.heap) (hS : va_S (gF G) s.heap H locs) : FrameBlind (va_Pc av (xPre G σ)) ∧ ∀ U : State, U.heap = H → s.WarmedH U.vm → va_Pc av (xPre G σ) av.toArray U := by
  refine ⟨fun a U g mk q => ?_, fun U hU hW => ⟨rfl, by rw [hU]; exact hP, by rw [hU]; exact hO.go hW hS.2.1⟩⟩
  obtain ⟨q0, q1, q2⟩ := q
  exact ⟨q0, q1, q2.blind (u := U) (U := U.calling g mk a) rfl⟩
/-- what a call's words are -/
abbrev xC (own : String) (index : Nat) (y : MethodName) (cc : ByteArray) (nL : Nat) (ret : Option FieldType) (k : Nat) : Prop :=
  (y.cls ≠ "java/lang/invoke/MethodHandle" ∧ y.cls ≠ "java/lang/invoke/VarHandle" ∧ (parseMethodDescriptor y.desc).map (fun d => d.parameters.length) = some k) ∧ Cond.code y cc nL ret ∈ xT ∧ Cond.initialized y.cls ∈ xT ∧ nL ≤ 21
abbrev xCV (own : String) (index : Nat) (y : MethodName) (cc : ByteArray) (nL : Nat) (ret : Option FieldType) (k : Nat) : Prop :=
  xC own index y cc nL ret k ∧ Cond.methodLink own index y ∈ xT ∧ Cond.instanceMethod y ∈ xT ∧ Cond.selects y.cls y y ∈ xT
abbrev xCS (own : String) (index : Nat) (y : MethodName) (cc : ByteArray) (nL : Nat) (ret : Option FieldType) (k : Nat) : Prop :=
  xC own index y cc nL ret k ∧ Cond.methodLink own index y ∈ xT ∧ Cond.static y ∈ xT
abbrev xCN (own : String) (index : Nat) (y : MethodName) (cc : ByteArray) (nL : Nat) (ret : Option FieldType) (k : Nat) (host : String) : Prop :=
  xC own index y cc nL ret k ∧ (own, index, y, host) ∈ xNestM ∧ Cond.static y ∈ xT
section WKC
variable {l : Launch} {G : xG} {n : Nat} {own : String} {cc : ByteArray} {nL : Nat} {ret : Option FieldType} {Φ Φ' : Option Value → xS → Prop} {pc : Nat} {lv : List (Nat × Value)} {rest : List Value} {σ : xS} {y : MethodName} {cc' : ByteArray} {nL' n' k index : Nat} {ret' : Option FieldType}
theorem wk_callV {o ci N : Nat} {fs : List (Option Nat)} {C : String} {T : u_T} {As : List Value} (hM : xMet l G n' y cc' nL' ret' (.ref (gA G o) :: As) σ Φ') (cw : xCV own index y cc' nL' ret' k) (hn : n' + 1 ≤ n) (hd : decode cc pc = .ok (.invokevirtual index, 3)) (hN : o < gN G) (hs : gS G o = .inr (.inl (ci, fs))) (hc : vwCl[ci]? = some (C, T, N)) (hC : C = y.cls) (hA : As.length = k) (hst : (rest.map fun v => v.category).sum ≤ 8)
    (kk : ∀ (v : Option Value) (σ' : xS), Φ' v σ' → wk l G n own cc nL ret Φ (pc + 3) lv (v.toList ++ rest) σ') : wk l G n own cc nL ret Φ pc lv (As.reverse ++ .ref (gA G o) :: rest) σ := by
  intro p e s m args below meth c hx hb hr hml ho ht hk hO H locs ls hl hP hS
  obtain ⟨⟨hy, hcode, hini, hm⟩, hw1, hw2, hw3⟩ := cw
  obtain ⟨hpb, hpp⟩ := x_pre (av := .ref (gA G o) :: As) hP hO hS
  subst hC
  refine x_run (va_runV (C := y.cls) (mc := 0) (ms := 0) (n := k) (own := own) (Ts := xT) (nL := nL) (rest := rest) ⟨hx, hb, hml, ho, ht⟩ hM ⟨callB_of k ht (xT_GoodIn hcode) rfl rfl rfl (ht _ hini) (ht _ hw1) hy (x_room hn hm), ht _ hw2, ht _ hw3⟩ ⟨hpb, va_recv hO.1 hP hc (xW_atO hN hs), hpp⟩ rfl hA hl.1 rfl (lv_room hst) hd ⟨Nat.le_refl 0, Nat.le_refl 0⟩) hS (fun v σ' H1 locs1 hΦ hP1 hS1 => ?_)
  exact kk v σ' hΦ p e s m args below meth c hx hb hr hml ho ht hk hO H1 locs1 ls hl hP1 hS1
theorem wk_callS {As : List Value} (hM : xMet l G n' y cc' nL' ret' As σ Φ') (cw : xCS own index y cc' nL' ret' k) (hn : n' + 1 ≤ n) (hd : decode cc pc = .ok (.invokestatic index, 3)) (hA : As.length = k) (hst : (rest.map fun v => v.category).sum ≤ 8)
    (kk : ∀ (v : Option Value) (σ' : xS), Φ' v σ' → wk l G n own cc nL ret Φ (pc + 3) lv (v.toList ++ rest) σ') : wk l G n own cc nL ret Φ pc lv (As.reverse ++ rest) σ := by
  intro p e s m args below meth c hx hb hr hml ho ht hk hO H locs ls hl hP hS
  obtain ⟨⟨hy, hcode, hini, hm⟩, hw1, hw2⟩ := cw
  obtain ⟨hpb, hpp⟩ := x_pre (av := As) hP hO hS
  refine x_run (va_runS (mc := 0) (ms := 0) (n := k) (own := own) (Ts := xT) (nL := nL) (rest := rest) ⟨hx, hb, hml, ho, ht⟩ hM ⟨callB_of k ht (xT_GoodIn hcode) rfl rfl rfl (ht _ hini) (ht _ hw1) hy (x_room hn hm), ht _ hw2⟩ ⟨hpb, hpp⟩ rfl hA hl.1 rfl (lv_room hst) hd ⟨Nat.le_refl 0, Nat.le_refl 0⟩) hS (fun v σ' H1 locs1 hΦ hP1 hS1 => ?_)
  exact kk v σ' hΦ p e s m args below meth c hx hb hr hml ho ht hk hO H1 locs1 ls hl hP1 hS1
theorem wk_callSN {As : List Value} {host : String} (hM : xMet l G n' y cc' nL' ret' As σ Φ') (cw : xCN own index y cc' nL' ret' k host) (hn : n' + 1 ≤ n) (hd : decode cc pc = .ok (.invokestatic index, 3)) (hA : As.length = k) (hst : (rest.map fun v => v.category).sum ≤ 8)
    (kk : ∀ (v : Option Value) (σ' : xS), Φ' v σ' → wk l G n own cc nL ret Φ (pc + 3) lv (v.toList ++ rest) σ') : wk l G n own cc nL ret Φ pc lv (As.reverse ++ rest) σ := by
  intro p e s m args below meth c hx hb hr hml ho ht hk hO H locs ls hl hP hS
  obtain ⟨⟨hy, hcode, hini, hm⟩, hw1, hw2⟩ := cw
  obtain ⟨hpb, hpp⟩ := x_pre (av := As) hP hO hS
  refine x_run (va_runSN (mc := 0) (ms := 0) (n := k) (own := own) (Ts := xT) (nL := nL) (rest := rest) ⟨hx, hb, hml, ho, ht⟩ hM ⟨va_cnB (ws' := xT) k ht (xT_GoodIn hcode) rfl rfl rfl (hO.2.2.2.1 _ hw1) (ht _ hini) hy (x_room hn hm), ht _ hw2, trivial⟩ ⟨hpb, hpp⟩ rfl hA hl.1 rfl (lv_room hst) hd ⟨Nat.le_refl 0, Nat.le_refl 0⟩) hS (fun v σ' H1 locs1 hΦ hP1 hS1 => ?_)
  exact kk v σ' hΦ p e s m args below meth c hx hb hr hml ho ht hk hO H1 locs1 ls hl hP1 hS1
end WKC
end
