section
-- ===== PART A: goes FIRST, ahead of the names: the tables' words, and 'selects' of the private methods out of them =====
/-- a private method of a class that the tables say can be made, by its rows of tables_1 -/
def lw_okq (q : MethodName × Nat) : Prop := (q.1.cls ≠ "java/lang/invoke/MethodHandle" ∧ q.1.cls ≠ "java/lang/invoke/VarHandle") ∧ Cond.instantiable q.1.cls q.2 ∈ tables_1 ∧ Cond.privateMethod q.1 ∈ tables_1 ∧ Cond.instanceMethod q.1 ∈ tables_1
theorem lw_p0 : lw_okq (⟨"CoastLights", "refuse", "(I)I"⟩, 19) := ⟨⟨by decide +kernel, by decide +kernel⟩, List.mem_of_getElem? (i := 15) (by decide +kernel), List.mem_of_getElem? (i := 299) (by decide +kernel), List.mem_of_getElem? (i := 300) (by decide +kernel)⟩
theorem lw_p1 : lw_okq (⟨"CoastLights$Text", "readRhythm", "()Z"⟩, 9) := ⟨⟨by decide +kernel, by decide +kernel⟩, List.mem_of_getElem? (i := 23) (by decide +kernel), List.mem_of_getElem? (i := 323) (by decide +kernel), List.mem_of_getElem? (i := 324) (by decide +kernel)⟩
theorem lw_p2 : lw_okq (⟨"CoastLights$Text", "takes", "(C)Z"⟩, 9) := ⟨⟨by decide +kernel, by decide +kernel⟩, List.mem_of_getElem? (i := 23) (by decide +kernel), List.mem_of_getElem? (i := 327) (by decide +kernel), List.mem_of_getElem? (i := 328) (by decide +kernel)⟩
theorem lw_p3 : lw_okq (⟨"CoastLights$Text", "readTimes", "()Z"⟩, 9) := ⟨⟨by decide +kernel, by decide +kernel⟩, List.mem_of_getElem? (i := 23) (by decide +kernel), List.mem_of_getElem? (i := 331) (by decide +kernel), List.mem_of_getElem? (i := 332) (by decide +kernel)⟩
theorem lw_p4 : lw_okq (⟨"CoastLights$Text", "readNumber", "()Z"⟩, 9) := ⟨⟨by decide +kernel, by decide +kernel⟩, List.mem_of_getElem? (i := 23) (by decide +kernel), List.mem_of_getElem? (i := 335) (by decide +kernel), List.mem_of_getElem? (i := 336) (by decide +kernel)⟩
theorem lw_p5 : lw_okq (⟨"CoastLights$Text", "isDigit", "()Z"⟩, 9) := ⟨⟨by decide +kernel, by decide +kernel⟩, List.mem_of_getElem? (i := 23) (by decide +kernel), List.mem_of_getElem? (i := 339) (by decide +kernel), List.mem_of_getElem? (i := 340) (by decide +kernel)⟩
theorem lw_p6 : lw_okq (⟨"CoastLights$Text", "readColour", "()Z"⟩, 9) := ⟨⟨by decide +kernel, by decide +kernel⟩, List.mem_of_getElem? (i := 23) (by decide +kernel), List.mem_of_getElem? (i := 343) (by decide +kernel), List.mem_of_getElem? (i := 344) (by decide +kernel)⟩
theorem lw_p7 : lw_okq (⟨"CoastLights$Text", "readPeriod", "()Z"⟩, 9) := ⟨⟨by decide +kernel, by decide +kernel⟩, List.mem_of_getElem? (i := 23) (by decide +kernel), List.mem_of_getElem? (i := 347) (by decide +kernel), List.mem_of_getElem? (i := 348) (by decide +kernel)⟩
theorem lw_p8 : lw_okq (⟨"CoastLights$Text", "goesIn", "()Z"⟩, 9) := ⟨⟨by decide +kernel, by decide +kernel⟩, List.mem_of_getElem? (i := 23) (by decide +kernel), List.mem_of_getElem? (i := 351) (by decide +kernel), List.mem_of_getElem? (i := 352) (by decide +kernel)⟩
theorem lw_p9 : lw_okq (⟨"CoastLights", "remember", "(III)LCoastLights$Step;"⟩, 19) := ⟨⟨by decide +kernel, by decide +kernel⟩, List.mem_of_getElem? (i := 15) (by decide +kernel), List.mem_of_getElem? (i := 355) (by decide +kernel), List.mem_of_getElem? (i := 356) (by decide +kernel)⟩
theorem lw_p10 : lw_okq (⟨"CoastLights", "forgetFound", "()V"⟩, 19) := ⟨⟨by decide +kernel, by decide +kernel⟩, List.mem_of_getElem? (i := 15) (by decide +kernel), List.mem_of_getElem? (i := 359) (by decide +kernel), List.mem_of_getElem? (i := 360) (by decide +kernel)⟩
theorem lw_p11 : lw_okq (⟨"CoastLights", "isLight", "(I)Z"⟩, 19) := ⟨⟨by decide +kernel, by decide +kernel⟩, List.mem_of_getElem? (i := 15) (by decide +kernel), List.mem_of_getElem? (i := 391) (by decide +kernel), List.mem_of_getElem? (i := 392) (by decide +kernel)⟩
theorem lw_p12 : lw_okq (⟨"CoastLights", "seenFrom", "(I)I"⟩, 19) := ⟨⟨by decide +kernel, by decide +kernel⟩, List.mem_of_getElem? (i := 15) (by decide +kernel), List.mem_of_getElem? (i := 460) (by decide +kernel), List.mem_of_getElem? (i := 461) (by decide +kernel)⟩
theorem lw_p13 : lw_okq (⟨"CoastLights", "reachOf", "(LCoastLights$Light;)I"⟩, 19) := ⟨⟨by decide +kernel, by decide +kernel⟩, List.mem_of_getElem? (i := 15) (by decide +kernel), List.mem_of_getElem? (i := 464) (by decide +kernel), List.mem_of_getElem? (i := 465) (by decide +kernel)⟩
theorem lw_p14 : lw_okq (⟨"CoastLights", "allLights", "()I"⟩, 19) := ⟨⟨by decide +kernel, by decide +kernel⟩, List.mem_of_getElem? (i := 15) (by decide +kernel), List.mem_of_getElem? (i := 499) (by decide +kernel), List.mem_of_getElem? (i := 500) (by decide +kernel)⟩
theorem lw_p15 : lw_okq (⟨"CoastLights", "findFix", "()V"⟩, 19) := ⟨⟨by decide +kernel, by decide +kernel⟩, List.mem_of_getElem? (i := 15) (by decide +kernel), List.mem_of_getElem? (i := 534) (by decide +kernel), List.mem_of_getElem? (i := 535) (by decide +kernel)⟩
def lw_privs_1 : List (MethodName × Nat) := [(⟨"CoastLights", "refuse", "(I)I"⟩, 19), (⟨"CoastLights$Text", "readRhythm", "()Z"⟩, 9), (⟨"CoastLights$Text", "takes", "(C)Z"⟩, 9), (⟨"CoastLights$Text", "readTimes", "()Z"⟩, 9), (⟨"CoastLights$Text", "readNumber", "()Z"⟩, 9), (⟨"CoastLights$Text", "isDigit", "()Z"⟩, 9), (⟨"CoastLights$Text", "readColour", "()Z"⟩, 9), (⟨"CoastLights$Text", "readPeriod", "()Z"⟩, 9), (⟨"CoastLights$Text", "goesIn", "()Z"⟩, 9), (⟨"CoastLights", "remember", "(III)LCoastLights$Step;"⟩, 19), (⟨"CoastLights", "forgetFound", "()V"⟩, 19), (⟨"CoastLights", "isLight", "(I)Z"⟩, 19), (⟨"CoastLights", "seenFrom", "(I)I"⟩, 19), (⟨"CoastLights", "reachOf", "(LCoastLights$Light;)I"⟩, 19), (⟨"CoastLights", "allLights", "()I"⟩, 19), (⟨"CoastLights", "findFix", "()V"⟩, 19)]
theorem lw_r1 : ∀ q ∈ lw_privs_1, lw_okq q := List.forall_mem_cons.mpr ⟨lw_p0, List.forall_mem_cons.mpr ⟨lw_p1, List.forall_mem_cons.mpr ⟨lw_p2, List.forall_mem_cons.mpr ⟨lw_p3, List.forall_mem_cons.mpr ⟨lw_p4, List.forall_mem_cons.mpr ⟨lw_p5, List.forall_mem_cons.mpr ⟨lw_p6, List.forall_mem_cons.mpr ⟨lw_p7, List.forall_mem_cons.mpr ⟨lw_p8, List.forall_mem_cons.mpr ⟨lw_p9, List.forall_mem_cons.mpr ⟨lw_p10, List.forall_mem_cons.mpr ⟨lw_p11, List.forall_mem_cons.mpr ⟨lw_p12, List.forall_mem_cons.mpr ⟨lw_p13, List.forall_mem_cons.mpr ⟨lw_p14, List.forall_mem_cons.mpr ⟨lw_p15, fun _ h => absurd h List.not_mem_nil⟩⟩⟩⟩⟩⟩⟩⟩⟩⟩⟩⟩⟩⟩⟩⟩
theorem lw_p16 : lw_okq (⟨"CoastLights", "holdsForAll", "(I)Z"⟩, 19) := ⟨⟨by decide +kernel, by decide +kernel⟩, List.mem_of_getElem? (i := 15) (by decide +kernel), List.mem_of_getElem? (i := 538) (by decide +kernel), List.mem_of_getElem? (i := 539) (by decide +kernel)⟩
theorem lw_p17 : lw_okq (⟨"CoastLights", "holdsFor", "(ILCoastLights$Light;I)Z"⟩, 19) := ⟨⟨by decide +kernel, by decide +kernel⟩, List.mem_of_getElem? (i := 15) (by decide +kernel), List.mem_of_getElem? (i := 543) (by decide +kernel), List.mem_of_getElem? (i := 544) (by decide +kernel)⟩
theorem lw_p18 : lw_okq (⟨"CoastLights", "placeInFairway", "(I)I"⟩, 19) := ⟨⟨by decide +kernel, by decide +kernel⟩, List.mem_of_getElem? (i := 15) (by decide +kernel), List.mem_of_getElem? (i := 559) (by decide +kernel), List.mem_of_getElem? (i := 560) (by decide +kernel)⟩
theorem lw_p19 : lw_okq (⟨"CoastLights", "setFairway", "(IZ)V"⟩, 19) := ⟨⟨by decide +kernel, by decide +kernel⟩, List.mem_of_getElem? (i := 15) (by decide +kernel), List.mem_of_getElem? (i := 563) (by decide +kernel), List.mem_of_getElem? (i := 564) (by decide +kernel)⟩
theorem lw_p20 : lw_okq (⟨"CoastLights", "lightsFairway", "(I)Z"⟩, 19) := ⟨⟨by decide +kernel, by decide +kernel⟩, List.mem_of_getElem? (i := 15) (by decide +kernel), List.mem_of_getElem? (i := 577) (by decide +kernel), List.mem_of_getElem? (i := 578) (by decide +kernel)⟩
theorem lw_p21 : lw_okq (⟨"CoastLights", "findLandings", "()V"⟩, 19) := ⟨⟨by decide +kernel, by decide +kernel⟩, List.mem_of_getElem? (i := 15) (by decide +kernel), List.mem_of_getElem? (i := 620) (by decide +kernel), List.mem_of_getElem? (i := 621) (by decide +kernel)⟩
theorem lw_p22 : lw_okq (⟨"CoastLights$Landings", "pickRocks", "([LCoastLights$Light;I[II)I"⟩, 8) := ⟨⟨by decide +kernel, by decide +kernel⟩, List.mem_of_getElem? (i := 90) (by decide +kernel), List.mem_of_getElem? (i := 628) (by decide +kernel), List.mem_of_getElem? (i := 629) (by decide +kernel)⟩
theorem lw_p23 : lw_okq (⟨"CoastLights$Landings", "makeRoom", "()V"⟩, 8) := ⟨⟨by decide +kernel, by decide +kernel⟩, List.mem_of_getElem? (i := 90) (by decide +kernel), List.mem_of_getElem? (i := 644) (by decide +kernel), List.mem_of_getElem? (i := 645) (by decide +kernel)⟩
theorem lw_p24 : lw_okq (⟨"CoastLights$Landings", "endCosts", "([LCoastLights$Light;)V"⟩, 8) := ⟨⟨by decide +kernel, by decide +kernel⟩, List.mem_of_getElem? (i := 90) (by decide +kernel), List.mem_of_getElem? (i := 648) (by decide +kernel), List.mem_of_getElem? (i := 649) (by decide +kernel)⟩
theorem lw_p25 : lw_okq (⟨"CoastLights$Landings", "lookAt", "([LCoastLights$Light;II)V"⟩, 8) := ⟨⟨by decide +kernel, by decide +kernel⟩, List.mem_of_getElem? (i := 90) (by decide +kernel), List.mem_of_getElem? (i := 652) (by decide +kernel), List.mem_of_getElem? (i := 653) (by decide +kernel)⟩
theorem lw_p26 : lw_okq (⟨"CoastLights$Landings", "workBack", "(I)V"⟩, 8) := ⟨⟨by decide +kernel, by decide +kernel⟩, List.mem_of_getElem? (i := 90) (by decide +kernel), List.mem_of_getElem? (i := 656) (by decide +kernel), List.mem_of_getElem? (i := 657) (by decide +kernel)⟩
theorem lw_p27 : lw_okq (⟨"CoastLights$Landings", "follow", "(I)V"⟩, 8) := ⟨⟨by decide +kernel, by decide +kernel⟩, List.mem_of_getElem? (i := 90) (by decide +kernel), List.mem_of_getElem? (i := 660) (by decide +kernel), List.mem_of_getElem? (i := 661) (by decide +kernel)⟩
theorem lw_p28 : lw_okq (⟨"CoastLights", "firstWrong", "(LCoastLights$Sheet;)I"⟩, 19) := ⟨⟨by decide +kernel, by decide +kernel⟩, List.mem_of_getElem? (i := 15) (by decide +kernel), List.mem_of_getElem? (i := 672) (by decide +kernel), List.mem_of_getElem? (i := 673) (by decide +kernel)⟩
theorem lw_p29 : lw_okq (⟨"CoastLights", "takeBack", "(LCoastLights$Step;)V"⟩, 19) := ⟨⟨by decide +kernel, by decide +kernel⟩, List.mem_of_getElem? (i := 15) (by decide +kernel), List.mem_of_getElem? (i := 710) (by decide +kernel), List.mem_of_getElem? (i := 711) (by decide +kernel)⟩
theorem lw_p30 : lw_okq (⟨"CoastLights", "countRocks", "()I"⟩, 19) := ⟨⟨by decide +kernel, by decide +kernel⟩, List.mem_of_getElem? (i := 15) (by decide +kernel), List.mem_of_getElem? (i := 718) (by decide +kernel), List.mem_of_getElem? (i := 719) (by decide +kernel)⟩
theorem lw_p31 : lw_okq (⟨"CoastLightsModel", "finding", "(I)I"⟩, 19) := ⟨⟨by decide +kernel, by decide +kernel⟩, List.mem_of_getElem? (i := 722) (by decide +kernel), List.mem_of_getElem? (i := 791) (by decide +kernel), List.mem_of_getElem? (i := 792) (by decide +kernel)⟩
def lw_privs_2 : List (MethodName × Nat) := [(⟨"CoastLights", "holdsForAll", "(I)Z"⟩, 19), (⟨"CoastLights", "holdsFor", "(ILCoastLights$Light;I)Z"⟩, 19), (⟨"CoastLights", "placeInFairway", "(I)I"⟩, 19), (⟨"CoastLights", "setFairway", "(IZ)V"⟩, 19), (⟨"CoastLights", "lightsFairway", "(I)Z"⟩, 19), (⟨"CoastLights", "findLandings", "()V"⟩, 19), (⟨"CoastLights$Landings", "pickRocks", "([LCoastLights$Light;I[II)I"⟩, 8), (⟨"CoastLights$Landings", "makeRoom", "()V"⟩, 8), (⟨"CoastLights$Landings", "endCosts", "([LCoastLights$Light;)V"⟩, 8), (⟨"CoastLights$Landings", "lookAt", "([LCoastLights$Light;II)V"⟩, 8), (⟨"CoastLights$Landings", "workBack", "(I)V"⟩, 8), (⟨"CoastLights$Landings", "follow", "(I)V"⟩, 8), (⟨"CoastLights", "firstWrong", "(LCoastLights$Sheet;)I"⟩, 19), (⟨"CoastLights", "takeBack", "(LCoastLights$Step;)V"⟩, 19), (⟨"CoastLights", "countRocks", "()I"⟩, 19), (⟨"CoastLightsModel", "finding", "(I)I"⟩, 19)]
theorem lw_r2 : ∀ q ∈ lw_privs_2, lw_okq q := List.forall_mem_cons.mpr ⟨lw_p16, List.forall_mem_cons.mpr ⟨lw_p17, List.forall_mem_cons.mpr ⟨lw_p18, List.forall_mem_cons.mpr ⟨lw_p19, List.forall_mem_cons.mpr ⟨lw_p20, List.forall_mem_cons.mpr ⟨lw_p21, List.forall_mem_cons.mpr ⟨lw_p22, List.forall_mem_cons.mpr ⟨lw_p23, List.forall_mem_cons.mpr ⟨lw_p24, List.forall_mem_cons.mpr ⟨lw_p25, List.forall_mem_cons.mpr ⟨lw_p26, List.forall_mem_cons.mpr ⟨lw_p27, List.forall_mem_cons.mpr ⟨lw_p28, List.forall_mem_cons.mpr ⟨lw_p29, List.forall_mem_cons.mpr ⟨lw_p30, List.forall_mem_cons.mpr ⟨lw_p31, fun _ h => absurd h List.not_mem_nil⟩⟩⟩⟩⟩⟩⟩⟩⟩⟩⟩⟩⟩⟩⟩⟩
theorem lw_p32 : lw_okq (⟨"CoastLightsModel", "faultOf", "()I"⟩, 19) := ⟨⟨by decide +kernel, by decide +kernel⟩, List.mem_of_getElem? (i := 722) (by decide +kernel), List.mem_of_getElem? (i := 812) (by decide +kernel), List.mem_of_getElem? (i := 813) (by decide +kernel)⟩
theorem lw_p33 : lw_okq (⟨"CoastLightsModel", "readSort", "()V"⟩, 19) := ⟨⟨by decide +kernel, by decide +kernel⟩, List.mem_of_getElem? (i := 722) (by decide +kernel), List.mem_of_getElem? (i := 816) (by decide +kernel), List.mem_of_getElem? (i := 817) (by decide +kernel)⟩
theorem lw_p34 : lw_okq (⟨"CoastLightsModel", "isHere", "(I)Z"⟩, 19) := ⟨⟨by decide +kernel, by decide +kernel⟩, List.mem_of_getElem? (i := 722) (by decide +kernel), List.mem_of_getElem? (i := 820) (by decide +kernel), List.mem_of_getElem? (i := 821) (by decide +kernel)⟩
theorem lw_p35 : lw_okq (⟨"CoastLightsModel", "need", "(I)V"⟩, 19) := ⟨⟨by decide +kernel, by decide +kernel⟩, List.mem_of_getElem? (i := 722) (by decide +kernel), List.mem_of_getElem? (i := 824) (by decide +kernel), List.mem_of_getElem? (i := 825) (by decide +kernel)⟩
theorem lw_p36 : lw_okq (⟨"CoastLightsModel", "number", "()I"⟩, 19) := ⟨⟨by decide +kernel, by decide +kernel⟩, List.mem_of_getElem? (i := 722) (by decide +kernel), List.mem_of_getElem? (i := 828) (by decide +kernel), List.mem_of_getElem? (i := 829) (by decide +kernel)⟩
theorem lw_p37 : lw_okq (⟨"CoastLightsModel", "isDigit", "()Z"⟩, 19) := ⟨⟨by decide +kernel, by decide +kernel⟩, List.mem_of_getElem? (i := 722) (by decide +kernel), List.mem_of_getElem? (i := 832) (by decide +kernel), List.mem_of_getElem? (i := 833) (by decide +kernel)⟩
theorem lw_p38 : lw_okq (⟨"CoastLightsModel", "goesIn", "()Z"⟩, 19) := ⟨⟨by decide +kernel, by decide +kernel⟩, List.mem_of_getElem? (i := 722) (by decide +kernel), List.mem_of_getElem? (i := 836) (by decide +kernel), List.mem_of_getElem? (i := 837) (by decide +kernel)⟩
theorem lw_p39 : lw_okq (⟨"CoastLightsModel", "keep", "()V"⟩, 19) := ⟨⟨by decide +kernel, by decide +kernel⟩, List.mem_of_getElem? (i := 722) (by decide +kernel), List.mem_of_getElem? (i := 840) (by decide +kernel), List.mem_of_getElem? (i := 841) (by decide +kernel)⟩
theorem lw_p40 : lw_okq (⟨"CoastLightsModel", "isLit", "(I)Z"⟩, 19) := ⟨⟨by decide +kernel, by decide +kernel⟩, List.mem_of_getElem? (i := 722) (by decide +kernel), List.mem_of_getElem? (i := 847) (by decide +kernel), List.mem_of_getElem? (i := 848) (by decide +kernel)⟩
theorem lw_p41 : lw_okq (⟨"CoastLightsModel", "isLight", "(I)Z"⟩, 19) := ⟨⟨by decide +kernel, by decide +kernel⟩, List.mem_of_getElem? (i := 722) (by decide +kernel), List.mem_of_getElem? (i := 855) (by decide +kernel), List.mem_of_getElem? (i := 856) (by decide +kernel)⟩
theorem lw_p42 : lw_okq (⟨"CoastLightsModel", "hasLight", "(II)Z"⟩, 19) := ⟨⟨by decide +kernel, by decide +kernel⟩, List.mem_of_getElem? (i := 722) (by decide +kernel), List.mem_of_getElem? (i := 871) (by decide +kernel), List.mem_of_getElem? (i := 872) (by decide +kernel)⟩
theorem lw_p43 : lw_okq (⟨"CoastLightsModel", "colourOf", "(II)I"⟩, 19) := ⟨⟨by decide +kernel, by decide +kernel⟩, List.mem_of_getElem? (i := 722) (by decide +kernel), List.mem_of_getElem? (i := 910) (by decide +kernel), List.mem_of_getElem? (i := 911) (by decide +kernel)⟩
theorem lw_p44 : lw_okq (⟨"CoastLightsModel", "seenFrom", "(I)I"⟩, 19) := ⟨⟨by decide +kernel, by decide +kernel⟩, List.mem_of_getElem? (i := 722) (by decide +kernel), List.mem_of_getElem? (i := 921) (by decide +kernel), List.mem_of_getElem? (i := 922) (by decide +kernel)⟩
theorem lw_p45 : lw_okq (⟨"CoastLightsModel", "isNear", "(III)Z"⟩, 19) := ⟨⟨by decide +kernel, by decide +kernel⟩, List.mem_of_getElem? (i := 722) (by decide +kernel), List.mem_of_getElem? (i := 925) (by decide +kernel), List.mem_of_getElem? (i := 926) (by decide +kernel)⟩
theorem lw_p46 : lw_okq (⟨"CoastLightsModel", "isOut", "(III)Z"⟩, 19) := ⟨⟨by decide +kernel, by decide +kernel⟩, List.mem_of_getElem? (i := 722) (by decide +kernel), List.mem_of_getElem? (i := 930) (by decide +kernel), List.mem_of_getElem? (i := 931) (by decide +kernel)⟩
theorem lw_p47 : lw_okq (⟨"CoastLightsModel", "becomes", "(II)I"⟩, 19) := ⟨⟨by decide +kernel, by decide +kernel⟩, List.mem_of_getElem? (i := 722) (by decide +kernel), List.mem_of_getElem? (i := 938) (by decide +kernel), List.mem_of_getElem? (i := 939) (by decide +kernel)⟩
def lw_privs_3 : List (MethodName × Nat) := [(⟨"CoastLightsModel", "faultOf", "()I"⟩, 19), (⟨"CoastLightsModel", "readSort", "()V"⟩, 19), (⟨"CoastLightsModel", "isHere", "(I)Z"⟩, 19), (⟨"CoastLightsModel", "need", "(I)V"⟩, 19), (⟨"CoastLightsModel", "number", "()I"⟩, 19), (⟨"CoastLightsModel", "isDigit", "()Z"⟩, 19), (⟨"CoastLightsModel", "goesIn", "()Z"⟩, 19), (⟨"CoastLightsModel", "keep", "()V"⟩, 19), (⟨"CoastLightsModel", "isLit", "(I)Z"⟩, 19), (⟨"CoastLightsModel", "isLight", "(I)Z"⟩, 19), (⟨"CoastLightsModel", "hasLight", "(II)Z"⟩, 19), (⟨"CoastLightsModel", "colourOf", "(II)I"⟩, 19), (⟨"CoastLightsModel", "seenFrom", "(I)I"⟩, 19), (⟨"CoastLightsModel", "isNear", "(III)Z"⟩, 19), (⟨"CoastLightsModel", "isOut", "(III)Z"⟩, 19), (⟨"CoastLightsModel", "becomes", "(II)I"⟩, 19)]
theorem lw_r3 : ∀ q ∈ lw_privs_3, lw_okq q := List.forall_mem_cons.mpr ⟨lw_p32, List.forall_mem_cons.mpr ⟨lw_p33, List.forall_mem_cons.mpr ⟨lw_p34, List.forall_mem_cons.mpr ⟨lw_p35, List.forall_mem_cons.mpr ⟨lw_p36, List.forall_mem_cons.mpr ⟨lw_p37, List.forall_mem_cons.mpr ⟨lw_p38, List.forall_mem_cons.mpr ⟨lw_p39, List.forall_mem_cons.mpr ⟨lw_p40, List.forall_mem_cons.mpr ⟨lw_p41, List.forall_mem_cons.mpr ⟨lw_p42, List.forall_mem_cons.mpr ⟨lw_p43, List.forall_mem_cons.mpr ⟨lw_p44, List.forall_mem_cons.mpr ⟨lw_p45, List.forall_mem_cons.mpr ⟨lw_p46, List.forall_mem_cons.mpr ⟨lw_p47, fun _ h => absurd h List.not_mem_nil⟩⟩⟩⟩⟩⟩⟩⟩⟩⟩⟩⟩⟩⟩⟩⟩
theorem lw_p48 : lw_okq (⟨"CoastLightsModel", "alike", "(II)I"⟩, 19) := ⟨⟨by decide +kernel, by decide +kernel⟩, List.mem_of_getElem? (i := 722) (by decide +kernel), List.mem_of_getElem? (i := 950) (by decide +kernel), List.mem_of_getElem? (i := 951) (by decide +kernel)⟩
theorem lw_p49 : lw_okq (⟨"CoastLightsModel", "fitsFrom", "(III)Z"⟩, 19) := ⟨⟨by decide +kernel, by decide +kernel⟩, List.mem_of_getElem? (i := 722) (by decide +kernel), List.mem_of_getElem? (i := 966) (by decide +kernel), List.mem_of_getElem? (i := 967) (by decide +kernel)⟩
theorem lw_p50 : lw_okq (⟨"CoastLightsModel", "isInFix", "(I)Z"⟩, 19) := ⟨⟨by decide +kernel, by decide +kernel⟩, List.mem_of_getElem? (i := 722) (by decide +kernel), List.mem_of_getElem? (i := 982) (by decide +kernel), List.mem_of_getElem? (i := 983) (by decide +kernel)⟩
theorem lw_p51 : lw_okq (⟨"CoastLightsModel", "holds", "(II)Z"⟩, 19) := ⟨⟨by decide +kernel, by decide +kernel⟩, List.mem_of_getElem? (i := 722) (by decide +kernel), List.mem_of_getElem? (i := 986) (by decide +kernel), List.mem_of_getElem? (i := 987) (by decide +kernel)⟩
theorem lw_p52 : lw_okq (⟨"CoastLightsModel", "ofRock", "(IIII)I"⟩, 19) := ⟨⟨by decide +kernel, by decide +kernel⟩, List.mem_of_getElem? (i := 722) (by decide +kernel), List.mem_of_getElem? (i := 1015) (by decide +kernel), List.mem_of_getElem? (i := 1016) (by decide +kernel)⟩
theorem lw_p53 : lw_okq (⟨"CoastLightsModel", "isRock", "(I)Z"⟩, 19) := ⟨⟨by decide +kernel, by decide +kernel⟩, List.mem_of_getElem? (i := 722) (by decide +kernel), List.mem_of_getElem? (i := 1019) (by decide +kernel), List.mem_of_getElem? (i := 1020) (by decide +kernel)⟩
theorem lw_p54 : lw_okq (⟨"CoastLightsModel", "findLandings", "()V"⟩, 19) := ⟨⟨by decide +kernel, by decide +kernel⟩, List.mem_of_getElem? (i := 722) (by decide +kernel), List.mem_of_getElem? (i := 1035) (by decide +kernel), List.mem_of_getElem? (i := 1036) (by decide +kernel)⟩
theorem lw_p55 : lw_okq (⟨"CoastLightsModel", "restOf", "(I)I"⟩, 19) := ⟨⟨by decide +kernel, by decide +kernel⟩, List.mem_of_getElem? (i := 722) (by decide +kernel), List.mem_of_getElem? (i := 1039) (by decide +kernel), List.mem_of_getElem? (i := 1040) (by decide +kernel)⟩
theorem lw_p56 : lw_okq (⟨"CoastLightsModel", "overdueOf", "(II)I"⟩, 19) := ⟨⟨by decide +kernel, by decide +kernel⟩, List.mem_of_getElem? (i := 722) (by decide +kernel), List.mem_of_getElem? (i := 1043) (by decide +kernel), List.mem_of_getElem? (i := 1044) (by decide +kernel)⟩
theorem lw_p57 : lw_okq (⟨"CoastLightsModel", "isLandable", "(II)Z"⟩, 19) := ⟨⟨by decide +kernel, by decide +kernel⟩, List.mem_of_getElem? (i := 722) (by decide +kernel), List.mem_of_getElem? (i := 1047) (by decide +kernel), List.mem_of_getElem? (i := 1048) (by decide +kernel)⟩
theorem lw_p58 : lw_okq (⟨"CoastLightsModel", "byLanding", "(III)I"⟩, 19) := ⟨⟨by decide +kernel, by decide +kernel⟩, List.mem_of_getElem? (i := 722) (by decide +kernel), List.mem_of_getElem? (i := 1051) (by decide +kernel), List.mem_of_getElem? (i := 1052) (by decide +kernel)⟩
theorem lw_p59 : lw_okq (⟨"CoastLightsModel", "firstOn", "(II)I"⟩, 19) := ⟨⟨by decide +kernel, by decide +kernel⟩, List.mem_of_getElem? (i := 722) (by decide +kernel), List.mem_of_getElem? (i := 1059) (by decide +kernel), List.mem_of_getElem? (i := 1060) (by decide +kernel)⟩
def lw_privs_4 : List (MethodName × Nat) := [(⟨"CoastLightsModel", "alike", "(II)I"⟩, 19), (⟨"CoastLightsModel", "fitsFrom", "(III)Z"⟩, 19), (⟨"CoastLightsModel", "isInFix", "(I)Z"⟩, 19), (⟨"CoastLightsModel", "holds", "(II)Z"⟩, 19), (⟨"CoastLightsModel", "ofRock", "(IIII)I"⟩, 19), (⟨"CoastLightsModel", "isRock", "(I)Z"⟩, 19), (⟨"CoastLightsModel", "findLandings", "()V"⟩, 19), (⟨"CoastLightsModel", "restOf", "(I)I"⟩, 19), (⟨"CoastLightsModel", "overdueOf", "(II)I"⟩, 19), (⟨"CoastLightsModel", "isLandable", "(II)Z"⟩, 19), (⟨"CoastLightsModel", "byLanding", "(III)I"⟩, 19), (⟨"CoastLightsModel", "firstOn", "(II)I"⟩, 19)]
theorem lw_r4 : ∀ q ∈ lw_privs_4, lw_okq q := List.forall_mem_cons.mpr ⟨lw_p48, List.forall_mem_cons.mpr ⟨lw_p49, List.forall_mem_cons.mpr ⟨lw_p50, List.forall_mem_cons.mpr ⟨lw_p51, List.forall_mem_cons.mpr ⟨lw_p52, List.forall_mem_cons.mpr ⟨lw_p53, List.forall_mem_cons.mpr ⟨lw_p54, List.forall_mem_cons.mpr ⟨lw_p55, List.forall_mem_cons.mpr ⟨lw_p56, List.forall_mem_cons.mpr ⟨lw_p57, List.forall_mem_cons.mpr ⟨lw_p58, List.forall_mem_cons.mpr ⟨lw_p59, fun _ h => absurd h List.not_mem_nil⟩⟩⟩⟩⟩⟩⟩⟩⟩⟩⟩⟩
def lw_privs : List (MethodName × Nat) := lw_privs_1 ++ (lw_privs_2 ++ (lw_privs_3 ++ (lw_privs_4)))
def lw_tbl : List Cond := k2_sels lw_privs ++ tables_1
theorem lw_privs_ok : ∀ q ∈ lw_privs, lw_okq q := by
  show ∀ q ∈ lw_privs_1 ++ (lw_privs_2 ++ (lw_privs_3 ++ (lw_privs_4))), lw_okq q
  exact List.forall_mem_append.mpr ⟨lw_r1, List.forall_mem_append.mpr ⟨lw_r2, List.forall_mem_append.mpr ⟨lw_r3, lw_r4⟩⟩⟩
end
section
def RX0 : String := "CoastLights$Landings"
def TX0 : u_T := fun k => match k with
  | 0 => ("CoastLights$Landings", "least", "I", false)
  | 1 => ("CoastLights$Landings", "plan", "[I", true)
  | 2 => ("CoastLights$Landings", "rocks", "[I", true)
  | 3 => ("CoastLights$Landings", "rockCount", "I", false)
  | 4 => ("CoastLights$Landings", "today", "[I", true)
  | 5 => ("CoastLights$Landings", "sets", "I", false)
  | 6 => ("CoastLights$Landings", "costs", "[I", false)
  | _ => ("CoastLights$Landings", "choices", "[I", false)
def tyX0 : Nat → FieldType := fun k => match k with
  | 0 => .int
  | 1 => .array .int
  | 2 => .array .int
  | 3 => .int
  | 4 => .array .int
  | 5 => .int
  | 6 => .array .int
  | _ => .array .int
abbrev wsX00 : List Cond := u_ws RX0 TX0 8
theorem nmX0 : ∀ a, a < 8 → ∀ b, b < 8 → a ≠ b → (TX0 a).2.1 ≠ (TX0 b).2.1 := by decide +kernel
theorem tyX0_ok : ∀ k, k < 8 → parseFieldDescriptor (TX0 k).2.2.1 = some (tyX0 k) := by decide +kernel
abbrev cX0_init : ByteArray := prog_2_method_1_code
def yX0_init : MethodName := ⟨RX0, "<init>", "()V"⟩
abbrev cX0_find : ByteArray := prog_2_method_2_code
def yX0_find : MethodName := ⟨RX0, "find", "([LCoastLights$Light;I[II)V"⟩
abbrev cX0_pickRocks : ByteArray := prog_2_method_3_code
def yX0_pickRocks : MethodName := ⟨RX0, "pickRocks", "([LCoastLights$Light;I[II)I"⟩
abbrev cX0_landsFrom : ByteArray := prog_2_method_4_code
def yX0_landsFrom : MethodName := ⟨RX0, "landsFrom", "(LCoastLights$Light;[II)Z"⟩
abbrev cX0_makeRoom : ByteArray := prog_2_method_5_code
def yX0_makeRoom : MethodName := ⟨RX0, "makeRoom", "()V"⟩
abbrev cX0_endCosts : ByteArray := prog_2_method_6_code
def yX0_endCosts : MethodName := ⟨RX0, "endCosts", "([LCoastLights$Light;)V"⟩
abbrev cX0_lookAt : ByteArray := prog_2_method_7_code
def yX0_lookAt : MethodName := ⟨RX0, "lookAt", "([LCoastLights$Light;II)V"⟩
abbrev cX0_workBack : ByteArray := prog_2_method_8_code
def yX0_workBack : MethodName := ⟨RX0, "workBack", "(I)V"⟩
abbrev cX0_follow : ByteArray := prog_2_method_9_code
def yX0_follow : MethodName := ⟨RX0, "follow", "(I)V"⟩
def RX1 : String := "CoastLights$Light"
def TX1 : u_T := fun k => match k with
  | 0 => ("CoastLights$Light", "kind", "I", false)
  | 1 => ("CoastLights$Light", "cell", "I", false)
  | 2 => ("CoastLights$Light", "range", "I", false)
  | 3 => ("CoastLights$Light", "colour", "I", false)
  | 4 => ("CoastLights$Light", "seconds", "I", false)
  | 5 => ("CoastLights$Light", "lit", "J", false)
  | 6 => ("CoastLights$Light", "phases", "[J", true)
  | 7 => ("CoastLights$Light", "sectors", "[I", true)
  | 8 => ("CoastLights$Light", "sectorCount", "I", false)
  | 9 => ("CoastLights$Light", "doubt", "I", false)
  | 10 => ("CoastLights$Light", "since", "I", false)
  | _ => ("CoastLights$Light", "limit", "I", false)
def tyX1 : Nat → FieldType := fun k => match k with
  | 0 => .int
  | 1 => .int
  | 2 => .int
  | 3 => .int
  | 4 => .int
  | 5 => .long
  | 6 => .array .long
  | 7 => .array .int
  | 8 => .int
  | 9 => .int
  | 10 => .int
  | _ => .int
abbrev wsX10 : List Cond := u_ws RX1 TX1 12
theorem nmX1 : ∀ a, a < 12 → ∀ b, b < 12 → a ≠ b → (TX1 a).2.1 ≠ (TX1 b).2.1 := by decide +kernel
theorem tyX1_ok : ∀ k, k < 12 → parseFieldDescriptor (TX1 k).2.2.1 = some (tyX1 k) := by decide +kernel
abbrev cX1_init : ByteArray := prog_3_method_1_code
def yX1_init : MethodName := ⟨RX1, "<init>", "()V"⟩
abbrev cX1_become : ByteArray := prog_3_method_2_code
def yX1_become : MethodName := ⟨RX1, "become", "(III)V"⟩
abbrev cX1_take : ByteArray := prog_3_method_3_code
def yX1_take : MethodName := ⟨RX1, "take", "(LCoastLights$Text;)V"⟩
abbrev cX1_isLitAt : ByteArray := prog_3_method_4_code
def yX1_isLitAt : MethodName := ⟨RX1, "isLitAt", "(I)Z"⟩
abbrev cX1_hasRow : ByteArray := prog_3_method_5_code
def yX1_hasRow : MethodName := ⟨RX1, "hasRow", "(JI)Z"⟩
abbrev cX1_colourTowards : ByteArray := prog_3_method_6_code
def yX1_colourTowards : MethodName := ⟨RX1, "colourTowards", "(I)I"⟩
abbrev cX1_isRock : ByteArray := prog_3_method_7_code
def yX1_isRock : MethodName := ⟨RX1, "isRock", "()Z"⟩
abbrev cX1_landsIn : ByteArray := prog_3_method_8_code
def yX1_landsIn : MethodName := ⟨RX1, "landsIn", "(I)Z"⟩
abbrev cX1_overdueOn : ByteArray := prog_3_method_9_code
def yX1_overdueOn : MethodName := ⟨RX1, "overdueOn", "(I)I"⟩
def RX2 : String := "CoastLights$Past"
def TX2 : u_T := fun k => match k with
  | 0 => ("CoastLights$Past", "steps", "[LCoastLights$Step;", true)
  | 1 => ("CoastLights$Past", "top", "I", false)
  | _ => ("CoastLights$Past", "count", "I", false)
def tyX2 : Nat → FieldType := fun k => match k with
  | 0 => .array (.object "CoastLights$Step")
  | 1 => .int
  | _ => .int
abbrev wsX20 : List Cond := u_ws RX2 TX2 3
theorem nmX2 : ∀ a, a < 3 → ∀ b, b < 3 → a ≠ b → (TX2 a).2.1 ≠ (TX2 b).2.1 := by decide +kernel
theorem tyX2_ok : ∀ k, k < 3 → parseFieldDescriptor (TX2 k).2.2.1 = some (tyX2 k) := by decide +kernel
abbrev cX2_init : ByteArray := prog_4_method_1_code
def yX2_init : MethodName := ⟨RX2, "<init>", "()V"⟩
abbrev cX2_next : ByteArray := prog_4_method_2_code
def yX2_next : MethodName := ⟨RX2, "next", "()LCoastLights$Step;"⟩
abbrev cX2_takeLatest : ByteArray := prog_4_method_3_code
def yX2_takeLatest : MethodName := ⟨RX2, "takeLatest", "()LCoastLights$Step;"⟩
def RX3 : String := "CoastLights$Sheet"
def TX3 : u_T := fun k => match k with
  | 0 => ("CoastLights$Sheet", "bits", "I", false)
  | 1 => ("CoastLights$Sheet", "count", "I", false)
  | _ => ("CoastLights$Sheet", "numbers", "[I", true)
def tyX3 : Nat → FieldType := fun k => match k with
  | 0 => .int
  | 1 => .int
  | _ => .array .int
abbrev wsX30 : List Cond := u_ws RX3 TX3 3
theorem nmX3 : ∀ a, a < 3 → ∀ b, b < 3 → a ≠ b → (TX3 a).2.1 ≠ (TX3 b).2.1 := by decide +kernel
theorem tyX3_ok : ∀ k, k < 3 → parseFieldDescriptor (TX3 k).2.2.1 = some (tyX3 k) := by decide +kernel
abbrev cX3_init : ByteArray := prog_5_method_1_code
def yX3_init : MethodName := ⟨RX3, "<init>", "()V"⟩
abbrev cX3_renew : ByteArray := prog_5_method_2_code
def yX3_renew : MethodName := ⟨RX3, "renew", "(II)V"⟩
abbrev cX3_lowest : ByteArray := prog_5_method_3_code
def yX3_lowest : MethodName := ⟨RX3, "lowest", "(I)I"⟩
abbrev cX3_hasNumbers : ByteArray := prog_5_method_4_code
def yX3_hasNumbers : MethodName := ⟨RX3, "hasNumbers", "(II)Z"⟩
abbrev cX3_asSeconds : ByteArray := prog_5_method_5_code
def yX3_asSeconds : MethodName := ⟨RX3, "asSeconds", "()J"⟩
def RX4 : String := "CoastLights$Step"
def TX4 : u_T := fun k => match k with
  | 0 => ("CoastLights$Step", "act", "I", false)
  | 1 => ("CoastLights$Step", "of", "I", false)
  | 2 => ("CoastLights$Step", "was", "I", false)
  | _ => ("CoastLights$Step", "row", "[I", true)
def tyX4 : Nat → FieldType := fun k => match k with
  | 0 => .int
  | 1 => .int
  | 2 => .int
  | _ => .array .int
abbrev wsX40 : List Cond := u_ws RX4 TX4 4
theorem nmX4 : ∀ a, a < 4 → ∀ b, b < 4 → a ≠ b → (TX4 a).2.1 ≠ (TX4 b).2.1 := by decide +kernel
theorem tyX4_ok : ∀ k, k < 4 → parseFieldDescriptor (TX4 k).2.2.1 = some (tyX4 k) := by decide +kernel
abbrev cX4_init : ByteArray := prog_6_method_1_code
def yX4_init : MethodName := ⟨RX4, "<init>", "()V"⟩
def RX5 : String := "CoastLights$Text"
def TX5 : u_T := fun k => match k with
  | 0 => ("CoastLights$Text", "signs", "[I", true)
  | 1 => ("CoastLights$Text", "length", "I", false)
  | 2 => ("CoastLights$Text", "place", "I", false)
  | 3 => ("CoastLights$Text", "number", "I", false)
  | 4 => ("CoastLights$Text", "rhythm", "I", false)
  | 5 => ("CoastLights$Text", "times", "I", false)
  | 6 => ("CoastLights$Text", "colour", "I", false)
  | 7 => ("CoastLights$Text", "period", "I", false)
  | _ => ("CoastLights$Text", "periodPlace", "I", false)
def tyX5 : Nat → FieldType := fun k => match k with
  | 0 => .array .int
  | 1 => .int
  | 2 => .int
  | 3 => .int
  | 4 => .int
  | 5 => .int
  | 6 => .int
  | 7 => .int
  | _ => .int
abbrev wsX50 : List Cond := u_ws RX5 TX5 9
theorem nmX5 : ∀ a, a < 9 → ∀ b, b < 9 → a ≠ b → (TX5 a).2.1 ≠ (TX5 b).2.1 := by decide +kernel
theorem tyX5_ok : ∀ k, k < 9 → parseFieldDescriptor (TX5 k).2.2.1 = some (tyX5 k) := by decide +kernel
abbrev cX5_init : ByteArray := prog_7_method_1_code
def yX5_init : MethodName := ⟨RX5, "<init>", "()V"⟩
abbrev cX5_append : ByteArray := prog_7_method_2_code
def yX5_append : MethodName := ⟨RX5, "append", "(IJ)V"⟩
abbrev cX5_findFault : ByteArray := prog_7_method_3_code
def yX5_findFault : MethodName := ⟨RX5, "findFault", "()I"⟩
abbrev cX5_readRhythm : ByteArray := prog_7_method_4_code
def yX5_readRhythm : MethodName := ⟨RX5, "readRhythm", "()Z"⟩
abbrev cX5_readTimes : ByteArray := prog_7_method_5_code
def yX5_readTimes : MethodName := ⟨RX5, "readTimes", "()Z"⟩
abbrev cX5_readColour : ByteArray := prog_7_method_6_code
def yX5_readColour : MethodName := ⟨RX5, "readColour", "()Z"⟩
abbrev cX5_readPeriod : ByteArray := prog_7_method_7_code
def yX5_readPeriod : MethodName := ⟨RX5, "readPeriod", "()Z"⟩
abbrev cX5_readNumber : ByteArray := prog_7_method_8_code
def yX5_readNumber : MethodName := ⟨RX5, "readNumber", "()Z"⟩
abbrev cX5_isDigit : ByteArray := prog_7_method_9_code
def yX5_isDigit : MethodName := ⟨RX5, "isDigit", "()Z"⟩
abbrev cX5_takes : ByteArray := prog_7_method_10_code
def yX5_takes : MethodName := ⟨RX5, "takes", "(C)Z"⟩
abbrev cX5_goesIn : ByteArray := prog_7_method_11_code
def yX5_goesIn : MethodName := ⟨RX5, "goesIn", "()Z"⟩
abbrev cX5_litSeconds : ByteArray := prog_7_method_12_code
def yX5_litSeconds : MethodName := ⟨RX5, "litSeconds", "()J"⟩
def RX6 : String := "CoastLights$Words"
def TX6 : u_T := fun k => match k with
  | 0 => ("CoastLights$Words", "count", "I", false)
  | 1 => ("CoastLights$Words", "ofLight", "[I", true)
  | 2 => ("CoastLights$Words", "firstDay", "[I", true)
  | 3 => ("CoastLights$Words", "lastDay", "[I", true)
  | 4 => ("CoastLights$Words", "toldAt", "[I", true)
  | _ => ("CoastLights$Words", "isOut", "[Z", true)
def tyX6 : Nat → FieldType := fun k => match k with
  | 0 => .int
  | 1 => .array .int
  | 2 => .array .int
  | 3 => .array .int
  | 4 => .array .int
  | _ => .array .boolean
abbrev wsX60 : List Cond := u_ws RX6 TX6 6
theorem nmX6 : ∀ a, a < 6 → ∀ b, b < 6 → a ≠ b → (TX6 a).2.1 ≠ (TX6 b).2.1 := by decide +kernel
theorem tyX6_ok : ∀ k, k < 6 → parseFieldDescriptor (TX6 k).2.2.1 = some (tyX6 k) := by decide +kernel
abbrev cX6_init : ByteArray := prog_8_method_1_code
def yX6_init : MethodName := ⟨RX6, "<init>", "()V"⟩
abbrev cX6_latestHour : ByteArray := prog_8_method_2_code
def yX6_latestHour : MethodName := ⟨RX6, "latestHour", "()I"⟩
abbrev cX6_append : ByteArray := prog_8_method_3_code
def yX6_append : MethodName := ⟨RX6, "append", "(IIIIZ)V"⟩
abbrev cX6_tellOut : ByteArray := prog_8_method_4_code
def yX6_tellOut : MethodName := ⟨RX6, "tellOut", "(III)Z"⟩
def RX7 : String := "CoastLights"
def TX7 : u_T := fun k => match k with
  | 0 => ("CoastLights", "tape", "LCoastLights$Text;", true)
  | 1 => ("CoastLights", "lights", "[LCoastLights$Light;", true)
  | 2 => ("CoastLights", "lightCount", "I", false)
  | 3 => ("CoastLights", "hazeNow", "I", false)
  | 4 => ("CoastLights", "dayNow", "I", false)
  | 5 => ("CoastLights", "bearings", "[I", true)
  | 6 => ("CoastLights", "bearingCount", "I", false)
  | 7 => ("CoastLights", "fairwayCells", "[I", true)
  | 8 => ("CoastLights", "fairwayCount", "I", false)
  | 9 => ("CoastLights", "fairwaySights", "[I", true)
  | 10 => ("CoastLights", "words", "LCoastLights$Words;", true)
  | 11 => ("CoastLights", "heights", "[I", true)
  | 12 => ("CoastLights", "landings", "LCoastLights$Landings;", true)
  | 13 => ("CoastLights", "landingsKnown", "Z", false)
  | 14 => ("CoastLights", "inFix", "[Z", true)
  | 15 => ("CoastLights", "fixKnown", "Z", false)
  | 16 => ("CoastLights", "sheets", "[LCoastLights$Sheet;", true)
  | 17 => ("CoastLights", "past", "LCoastLights$Past;", true)
  | _ => ("CoastLights", "findings", "I", false)
def tyX7 : Nat → FieldType := fun k => match k with
  | 0 => .object "CoastLights$Text"
  | 1 => .array (.object "CoastLights$Light")
  | 2 => .int
  | 3 => .int
  | 4 => .int
  | 5 => .array .int
  | 6 => .int
  | 7 => .array .int
  | 8 => .int
  | 9 => .array .int
  | 10 => .object "CoastLights$Words"
  | 11 => .array .int
  | 12 => .object "CoastLights$Landings"
  | 13 => .boolean
  | 14 => .array .boolean
  | 15 => .boolean
  | 16 => .array (.object "CoastLights$Sheet")
  | 17 => .object "CoastLights$Past"
  | _ => .int
abbrev wsX70 : List Cond := u_ws RX7 TX7 19
theorem nmX7 : ∀ a, a < 19 → ∀ b, b < 19 → a ≠ b → (TX7 a).2.1 ≠ (TX7 b).2.1 := by decide +kernel
theorem tyX7_ok : ∀ k, k < 19 → parseFieldDescriptor (TX7 k).2.2.1 = some (tyX7 k) := by decide +kernel
abbrev cX7_init : ByteArray := prog_1_method_1_code
def yX7_init : MethodName := ⟨RX7, "<init>", "()V"⟩
abbrev cX7_feed : ByteArray := prog_1_method_2_code
def yX7_feed : MethodName := ⟨RX7, "feed", "(IJ)I"⟩
abbrev cX7_light : ByteArray := prog_1_method_3_code
def yX7_light : MethodName := ⟨RX7, "light", "(III)I"⟩
abbrev cX7_as : ByteArray := prog_1_method_4_code
def yX7_as : MethodName := ⟨RX7, "as", "(II)I"⟩
abbrev cX7_lightIs : ByteArray := prog_1_method_5_code
def yX7_lightIs : MethodName := ⟨RX7, "lightIs", "(II)I"⟩
abbrev cX7_at : ByteArray := prog_1_method_6_code
def yX7_at : MethodName := ⟨RX7, "at", "(II)I"⟩
abbrev cX7_sector : ByteArray := prog_1_method_7_code
def yX7_sector : MethodName := ⟨RX7, "sector", "(IIII)I"⟩
abbrev cX7_doubt : ByteArray := prog_1_method_8_code
def yX7_doubt : MethodName := ⟨RX7, "doubt", "(II)I"⟩
abbrev cX7_direction : ByteArray := prog_1_method_9_code
def yX7_direction : MethodName := ⟨RX7, "direction", "(II)I"⟩
abbrev cX7_colour : ByteArray := prog_1_method_10_code
def yX7_colour : MethodName := ⟨RX7, "colour", "(II)I"⟩
abbrev cX7_seen : ByteArray := prog_1_method_11_code
def yX7_seen : MethodName := ⟨RX7, "seen", "(I)I"⟩
abbrev cX7_haze : ByteArray := prog_1_method_12_code
def yX7_haze : MethodName := ⟨RX7, "haze", "(I)I"⟩
abbrev cX7_day : ByteArray := prog_1_method_13_code
def yX7_day : MethodName := ⟨RX7, "day", "(I)I"⟩
abbrev cX7_apart : ByteArray := prog_1_method_14_code
def yX7_apart : MethodName := ⟨RX7, "apart", "(II)I"⟩
abbrev cX7_allApart : ByteArray := prog_1_method_15_code
def yX7_allApart : MethodName := ⟨RX7, "allApart", "(I)I"⟩
abbrev cX7_fits : ByteArray := prog_1_method_16_code
def yX7_fits : MethodName := ⟨RX7, "fits", "(I)I"⟩
abbrev cX7_bearing : ByteArray := prog_1_method_17_code
def yX7_bearing : MethodName := ⟨RX7, "bearing", "(III)I"⟩
abbrev cX7_clear : ByteArray := prog_1_method_18_code
def yX7_clear : MethodName := ⟨RX7, "clear", "()I"⟩
abbrev cX7_fix : ByteArray := prog_1_method_19_code
def yX7_fix : MethodName := ⟨RX7, "fix", "(Z)I"⟩
abbrev cX7_may : ByteArray := prog_1_method_20_code
def yX7_may : MethodName := ⟨RX7, "may", "(I)I"⟩
abbrev cX7_fairway : ByteArray := prog_1_method_21_code
def yX7_fairway : MethodName := ⟨RX7, "fairway", "(IZ)I"⟩
abbrev cX7_kept : ByteArray := prog_1_method_22_code
def yX7_kept : MethodName := ⟨RX7, "kept", "()I"⟩
abbrev cX7_word : ByteArray := prog_1_method_23_code
def yX7_word : MethodName := ⟨RX7, "word", "(IIIZ)I"⟩
abbrev cX7_out : ByteArray := prog_1_method_24_code
def yX7_out : MethodName := ⟨RX7, "out", "(III)I"⟩
abbrev cX7_keeper : ByteArray := prog_1_method_25_code
def yX7_keeper : MethodName := ⟨RX7, "keeper", "(II)I"⟩
abbrev cX7_limit : ByteArray := prog_1_method_26_code
def yX7_limit : MethodName := ⟨RX7, "limit", "(II)I"⟩
abbrev cX7_seas : ByteArray := prog_1_method_27_code
def yX7_seas : MethodName := ⟨RX7, "seas", "(I)I"⟩
abbrev cX7_overdue : ByteArray := prog_1_method_28_code
def yX7_overdue : MethodName := ⟨RX7, "overdue", "()I"⟩
abbrev cX7_landing : ByteArray := prog_1_method_29_code
def yX7_landing : MethodName := ⟨RX7, "landing", "(I)I"⟩
abbrev cX7_proves : ByteArray := prog_1_method_30_code
def yX7_proves : MethodName := ⟨RX7, "proves", "(I)I"⟩
abbrev cX7_sheet : ByteArray := prog_1_method_31_code
def yX7_sheet : MethodName := ⟨RX7, "sheet", "(III)I"⟩
abbrev cX7_put : ByteArray := prog_1_method_32_code
def yX7_put : MethodName := ⟨RX7, "put", "(III)I"⟩
abbrev cX7_copy : ByteArray := prog_1_method_33_code
def yX7_copy : MethodName := ⟨RX7, "copy", "(IIIII)I"⟩
abbrev cX7_undo : ByteArray := prog_1_method_34_code
def yX7_undo : MethodName := ⟨RX7, "undo", "()I"⟩
abbrev cX7_all : ByteArray := prog_1_method_35_code
def yX7_all : MethodName := ⟨RX7, "all", "(I)I"⟩
abbrev cX7_refuse : ByteArray := prog_1_method_36_code
def yX7_refuse : MethodName := ⟨RX7, "refuse", "(I)I"⟩
abbrev cX7_isLight : ByteArray := prog_1_method_37_code
def yX7_isLight : MethodName := ⟨RX7, "isLight", "(I)Z"⟩
abbrev cX7_isKind : ByteArray := prog_1_method_38_code
def yX7_isKind : MethodName := ⟨RX7, "isKind", "(I)Z"⟩
abbrev cX7_isCell : ByteArray := prog_1_method_39_code
def yX7_isCell : MethodName := ⟨RX7, "isCell", "(I)Z"⟩
abbrev cX7_isDirection : ByteArray := prog_1_method_40_code
def yX7_isDirection : MethodName := ⟨RX7, "isDirection", "(I)Z"⟩
abbrev cX7_isDay : ByteArray := prog_1_method_41_code
def yX7_isDay : MethodName := ⟨RX7, "isDay", "(I)Z"⟩
abbrev cX7_isHour : ByteArray := prog_1_method_42_code
def yX7_isHour : MethodName := ⟨RX7, "isHour", "(I)Z"⟩
abbrev cX7_isSheet : ByteArray := prog_1_method_43_code
def yX7_isSheet : MethodName := ⟨RX7, "isSheet", "(I)Z"⟩
abbrev cX7_allLights : ByteArray := prog_1_method_44_code
def yX7_allLights : MethodName := ⟨RX7, "allLights", "()I"⟩
abbrev cX7_countRocks : ByteArray := prog_1_method_45_code
def yX7_countRocks : MethodName := ⟨RX7, "countRocks", "()I"⟩
abbrev cX7_isUnder : ByteArray := prog_1_method_46_code
def yX7_isUnder : MethodName := ⟨RX7, "isUnder", "(II)Z"⟩
abbrev cX7_turnedOver : ByteArray := prog_1_method_47_code
def yX7_turnedOver : MethodName := ⟨RX7, "turnedOver", "(II)I"⟩
abbrev cX7_directionOf : ByteArray := prog_1_method_48_code
def yX7_directionOf : MethodName := ⟨RX7, "directionOf", "(II)I"⟩
abbrev cX7_reachOf : ByteArray := prog_1_method_49_code
def yX7_reachOf : MethodName := ⟨RX7, "reachOf", "(LCoastLights$Light;)I"⟩
abbrev cX7_isWithin : ByteArray := prog_1_method_50_code
def yX7_isWithin : MethodName := ⟨RX7, "isWithin", "(III)Z"⟩
abbrev cX7_colourIn : ByteArray := prog_1_method_51_code
def yX7_colourIn : MethodName := ⟨RX7, "colourIn", "(LCoastLights$Light;I)I"⟩
abbrev cX7_seenFrom : ByteArray := prog_1_method_52_code
def yX7_seenFrom : MethodName := ⟨RX7, "seenFrom", "(I)I"⟩
abbrev cX7_mostAlike : ByteArray := prog_1_method_53_code
def yX7_mostAlike : MethodName := ⟨RX7, "mostAlike", "(LCoastLights$Light;LCoastLights$Light;)I"⟩
abbrev cX7_findFix : ByteArray := prog_1_method_54_code
def yX7_findFix : MethodName := ⟨RX7, "findFix", "()V"⟩
abbrev cX7_holdsForAll : ByteArray := prog_1_method_55_code
def yX7_holdsForAll : MethodName := ⟨RX7, "holdsForAll", "(I)Z"⟩
abbrev cX7_holdsFor : ByteArray := prog_1_method_56_code
def yX7_holdsFor : MethodName := ⟨RX7, "holdsFor", "(ILCoastLights$Light;I)Z"⟩
abbrev cX7_liesIn : ByteArray := prog_1_method_57_code
def yX7_liesIn : MethodName := ⟨RX7, "liesIn", "(III)Z"⟩
abbrev cX7_placeInFairway : ByteArray := prog_1_method_58_code
def yX7_placeInFairway : MethodName := ⟨RX7, "placeInFairway", "(I)I"⟩
abbrev cX7_setFairway : ByteArray := prog_1_method_59_code
def yX7_setFairway : MethodName := ⟨RX7, "setFairway", "(IZ)V"⟩
abbrev cX7_lightsFairway : ByteArray := prog_1_method_60_code
def yX7_lightsFairway : MethodName := ⟨RX7, "lightsFairway", "(I)Z"⟩
abbrev cX7_findLandings : ByteArray := prog_1_method_61_code
def yX7_findLandings : MethodName := ⟨RX7, "findLandings", "()V"⟩
abbrev cX7_firstWrong : ByteArray := prog_1_method_62_code
def yX7_firstWrong : MethodName := ⟨RX7, "firstWrong", "(LCoastLights$Sheet;)I"⟩
abbrev cX7_remember : ByteArray := prog_1_method_63_code
def yX7_remember : MethodName := ⟨RX7, "remember", "(III)LCoastLights$Step;"⟩
abbrev cX7_forgetFound : ByteArray := prog_1_method_64_code
def yX7_forgetFound : MethodName := ⟨RX7, "forgetFound", "()V"⟩
abbrev cX7_takeBack : ByteArray := prog_1_method_65_code
def yX7_takeBack : MethodName := ⟨RX7, "takeBack", "(LCoastLights$Step;)V"⟩
def RX8 : String := "CoastLightsModel"
def TX8 : u_T := fun k => match k with
  | 0 => ("CoastLightsModel", "now", "[I", true)
  | 1 => ("CoastLightsModel", "past", "[I", true)
  | 2 => ("CoastLightsModel", "kept", "I", false)
  | 3 => ("CoastLightsModel", "findings", "I", false)
  | 4 => ("CoastLightsModel", "tape", "[I", true)
  | 5 => ("CoastLightsModel", "taped", "I", false)
  | 6 => ("CoastLightsModel", "widths", "[I", true)
  | 7 => ("CoastLightsModel", "sizes", "[I", true)
  | 8 => ("CoastLightsModel", "sheets", "[I", true)
  | 9 => ("CoastLightsModel", "read", "I", false)
  | 10 => ("CoastLightsModel", "isFault", "Z", false)
  | 11 => ("CoastLightsModel", "sort", "I", false)
  | 12 => ("CoastLightsModel", "many", "I", false)
  | 13 => ("CoastLightsModel", "colour", "I", false)
  | 14 => ("CoastLightsModel", "period", "I", false)
  | 15 => ("CoastLightsModel", "periodAt", "I", false)
  | 16 => ("CoastLightsModel", "sights", "[I", true)
  | 17 => ("CoastLightsModel", "least", "[I", true)
  | _ => ("CoastLightsModel", "carried", "[I", true)
def tyX8 : Nat → FieldType := fun k => match k with
  | 0 => .array .int
  | 1 => .array .int
  | 2 => .int
  | 3 => .int
  | 4 => .array .int
  | 5 => .int
  | 6 => .array .int
  | 7 => .array .int
  | 8 => .array .int
  | 9 => .int
  | 10 => .boolean
  | 11 => .int
  | 12 => .int
  | 13 => .int
  | 14 => .int
  | 15 => .int
  | 16 => .array .int
  | 17 => .array .int
  | _ => .array .int
abbrev wsX80 : List Cond := u_ws RX8 TX8 19
theorem nmX8 : ∀ a, a < 19 → ∀ b, b < 19 → a ≠ b → (TX8 a).2.1 ≠ (TX8 b).2.1 := by decide +kernel
theorem tyX8_ok : ∀ k, k < 19 → parseFieldDescriptor (TX8 k).2.2.1 = some (tyX8 k) := by decide +kernel
abbrev cX8_init : ByteArray := prog_10_method_1_code
def yX8_init : MethodName := ⟨RX8, "<init>", "()V"⟩
abbrev cX8_finding : ByteArray := prog_10_method_2_code
def yX8_finding : MethodName := ⟨RX8, "finding", "(I)I"⟩
abbrev cX8_within : ByteArray := prog_10_method_3_code
def yX8_within : MethodName := ⟨RX8, "within", "(III)Z"⟩
abbrev cX8_isLight : ByteArray := prog_10_method_4_code
def yX8_isLight : MethodName := ⟨RX8, "isLight", "(I)Z"⟩
abbrev cX8_isCell : ByteArray := prog_10_method_5_code
def yX8_isCell : MethodName := ⟨RX8, "isCell", "(I)Z"⟩
abbrev cX8_isWay : ByteArray := prog_10_method_6_code
def yX8_isWay : MethodName := ⟨RX8, "isWay", "(I)Z"⟩
abbrev cX8_of : ByteArray := prog_10_method_7_code
def yX8_of : MethodName := ⟨RX8, "of", "(II)I"⟩
abbrev cX8_isRock : ByteArray := prog_10_method_8_code
def yX8_isRock : MethodName := ⟨RX8, "isRock", "(I)Z"⟩
abbrev cX8_keep : ByteArray := prog_10_method_9_code
def yX8_keep : MethodName := ⟨RX8, "keep", "()V"⟩
abbrev cX8_undo : ByteArray := prog_10_method_10_code
def yX8_undo : MethodName := ⟨RX8, "undo", "()I"⟩
abbrev cX8_feed : ByteArray := prog_10_method_11_code
def yX8_feed : MethodName := ⟨RX8, "feed", "(IJ)I"⟩
abbrev cX8_isHere : ByteArray := prog_10_method_12_code
def yX8_isHere : MethodName := ⟨RX8, "isHere", "(I)Z"⟩
abbrev cX8_need : ByteArray := prog_10_method_13_code
def yX8_need : MethodName := ⟨RX8, "need", "(I)V"⟩
abbrev cX8_isDigit : ByteArray := prog_10_method_14_code
def yX8_isDigit : MethodName := ⟨RX8, "isDigit", "()Z"⟩
abbrev cX8_number : ByteArray := prog_10_method_15_code
def yX8_number : MethodName := ⟨RX8, "number", "()I"⟩
abbrev cX8_readSort : ByteArray := prog_10_method_16_code
def yX8_readSort : MethodName := ⟨RX8, "readSort", "()V"⟩
abbrev cX8_goesIn : ByteArray := prog_10_method_17_code
def yX8_goesIn : MethodName := ⟨RX8, "goesIn", "()Z"⟩
abbrev cX8_faultOf : ByteArray := prog_10_method_18_code
def yX8_faultOf : MethodName := ⟨RX8, "faultOf", "()I"⟩
abbrev cX8_isLit : ByteArray := prog_10_method_19_code
def yX8_isLit : MethodName := ⟨RX8, "isLit", "(I)Z"⟩
abbrev cX8_light : ByteArray := prog_10_method_20_code
def yX8_light : MethodName := ⟨RX8, "light", "(III)I"⟩
abbrev cX8_as : ByteArray := prog_10_method_21_code
def yX8_as : MethodName := ⟨RX8, "as", "(II)I"⟩
abbrev cX8_ones : ByteArray := prog_10_method_22_code
def yX8_ones : MethodName := ⟨RX8, "ones", "(I)I"⟩
abbrev cX8_lightIs : ByteArray := prog_10_method_23_code
def yX8_lightIs : MethodName := ⟨RX8, "lightIs", "(II)I"⟩
abbrev cX8_hasLight : ByteArray := prog_10_method_24_code
def yX8_hasLight : MethodName := ⟨RX8, "hasLight", "(II)Z"⟩
abbrev cX8_at : ByteArray := prog_10_method_25_code
def yX8_at : MethodName := ⟨RX8, "at", "(II)I"⟩
abbrev cX8_sector : ByteArray := prog_10_method_26_code
def yX8_sector : MethodName := ⟨RX8, "sector", "(IIII)I"⟩
abbrev cX8_doubt : ByteArray := prog_10_method_27_code
def yX8_doubt : MethodName := ⟨RX8, "doubt", "(II)I"⟩
abbrev cX8_eastOf : ByteArray := prog_10_method_28_code
def yX8_eastOf : MethodName := ⟨RX8, "eastOf", "(I)I"⟩
abbrev cX8_northOf : ByteArray := prog_10_method_29_code
def yX8_northOf : MethodName := ⟨RX8, "northOf", "(I)I"⟩
abbrev cX8_behind : ByteArray := prog_10_method_30_code
def yX8_behind : MethodName := ⟨RX8, "behind", "(III)I"⟩
abbrev cX8_wayOf : ByteArray := prog_10_method_31_code
def yX8_wayOf : MethodName := ⟨RX8, "wayOf", "(II)I"⟩
abbrev cX8_wayBetween : ByteArray := prog_10_method_32_code
def yX8_wayBetween : MethodName := ⟨RX8, "wayBetween", "(II)I"⟩
abbrev cX8_isFrom : ByteArray := prog_10_method_33_code
def yX8_isFrom : MethodName := ⟨RX8, "isFrom", "(III)Z"⟩
abbrev cX8_direction : ByteArray := prog_10_method_34_code
def yX8_direction : MethodName := ⟨RX8, "direction", "(II)I"⟩
abbrev cX8_colourOf : ByteArray := prog_10_method_35_code
def yX8_colourOf : MethodName := ⟨RX8, "colourOf", "(II)I"⟩
abbrev cX8_colour : ByteArray := prog_10_method_36_code
def yX8_colour : MethodName := ⟨RX8, "colour", "(II)I"⟩
abbrev cX8_isNear : ByteArray := prog_10_method_37_code
def yX8_isNear : MethodName := ⟨RX8, "isNear", "(III)Z"⟩
abbrev cX8_isOut : ByteArray := prog_10_method_38_code
def yX8_isOut : MethodName := ⟨RX8, "isOut", "(III)Z"⟩
abbrev cX8_seenFrom : ByteArray := prog_10_method_39_code
def yX8_seenFrom : MethodName := ⟨RX8, "seenFrom", "(I)I"⟩
abbrev cX8_seen : ByteArray := prog_10_method_40_code
def yX8_seen : MethodName := ⟨RX8, "seen", "(I)I"⟩
abbrev cX8_becomes : ByteArray := prog_10_method_41_code
def yX8_becomes : MethodName := ⟨RX8, "becomes", "(II)I"⟩
abbrev cX8_haze : ByteArray := prog_10_method_42_code
def yX8_haze : MethodName := ⟨RX8, "haze", "(I)I"⟩
abbrev cX8_day : ByteArray := prog_10_method_43_code
def yX8_day : MethodName := ⟨RX8, "day", "(I)I"⟩
abbrev cX8_alike : ByteArray := prog_10_method_44_code
def yX8_alike : MethodName := ⟨RX8, "alike", "(II)I"⟩
abbrev cX8_apart : ByteArray := prog_10_method_45_code
def yX8_apart : MethodName := ⟨RX8, "apart", "(II)I"⟩
abbrev cX8_allApart : ByteArray := prog_10_method_46_code
def yX8_allApart : MethodName := ⟨RX8, "allApart", "(I)I"⟩
abbrev cX8_fitsFrom : ByteArray := prog_10_method_47_code
def yX8_fitsFrom : MethodName := ⟨RX8, "fitsFrom", "(III)Z"⟩
abbrev cX8_fits : ByteArray := prog_10_method_48_code
def yX8_fits : MethodName := ⟨RX8, "fits", "(I)I"⟩
abbrev cX8_bearing : ByteArray := prog_10_method_49_code
def yX8_bearing : MethodName := ⟨RX8, "bearing", "(III)I"⟩
abbrev cX8_clear : ByteArray := prog_10_method_50_code
def yX8_clear : MethodName := ⟨RX8, "clear", "()I"⟩
abbrev cX8_holds : ByteArray := prog_10_method_51_code
def yX8_holds : MethodName := ⟨RX8, "holds", "(II)Z"⟩
abbrev cX8_isInFix : ByteArray := prog_10_method_52_code
def yX8_isInFix : MethodName := ⟨RX8, "isInFix", "(I)Z"⟩
abbrev cX8_fix : ByteArray := prog_10_method_53_code
def yX8_fix : MethodName := ⟨RX8, "fix", "(Z)I"⟩
abbrev cX8_may : ByteArray := prog_10_method_54_code
def yX8_may : MethodName := ⟨RX8, "may", "(I)I"⟩
abbrev cX8_fairway : ByteArray := prog_10_method_55_code
def yX8_fairway : MethodName := ⟨RX8, "fairway", "(IZ)I"⟩
abbrev cX8_kept : ByteArray := prog_10_method_56_code
def yX8_kept : MethodName := ⟨RX8, "kept", "()I"⟩
abbrev cX8_word : ByteArray := prog_10_method_57_code
def yX8_word : MethodName := ⟨RX8, "word", "(IIIZ)I"⟩
abbrev cX8_out : ByteArray := prog_10_method_58_code
def yX8_out : MethodName := ⟨RX8, "out", "(III)I"⟩
abbrev cX8_ofRock : ByteArray := prog_10_method_59_code
def yX8_ofRock : MethodName := ⟨RX8, "ofRock", "(IIII)I"⟩
abbrev cX8_keeper : ByteArray := prog_10_method_60_code
def yX8_keeper : MethodName := ⟨RX8, "keeper", "(II)I"⟩
abbrev cX8_limit : ByteArray := prog_10_method_61_code
def yX8_limit : MethodName := ⟨RX8, "limit", "(II)I"⟩
abbrev cX8_seas : ByteArray := prog_10_method_62_code
def yX8_seas : MethodName := ⟨RX8, "seas", "(I)I"⟩
abbrev cX8_overdueOf : ByteArray := prog_10_method_63_code
def yX8_overdueOf : MethodName := ⟨RX8, "overdueOf", "(II)I"⟩
abbrev cX8_isLandable : ByteArray := prog_10_method_64_code
def yX8_isLandable : MethodName := ⟨RX8, "isLandable", "(II)Z"⟩
abbrev cX8_restOf : ByteArray := prog_10_method_65_code
def yX8_restOf : MethodName := ⟨RX8, "restOf", "(I)I"⟩
abbrev cX8_byLanding : ByteArray := prog_10_method_66_code
def yX8_byLanding : MethodName := ⟨RX8, "byLanding", "(III)I"⟩
abbrev cX8_findLandings : ByteArray := prog_10_method_67_code
def yX8_findLandings : MethodName := ⟨RX8, "findLandings", "()V"⟩
abbrev cX8_overdue : ByteArray := prog_10_method_68_code
def yX8_overdue : MethodName := ⟨RX8, "overdue", "()I"⟩
abbrev cX8_firstOn : ByteArray := prog_10_method_69_code
def yX8_firstOn : MethodName := ⟨RX8, "firstOn", "(II)I"⟩
abbrev cX8_landing : ByteArray := prog_10_method_70_code
def yX8_landing : MethodName := ⟨RX8, "landing", "(I)I"⟩
abbrev cX8_proves : ByteArray := prog_10_method_71_code
def yX8_proves : MethodName := ⟨RX8, "proves", "(I)I"⟩
abbrev cX8_isSheet : ByteArray := prog_10_method_72_code
def yX8_isSheet : MethodName := ⟨RX8, "isSheet", "(I)Z"⟩
abbrev cX8_sheet : ByteArray := prog_10_method_73_code
def yX8_sheet : MethodName := ⟨RX8, "sheet", "(III)I"⟩
abbrev cX8_put : ByteArray := prog_10_method_74_code
def yX8_put : MethodName := ⟨RX8, "put", "(III)I"⟩
abbrev cX8_copy : ByteArray := prog_10_method_75_code
def yX8_copy : MethodName := ⟨RX8, "copy", "(IIIII)I"⟩
abbrev cX8_all : ByteArray := prog_10_method_76_code
def yX8_all : MethodName := ⟨RX8, "all", "(I)I"⟩
def RJ6 : String := "java/lang/Integer"
def TJ6 : u_T := fun k => match k with
  | _ => ("", "", "", false)
def tyJ6 : Nat → FieldType := fun k => match k with
  | _ => .int
theorem nmJ6 : ∀ a, a < 0 → ∀ b, b < 0 → a ≠ b → (TJ6 a).2.1 ≠ (TJ6 b).2.1 := by decide +kernel
theorem tyJ6_ok : ∀ k, k < 0 → parseFieldDescriptor (TJ6 k).2.2.1 = some (tyJ6 k) := by decide +kernel
abbrev cJ6_bitCount_0f7a4 : ByteArray := prog_11_method_49_code
def yJ6_bitCount_0f7a4 : MethodName := ⟨RJ6, "bitCount", "(I)I"⟩
def RJ13 : String := "java/lang/Long"
def TJ13 : u_T := fun k => match k with
  | _ => ("", "", "", false)
def tyJ13 : Nat → FieldType := fun k => match k with
  | _ => .int
theorem nmJ13 : ∀ a, a < 0 → ∀ b, b < 0 → a ≠ b → (TJ13 a).2.1 ≠ (TJ13 b).2.1 := by decide +kernel
theorem tyJ13_ok : ∀ k, k < 0 → parseFieldDescriptor (TJ13 k).2.2.1 = some (tyJ13 k) := by decide +kernel
abbrev cJ13_bitCount_95d88 : ByteArray := prog_12_method_50_code
def yJ13_bitCount_95d88 : MethodName := ⟨RJ13, "bitCount", "(J)I"⟩
def RJ9 : String := "java/lang/Math"
def TJ9 : u_T := fun k => match k with
  | _ => ("", "", "", false)
def tyJ9 : Nat → FieldType := fun k => match k with
  | _ => .int
theorem nmJ9 : ∀ a, a < 0 → ∀ b, b < 0 → a ≠ b → (TJ9 a).2.1 ≠ (TJ9 b).2.1 := by decide +kernel
theorem tyJ9_ok : ∀ k, k < 0 → parseFieldDescriptor (TJ9 k).2.2.1 = some (tyJ9 k) := by decide +kernel
abbrev cJ9_max_7cf53 : ByteArray := prog_13_method_65_code
def yJ9_max_7cf53 : MethodName := ⟨RJ9, "max", "(II)I"⟩
abbrev cJ9_min_7cf53 : ByteArray := prog_13_method_69_code
def yJ9_min_7cf53 : MethodName := ⟨RJ9, "min", "(II)I"⟩
def RJ10 : String := "java/lang/System"
def TJ10 : u_T := fun k => match k with
  | _ => ("", "", "", false)
def tyJ10 : Nat → FieldType := fun k => match k with
  | _ => .int
theorem nmJ10 : ∀ a, a < 0 → ∀ b, b < 0 → a ≠ b → (TJ10 a).2.1 ≠ (TJ10 b).2.1 := by decide +kernel
theorem tyJ10_ok : ∀ k, k < 0 → parseFieldDescriptor (TJ10 k).2.2.1 = some (tyJ10 k) := by decide +kernel
def RL : String := "CoastLightsLaw"
abbrev cL_law : ByteArray := code
def yL_law : MethodName := ⟨RL, "law", "([I)Z"⟩
abbrev vwCl : List vw_C := [(RX0, TX0, 8), (RX1, TX1, 12), (RX2, TX2, 3), (RX3, TX3, 3), (RX4, TX4, 4), (RX5, TX5, 9), (RX6, TX6, 6), (RX7, TX7, 19), (RX8, TX8, 19)]
end
section
theorem dX0_init_0 : decode cX0_init 0 = .ok (.aload_n 0, 1) := by decide +kernel
theorem dX0_init_1 : decode cX0_init 1 = .ok (.invokespecial 3, 3) := by decide +kernel
theorem dX0_init_4 : decode cX0_init 4 = .ok (.aload_n 0, 1) := by decide +kernel
theorem dX0_init_5 : decode cX0_init 5 = .ok (.bipush 20, 2) := by decide +kernel
theorem dX0_init_7 : decode cX0_init 7 = .ok (.newarray .int, 2) := by decide +kernel
theorem dX0_init_9 : decode cX0_init 9 = .ok (.putfield 9, 3) := by decide +kernel
theorem dX0_init_12 : decode cX0_init 12 = .ok (.aload_n 0, 1) := by decide +kernel
theorem dX0_init_13 : decode cX0_init 13 = .ok (.bipush 10, 2) := by decide +kernel
theorem dX0_init_15 : decode cX0_init 15 = .ok (.newarray .int, 2) := by decide +kernel
theorem dX0_init_17 : decode cX0_init 17 = .ok (.putfield 15, 3) := by decide +kernel
theorem dX0_init_20 : decode cX0_init 20 = .ok (.aload_n 0, 1) := by decide +kernel
theorem dX0_init_21 : decode cX0_init 21 = .ok (.bipush 10, 2) := by decide +kernel
theorem dX0_init_23 : decode cX0_init 23 = .ok (.newarray .int, 2) := by decide +kernel
theorem dX0_init_25 : decode cX0_init 25 = .ok (.putfield 18, 3) := by decide +kernel
theorem dX0_init_28 : decode cX0_init 28 = .ok (.aload_n 0, 1) := by decide +kernel
theorem dX0_init_29 : decode cX0_init 29 = .ok (.iconst 0, 1) := by decide +kernel
theorem dX0_init_30 : decode cX0_init 30 = .ok (.newarray .int, 2) := by decide +kernel
theorem dX0_init_32 : decode cX0_init 32 = .ok (.putfield 21, 3) := by decide +kernel
theorem dX0_init_35 : decode cX0_init 35 = .ok (.aload_n 0, 1) := by decide +kernel
theorem dX0_init_36 : decode cX0_init 36 = .ok (.iconst 0, 1) := by decide +kernel
theorem dX0_init_37 : decode cX0_init 37 = .ok (.newarray .int, 2) := by decide +kernel
theorem dX0_init_39 : decode cX0_init 39 = .ok (.putfield 24, 3) := by decide +kernel
theorem dX0_init_42 : decode cX0_init 42 = .ok (.return_, 1) := by decide +kernel
theorem dX0_find_0 : decode cX0_find 0 = .ok (.aload_n 0, 1) := by decide +kernel
theorem dX0_find_1 : decode cX0_find 1 = .ok (.aload_n 1, 1) := by decide +kernel
theorem dX0_find_2 : decode cX0_find 2 = .ok (.iload_n 2, 1) := by decide +kernel
theorem dX0_find_3 : decode cX0_find 3 = .ok (.aload_n 3, 1) := by decide +kernel
theorem dX0_find_4 : decode cX0_find 4 = .ok (.iload 4, 2) := by decide +kernel
theorem dX0_find_6 : decode cX0_find 6 = .ok (.invokevirtual 27, 3) := by decide +kernel
theorem dX0_find_9 : decode cX0_find 9 = .ok (.istore 5, 2) := by decide +kernel
theorem dX0_find_11 : decode cX0_find 11 = .ok (.aload_n 0, 1) := by decide +kernel
theorem dX0_find_12 : decode cX0_find 12 = .ok (.invokevirtual 31, 3) := by decide +kernel
theorem dX0_find_15 : decode cX0_find 15 = .ok (.aload_n 0, 1) := by decide +kernel
theorem dX0_find_16 : decode cX0_find 16 = .ok (.aload_n 1, 1) := by decide +kernel
theorem dX0_find_17 : decode cX0_find 17 = .ok (.invokevirtual 34, 3) := by decide +kernel
theorem dX0_find_20 : decode cX0_find 20 = .ok (.bipush 19, 2) := by decide +kernel
theorem dX0_find_22 : decode cX0_find 22 = .ok (.istore 6, 2) := by decide +kernel
theorem dX0_find_24 : decode cX0_find 24 = .ok (.iload 6, 2) := by decide +kernel
theorem dX0_find_26 : decode cX0_find 26 = .ok (.iload 4, 2) := by decide +kernel
theorem dX0_find_28 : decode cX0_find 28 = .ok (.if_icmp .lt 26, 3) := by decide +kernel
theorem dX0_find_31 : decode cX0_find 31 = .ok (.aload_n 0, 1) := by decide +kernel
theorem dX0_find_32 : decode cX0_find 32 = .ok (.aload_n 1, 1) := by decide +kernel
theorem dX0_find_33 : decode cX0_find 33 = .ok (.iload 6, 2) := by decide +kernel
theorem dX0_find_35 : decode cX0_find 35 = .ok (.aload_n 3, 1) := by decide +kernel
theorem dX0_find_36 : decode cX0_find 36 = .ok (.iload 6, 2) := by decide +kernel
theorem dX0_find_38 : decode cX0_find 38 = .ok (.iaload, 1) := by decide +kernel
theorem dX0_find_39 : decode cX0_find 39 = .ok (.invokevirtual 38, 3) := by decide +kernel
theorem dX0_find_42 : decode cX0_find 42 = .ok (.aload_n 0, 1) := by decide +kernel
theorem dX0_find_43 : decode cX0_find 43 = .ok (.iload 6, 2) := by decide +kernel
theorem dX0_find_45 : decode cX0_find 45 = .ok (.invokevirtual 42, 3) := by decide +kernel
theorem dX0_find_48 : decode cX0_find 48 = .ok (.iinc 6 (-1), 3) := by decide +kernel
theorem dX0_find_51 : decode cX0_find 51 = .ok (.goto (-27), 3) := by decide +kernel
theorem dX0_find_54 : decode cX0_find 54 = .ok (.aload_n 0, 1) := by decide +kernel
theorem dX0_find_55 : decode cX0_find 55 = .ok (.iload 4, 2) := by decide +kernel
theorem dX0_find_57 : decode cX0_find 57 = .ok (.invokevirtual 46, 3) := by decide +kernel
theorem dX0_find_60 : decode cX0_find 60 = .ok (.aload_n 0, 1) := by decide +kernel
theorem dX0_find_61 : decode cX0_find 61 = .ok (.iload 5, 2) := by decide +kernel
theorem dX0_find_63 : decode cX0_find 63 = .ok (.aload_n 0, 1) := by decide +kernel
theorem dX0_find_64 : decode cX0_find 64 = .ok (.getfield 21, 3) := by decide +kernel
theorem dX0_find_67 : decode cX0_find 67 = .ok (.iconst 0, 1) := by decide +kernel
theorem dX0_find_68 : decode cX0_find 68 = .ok (.iaload, 1) := by decide +kernel
theorem dX0_find_69 : decode cX0_find 69 = .ok (.iadd, 1) := by decide +kernel
theorem dX0_find_70 : decode cX0_find 70 = .ok (.putfield 49, 3) := by decide +kernel
theorem dX0_find_73 : decode cX0_find 73 = .ok (.return_, 1) := by decide +kernel
theorem dX0_pickRocks_0 : decode cX0_pickRocks 0 = .ok (.aload_n 0, 1) := by decide +kernel
theorem dX0_pickRocks_1 : decode cX0_pickRocks 1 = .ok (.iconst 0, 1) := by decide +kernel
theorem dX0_pickRocks_2 : decode cX0_pickRocks 2 = .ok (.putfield 53, 3) := by decide +kernel
theorem dX0_pickRocks_5 : decode cX0_pickRocks 5 = .ok (.iconst 0, 1) := by decide +kernel
theorem dX0_pickRocks_6 : decode cX0_pickRocks 6 = .ok (.istore 5, 2) := by decide +kernel
theorem dX0_pickRocks_8 : decode cX0_pickRocks 8 = .ok (.iconst 0, 1) := by decide +kernel
theorem dX0_pickRocks_9 : decode cX0_pickRocks 9 = .ok (.istore 6, 2) := by decide +kernel
theorem dX0_pickRocks_11 : decode cX0_pickRocks 11 = .ok (.iload 6, 2) := by decide +kernel
theorem dX0_pickRocks_13 : decode cX0_pickRocks 13 = .ok (.iload_n 2, 1) := by decide +kernel
theorem dX0_pickRocks_14 : decode cX0_pickRocks 14 = .ok (.if_icmp .ge 85, 3) := by decide +kernel
theorem dX0_pickRocks_17 : decode cX0_pickRocks 17 = .ok (.aload_n 1, 1) := by decide +kernel
theorem dX0_pickRocks_18 : decode cX0_pickRocks 18 = .ok (.iload 6, 2) := by decide +kernel
theorem dX0_pickRocks_20 : decode cX0_pickRocks 20 = .ok (.aaload, 1) := by decide +kernel
theorem dX0_pickRocks_21 : decode cX0_pickRocks 21 = .ok (.invokevirtual 56, 3) := by decide +kernel
theorem dX0_pickRocks_24 : decode cX0_pickRocks 24 = .ok (.ifCond .eq 69, 3) := by decide +kernel
theorem dX0_pickRocks_27 : decode cX0_pickRocks 27 = .ok (.aload_n 1, 1) := by decide +kernel
theorem dX0_pickRocks_28 : decode cX0_pickRocks 28 = .ok (.iload 6, 2) := by decide +kernel
theorem dX0_pickRocks_30 : decode cX0_pickRocks 30 = .ok (.aaload, 1) := by decide +kernel
theorem dX0_pickRocks_31 : decode cX0_pickRocks 31 = .ok (.bipush 20, 2) := by decide +kernel
theorem dX0_pickRocks_33 : decode cX0_pickRocks 33 = .ok (.invokevirtual 62, 3) := by decide +kernel
theorem dX0_pickRocks_36 : decode cX0_pickRocks 36 = .ok (.ifCond .ne 6, 3) := by decide +kernel
theorem dX0_pickRocks_39 : decode cX0_pickRocks 39 = .ok (.goto 54, 3) := by decide +kernel
theorem dX0_pickRocks_42 : decode cX0_pickRocks 42 = .ok (.aload_n 1, 1) := by decide +kernel
theorem dX0_pickRocks_43 : decode cX0_pickRocks 43 = .ok (.iload 6, 2) := by decide +kernel
theorem dX0_pickRocks_45 : decode cX0_pickRocks 45 = .ok (.aaload, 1) := by decide +kernel
theorem dX0_pickRocks_46 : decode cX0_pickRocks 46 = .ok (.aload_n 3, 1) := by decide +kernel
theorem dX0_pickRocks_47 : decode cX0_pickRocks 47 = .ok (.iload 4, 2) := by decide +kernel
theorem dX0_pickRocks_49 : decode cX0_pickRocks 49 = .ok (.invokestatic 66, 3) := by decide +kernel
theorem dX0_pickRocks_52 : decode cX0_pickRocks 52 = .ok (.ifCond .eq 27, 3) := by decide +kernel
theorem dX0_pickRocks_55 : decode cX0_pickRocks 55 = .ok (.aload_n 0, 1) := by decide +kernel
theorem dX0_pickRocks_56 : decode cX0_pickRocks 56 = .ok (.getfield 15, 3) := by decide +kernel
theorem dX0_pickRocks_59 : decode cX0_pickRocks 59 = .ok (.aload_n 0, 1) := by decide +kernel
theorem dX0_pickRocks_60 : decode cX0_pickRocks 60 = .ok (.getfield 53, 3) := by decide +kernel
theorem dX0_pickRocks_63 : decode cX0_pickRocks 63 = .ok (.iload 6, 2) := by decide +kernel
theorem dX0_pickRocks_65 : decode cX0_pickRocks 65 = .ok (.iastore, 1) := by decide +kernel
theorem dX0_pickRocks_66 : decode cX0_pickRocks 66 = .ok (.aload_n 0, 1) := by decide +kernel
theorem dX0_pickRocks_67 : decode cX0_pickRocks 67 = .ok (.dup, 1) := by decide +kernel
theorem dX0_pickRocks_68 : decode cX0_pickRocks 68 = .ok (.getfield 53, 3) := by decide +kernel
theorem dX0_pickRocks_71 : decode cX0_pickRocks 71 = .ok (.iconst 1, 1) := by decide +kernel
theorem dX0_pickRocks_72 : decode cX0_pickRocks 72 = .ok (.iadd, 1) := by decide +kernel
theorem dX0_pickRocks_73 : decode cX0_pickRocks 73 = .ok (.putfield 53, 3) := by decide +kernel
theorem dX0_pickRocks_76 : decode cX0_pickRocks 76 = .ok (.goto 17, 3) := by decide +kernel
theorem dX0_pickRocks_79 : decode cX0_pickRocks 79 = .ok (.iload 5, 2) := by decide +kernel
theorem dX0_pickRocks_81 : decode cX0_pickRocks 81 = .ok (.aload_n 1, 1) := by decide +kernel
theorem dX0_pickRocks_82 : decode cX0_pickRocks 82 = .ok (.iload 6, 2) := by decide +kernel
theorem dX0_pickRocks_84 : decode cX0_pickRocks 84 = .ok (.aaload, 1) := by decide +kernel
theorem dX0_pickRocks_85 : decode cX0_pickRocks 85 = .ok (.bipush 20, 2) := by decide +kernel
theorem dX0_pickRocks_87 : decode cX0_pickRocks 87 = .ok (.invokevirtual 62, 3) := by decide +kernel
theorem dX0_pickRocks_90 : decode cX0_pickRocks 90 = .ok (.iadd, 1) := by decide +kernel
theorem dX0_pickRocks_91 : decode cX0_pickRocks 91 = .ok (.istore 5, 2) := by decide +kernel
theorem dX0_pickRocks_93 : decode cX0_pickRocks 93 = .ok (.iinc 6 1, 3) := by decide +kernel
theorem dX0_pickRocks_96 : decode cX0_pickRocks 96 = .ok (.goto (-85), 3) := by decide +kernel
theorem dX0_pickRocks_99 : decode cX0_pickRocks 99 = .ok (.iload 5, 2) := by decide +kernel
theorem dX0_pickRocks_101 : decode cX0_pickRocks 101 = .ok (.ireturn, 1) := by decide +kernel
theorem dX0_landsFrom_0 : decode cX0_landsFrom 0 = .ok (.iload_n 2, 1) := by decide +kernel
theorem dX0_landsFrom_1 : decode cX0_landsFrom 1 = .ok (.istore_n 3, 1) := by decide +kernel
theorem dX0_landsFrom_2 : decode cX0_landsFrom 2 = .ok (.iload_n 3, 1) := by decide +kernel
theorem dX0_landsFrom_3 : decode cX0_landsFrom 3 = .ok (.bipush 20, 2) := by decide +kernel
theorem dX0_landsFrom_5 : decode cX0_landsFrom 5 = .ok (.if_icmp .ge 21, 3) := by decide +kernel
theorem dX0_landsFrom_8 : decode cX0_landsFrom 8 = .ok (.aload_n 0, 1) := by decide +kernel
theorem dX0_landsFrom_9 : decode cX0_landsFrom 9 = .ok (.aload_n 1, 1) := by decide +kernel
theorem dX0_landsFrom_10 : decode cX0_landsFrom 10 = .ok (.iload_n 3, 1) := by decide +kernel
theorem dX0_landsFrom_11 : decode cX0_landsFrom 11 = .ok (.iaload, 1) := by decide +kernel
theorem dX0_landsFrom_12 : decode cX0_landsFrom 12 = .ok (.invokevirtual 70, 3) := by decide +kernel
theorem dX0_landsFrom_15 : decode cX0_landsFrom 15 = .ok (.ifCond .eq 5, 3) := by decide +kernel
theorem dX0_landsFrom_18 : decode cX0_landsFrom 18 = .ok (.iconst 1, 1) := by decide +kernel
theorem dX0_landsFrom_19 : decode cX0_landsFrom 19 = .ok (.ireturn, 1) := by decide +kernel
theorem dX0_landsFrom_20 : decode cX0_landsFrom 20 = .ok (.iinc 3 1, 3) := by decide +kernel
theorem dX0_landsFrom_23 : decode cX0_landsFrom 23 = .ok (.goto (-21), 3) := by decide +kernel
theorem dX0_landsFrom_26 : decode cX0_landsFrom 26 = .ok (.iconst 0, 1) := by decide +kernel
theorem dX0_landsFrom_27 : decode cX0_landsFrom 27 = .ok (.ireturn, 1) := by decide +kernel
theorem dX0_makeRoom_0 : decode cX0_makeRoom 0 = .ok (.aload_n 0, 1) := by decide +kernel
theorem dX0_makeRoom_1 : decode cX0_makeRoom 1 = .ok (.iconst 1, 1) := by decide +kernel
theorem dX0_makeRoom_2 : decode cX0_makeRoom 2 = .ok (.aload_n 0, 1) := by decide +kernel
theorem dX0_makeRoom_3 : decode cX0_makeRoom 3 = .ok (.getfield 53, 3) := by decide +kernel
theorem dX0_makeRoom_6 : decode cX0_makeRoom 6 = .ok (.ishl, 1) := by decide +kernel
theorem dX0_makeRoom_7 : decode cX0_makeRoom 7 = .ok (.putfield 74, 3) := by decide +kernel
theorem dX0_makeRoom_10 : decode cX0_makeRoom 10 = .ok (.aload_n 0, 1) := by decide +kernel
theorem dX0_makeRoom_11 : decode cX0_makeRoom 11 = .ok (.getfield 21, 3) := by decide +kernel
theorem dX0_makeRoom_14 : decode cX0_makeRoom 14 = .ok (.arraylength, 1) := by decide +kernel
theorem dX0_makeRoom_15 : decode cX0_makeRoom 15 = .ok (.aload_n 0, 1) := by decide +kernel
theorem dX0_makeRoom_16 : decode cX0_makeRoom 16 = .ok (.getfield 74, 3) := by decide +kernel
theorem dX0_makeRoom_19 : decode cX0_makeRoom 19 = .ok (.if_icmp .ge 26, 3) := by decide +kernel
theorem dX0_makeRoom_22 : decode cX0_makeRoom 22 = .ok (.aload_n 0, 1) := by decide +kernel
theorem dX0_makeRoom_23 : decode cX0_makeRoom 23 = .ok (.aload_n 0, 1) := by decide +kernel
theorem dX0_makeRoom_24 : decode cX0_makeRoom 24 = .ok (.getfield 74, 3) := by decide +kernel
theorem dX0_makeRoom_27 : decode cX0_makeRoom 27 = .ok (.newarray .int, 2) := by decide +kernel
theorem dX0_makeRoom_29 : decode cX0_makeRoom 29 = .ok (.putfield 21, 3) := by decide +kernel
theorem dX0_makeRoom_32 : decode cX0_makeRoom 32 = .ok (.aload_n 0, 1) := by decide +kernel
theorem dX0_makeRoom_33 : decode cX0_makeRoom 33 = .ok (.aload_n 0, 1) := by decide +kernel
theorem dX0_makeRoom_34 : decode cX0_makeRoom 34 = .ok (.getfield 74, 3) := by decide +kernel
theorem dX0_makeRoom_37 : decode cX0_makeRoom 37 = .ok (.bipush 20, 2) := by decide +kernel
theorem dX0_makeRoom_39 : decode cX0_makeRoom 39 = .ok (.imul, 1) := by decide +kernel
theorem dX0_makeRoom_40 : decode cX0_makeRoom 40 = .ok (.newarray .int, 2) := by decide +kernel
theorem dX0_makeRoom_42 : decode cX0_makeRoom 42 = .ok (.putfield 24, 3) := by decide +kernel
theorem dX0_makeRoom_45 : decode cX0_makeRoom 45 = .ok (.return_, 1) := by decide +kernel
theorem dX0_endCosts_0 : decode cX0_endCosts 0 = .ok (.iconst 0, 1) := by decide +kernel
theorem dX0_endCosts_1 : decode cX0_endCosts 1 = .ok (.istore_n 2, 1) := by decide +kernel
theorem dX0_endCosts_2 : decode cX0_endCosts 2 = .ok (.iload_n 2, 1) := by decide +kernel
theorem dX0_endCosts_3 : decode cX0_endCosts 3 = .ok (.aload_n 0, 1) := by decide +kernel
theorem dX0_endCosts_4 : decode cX0_endCosts 4 = .ok (.getfield 74, 3) := by decide +kernel
theorem dX0_endCosts_7 : decode cX0_endCosts 7 = .ok (.if_icmp .ge 62, 3) := by decide +kernel
theorem dX0_endCosts_10 : decode cX0_endCosts 10 = .ok (.iconst 0, 1) := by decide +kernel
theorem dX0_endCosts_11 : decode cX0_endCosts 11 = .ok (.istore_n 3, 1) := by decide +kernel
theorem dX0_endCosts_12 : decode cX0_endCosts 12 = .ok (.iconst 0, 1) := by decide +kernel
theorem dX0_endCosts_13 : decode cX0_endCosts 13 = .ok (.istore 4, 2) := by decide +kernel
theorem dX0_endCosts_15 : decode cX0_endCosts 15 = .ok (.iload 4, 2) := by decide +kernel
theorem dX0_endCosts_17 : decode cX0_endCosts 17 = .ok (.aload_n 0, 1) := by decide +kernel
theorem dX0_endCosts_18 : decode cX0_endCosts 18 = .ok (.getfield 53, 3) := by decide +kernel
theorem dX0_endCosts_21 : decode cX0_endCosts 21 = .ok (.if_icmp .ge 35, 3) := by decide +kernel
theorem dX0_endCosts_24 : decode cX0_endCosts 24 = .ok (.iload_n 2, 1) := by decide +kernel
theorem dX0_endCosts_25 : decode cX0_endCosts 25 = .ok (.iload 4, 2) := by decide +kernel
theorem dX0_endCosts_27 : decode cX0_endCosts 27 = .ok (.ishr, 1) := by decide +kernel
theorem dX0_endCosts_28 : decode cX0_endCosts 28 = .ok (.iconst 1, 1) := by decide +kernel
theorem dX0_endCosts_29 : decode cX0_endCosts 29 = .ok (.iand, 1) := by decide +kernel
theorem dX0_endCosts_30 : decode cX0_endCosts 30 = .ok (.ifCond .ne 20, 3) := by decide +kernel
theorem dX0_endCosts_33 : decode cX0_endCosts 33 = .ok (.iload_n 3, 1) := by decide +kernel
theorem dX0_endCosts_34 : decode cX0_endCosts 34 = .ok (.aload_n 1, 1) := by decide +kernel
theorem dX0_endCosts_35 : decode cX0_endCosts 35 = .ok (.aload_n 0, 1) := by decide +kernel
theorem dX0_endCosts_36 : decode cX0_endCosts 36 = .ok (.getfield 15, 3) := by decide +kernel
theorem dX0_endCosts_39 : decode cX0_endCosts 39 = .ok (.iload 4, 2) := by decide +kernel
theorem dX0_endCosts_41 : decode cX0_endCosts 41 = .ok (.iaload, 1) := by decide +kernel
theorem dX0_endCosts_42 : decode cX0_endCosts 42 = .ok (.aaload, 1) := by decide +kernel
theorem dX0_endCosts_43 : decode cX0_endCosts 43 = .ok (.bipush 20, 2) := by decide +kernel
theorem dX0_endCosts_45 : decode cX0_endCosts 45 = .ok (.invokevirtual 62, 3) := by decide +kernel
theorem dX0_endCosts_48 : decode cX0_endCosts 48 = .ok (.iadd, 1) := by decide +kernel
theorem dX0_endCosts_49 : decode cX0_endCosts 49 = .ok (.istore_n 3, 1) := by decide +kernel
theorem dX0_endCosts_50 : decode cX0_endCosts 50 = .ok (.iinc 4 1, 3) := by decide +kernel
theorem dX0_endCosts_53 : decode cX0_endCosts 53 = .ok (.goto (-38), 3) := by decide +kernel
theorem dX0_endCosts_56 : decode cX0_endCosts 56 = .ok (.aload_n 0, 1) := by decide +kernel
theorem dX0_endCosts_57 : decode cX0_endCosts 57 = .ok (.getfield 21, 3) := by decide +kernel
theorem dX0_endCosts_60 : decode cX0_endCosts 60 = .ok (.iload_n 2, 1) := by decide +kernel
theorem dX0_endCosts_61 : decode cX0_endCosts 61 = .ok (.iload_n 3, 1) := by decide +kernel
theorem dX0_endCosts_62 : decode cX0_endCosts 62 = .ok (.iastore, 1) := by decide +kernel
theorem dX0_endCosts_63 : decode cX0_endCosts 63 = .ok (.iinc 2 1, 3) := by decide +kernel
theorem dX0_endCosts_66 : decode cX0_endCosts 66 = .ok (.goto (-64), 3) := by decide +kernel
theorem dX0_endCosts_69 : decode cX0_endCosts 69 = .ok (.return_, 1) := by decide +kernel
theorem dX0_lookAt_0 : decode cX0_lookAt 0 = .ok (.iconst 0, 1) := by decide +kernel
theorem dX0_lookAt_1 : decode cX0_lookAt 1 = .ok (.istore 4, 2) := by decide +kernel
theorem dX0_lookAt_3 : decode cX0_lookAt 3 = .ok (.iload 4, 2) := by decide +kernel
theorem dX0_lookAt_5 : decode cX0_lookAt 5 = .ok (.aload_n 0, 1) := by decide +kernel
theorem dX0_lookAt_6 : decode cX0_lookAt 6 = .ok (.getfield 53, 3) := by decide +kernel
theorem dX0_lookAt_9 : decode cX0_lookAt 9 = .ok (.if_icmp .ge 46, 3) := by decide +kernel
theorem dX0_lookAt_12 : decode cX0_lookAt 12 = .ok (.aload_n 1, 1) := by decide +kernel
theorem dX0_lookAt_13 : decode cX0_lookAt 13 = .ok (.aload_n 0, 1) := by decide +kernel
theorem dX0_lookAt_14 : decode cX0_lookAt 14 = .ok (.getfield 15, 3) := by decide +kernel
theorem dX0_lookAt_17 : decode cX0_lookAt 17 = .ok (.iload 4, 2) := by decide +kernel
theorem dX0_lookAt_19 : decode cX0_lookAt 19 = .ok (.iaload, 1) := by decide +kernel
theorem dX0_lookAt_20 : decode cX0_lookAt 20 = .ok (.aaload, 1) := by decide +kernel
theorem dX0_lookAt_21 : decode cX0_lookAt 21 = .ok (.astore 5, 2) := by decide +kernel
theorem dX0_lookAt_23 : decode cX0_lookAt 23 = .ok (.aload_n 0, 1) := by decide +kernel
theorem dX0_lookAt_24 : decode cX0_lookAt 24 = .ok (.getfield 18, 3) := by decide +kernel
theorem dX0_lookAt_27 : decode cX0_lookAt 27 = .ok (.iload 4, 2) := by decide +kernel
theorem dX0_lookAt_29 : decode cX0_lookAt 29 = .ok (.aload 5, 2) := by decide +kernel
theorem dX0_lookAt_31 : decode cX0_lookAt 31 = .ok (.iload_n 3, 1) := by decide +kernel
theorem dX0_lookAt_32 : decode cX0_lookAt 32 = .ok (.invokevirtual 70, 3) := by decide +kernel
theorem dX0_lookAt_35 : decode cX0_lookAt 35 = .ok (.ifCond .eq 12, 3) := by decide +kernel
theorem dX0_lookAt_38 : decode cX0_lookAt 38 = .ok (.aload 5, 2) := by decide +kernel
theorem dX0_lookAt_40 : decode cX0_lookAt 40 = .ok (.iload_n 2, 1) := by decide +kernel
theorem dX0_lookAt_41 : decode cX0_lookAt 41 = .ok (.invokevirtual 62, 3) := by decide +kernel
theorem dX0_lookAt_44 : decode cX0_lookAt 44 = .ok (.goto 4, 3) := by decide +kernel
theorem dX0_lookAt_47 : decode cX0_lookAt 47 = .ok (.iconst (-1), 1) := by decide +kernel
theorem dX0_lookAt_48 : decode cX0_lookAt 48 = .ok (.iastore, 1) := by decide +kernel
theorem dX0_lookAt_49 : decode cX0_lookAt 49 = .ok (.iinc 4 1, 3) := by decide +kernel
theorem dX0_lookAt_52 : decode cX0_lookAt 52 = .ok (.goto (-49), 3) := by decide +kernel
theorem dX0_lookAt_55 : decode cX0_lookAt 55 = .ok (.return_, 1) := by decide +kernel
theorem dX0_workBack_0 : decode cX0_workBack 0 = .ok (.iconst 0, 1) := by decide +kernel
theorem dX0_workBack_1 : decode cX0_workBack 1 = .ok (.istore_n 2, 1) := by decide +kernel
theorem dX0_workBack_2 : decode cX0_workBack 2 = .ok (.iload_n 2, 1) := by decide +kernel
theorem dX0_workBack_3 : decode cX0_workBack 3 = .ok (.aload_n 0, 1) := by decide +kernel
theorem dX0_workBack_4 : decode cX0_workBack 4 = .ok (.getfield 74, 3) := by decide +kernel
theorem dX0_workBack_7 : decode cX0_workBack 7 = .ok (.if_icmp .ge 116, 3) := by decide +kernel
theorem dX0_workBack_10 : decode cX0_workBack 10 = .ok (.aload_n 0, 1) := by decide +kernel
theorem dX0_workBack_11 : decode cX0_workBack 11 = .ok (.getfield 21, 3) := by decide +kernel
theorem dX0_workBack_14 : decode cX0_workBack 14 = .ok (.iload_n 2, 1) := by decide +kernel
theorem dX0_workBack_15 : decode cX0_workBack 15 = .ok (.iaload, 1) := by decide +kernel
theorem dX0_workBack_16 : decode cX0_workBack 16 = .ok (.istore_n 3, 1) := by decide +kernel
theorem dX0_workBack_17 : decode cX0_workBack 17 = .ok (.iconst (-1), 1) := by decide +kernel
theorem dX0_workBack_18 : decode cX0_workBack 18 = .ok (.istore 4, 2) := by decide +kernel
theorem dX0_workBack_20 : decode cX0_workBack 20 = .ok (.iconst 0, 1) := by decide +kernel
theorem dX0_workBack_21 : decode cX0_workBack 21 = .ok (.istore 5, 2) := by decide +kernel
theorem dX0_workBack_23 : decode cX0_workBack 23 = .ok (.iload 5, 2) := by decide +kernel
theorem dX0_workBack_25 : decode cX0_workBack 25 = .ok (.aload_n 0, 1) := by decide +kernel
theorem dX0_workBack_26 : decode cX0_workBack 26 = .ok (.getfield 53, 3) := by decide +kernel
theorem dX0_workBack_29 : decode cX0_workBack 29 = .ok (.if_icmp .ge 66, 3) := by decide +kernel
theorem dX0_workBack_32 : decode cX0_workBack 32 = .ok (.aload_n 0, 1) := by decide +kernel
theorem dX0_workBack_33 : decode cX0_workBack 33 = .ok (.getfield 18, 3) := by decide +kernel
theorem dX0_workBack_36 : decode cX0_workBack 36 = .ok (.iload 5, 2) := by decide +kernel
theorem dX0_workBack_38 : decode cX0_workBack 38 = .ok (.iaload, 1) := by decide +kernel
theorem dX0_workBack_39 : decode cX0_workBack 39 = .ok (.ifCond .lt 50, 3) := by decide +kernel
theorem dX0_workBack_42 : decode cX0_workBack 42 = .ok (.iload_n 2, 1) := by decide +kernel
theorem dX0_workBack_43 : decode cX0_workBack 43 = .ok (.iload 5, 2) := by decide +kernel
theorem dX0_workBack_45 : decode cX0_workBack 45 = .ok (.ishr, 1) := by decide +kernel
theorem dX0_workBack_46 : decode cX0_workBack 46 = .ok (.iconst 1, 1) := by decide +kernel
theorem dX0_workBack_47 : decode cX0_workBack 47 = .ok (.iand, 1) := by decide +kernel
theorem dX0_workBack_48 : decode cX0_workBack 48 = .ok (.iconst 1, 1) := by decide +kernel
theorem dX0_workBack_49 : decode cX0_workBack 49 = .ok (.if_icmp .ne 6, 3) := by decide +kernel
theorem dX0_workBack_52 : decode cX0_workBack 52 = .ok (.goto 37, 3) := by decide +kernel
theorem dX0_workBack_55 : decode cX0_workBack 55 = .ok (.aload_n 0, 1) := by decide +kernel
theorem dX0_workBack_56 : decode cX0_workBack 56 = .ok (.getfield 18, 3) := by decide +kernel
theorem dX0_workBack_59 : decode cX0_workBack 59 = .ok (.iload 5, 2) := by decide +kernel
theorem dX0_workBack_61 : decode cX0_workBack 61 = .ok (.iaload, 1) := by decide +kernel
theorem dX0_workBack_62 : decode cX0_workBack 62 = .ok (.aload_n 0, 1) := by decide +kernel
theorem dX0_workBack_63 : decode cX0_workBack 63 = .ok (.getfield 21, 3) := by decide +kernel
theorem dX0_workBack_66 : decode cX0_workBack 66 = .ok (.iload_n 2, 1) := by decide +kernel
theorem dX0_workBack_67 : decode cX0_workBack 67 = .ok (.iconst 1, 1) := by decide +kernel
theorem dX0_workBack_68 : decode cX0_workBack 68 = .ok (.iload 5, 2) := by decide +kernel
theorem dX0_workBack_70 : decode cX0_workBack 70 = .ok (.ishl, 1) := by decide +kernel
theorem dX0_workBack_71 : decode cX0_workBack 71 = .ok (.ior, 1) := by decide +kernel
theorem dX0_workBack_72 : decode cX0_workBack 72 = .ok (.iaload, 1) := by decide +kernel
theorem dX0_workBack_73 : decode cX0_workBack 73 = .ok (.iadd, 1) := by decide +kernel
theorem dX0_workBack_74 : decode cX0_workBack 74 = .ok (.istore 6, 2) := by decide +kernel
theorem dX0_workBack_76 : decode cX0_workBack 76 = .ok (.iload 6, 2) := by decide +kernel
theorem dX0_workBack_78 : decode cX0_workBack 78 = .ok (.iload_n 3, 1) := by decide +kernel
theorem dX0_workBack_79 : decode cX0_workBack 79 = .ok (.if_icmp .ge 10, 3) := by decide +kernel
theorem dX0_workBack_82 : decode cX0_workBack 82 = .ok (.iload 6, 2) := by decide +kernel
theorem dX0_workBack_84 : decode cX0_workBack 84 = .ok (.istore_n 3, 1) := by decide +kernel
theorem dX0_workBack_85 : decode cX0_workBack 85 = .ok (.iload 5, 2) := by decide +kernel
theorem dX0_workBack_87 : decode cX0_workBack 87 = .ok (.istore 4, 2) := by decide +kernel
theorem dX0_workBack_89 : decode cX0_workBack 89 = .ok (.iinc 5 1, 3) := by decide +kernel
theorem dX0_workBack_92 : decode cX0_workBack 92 = .ok (.goto (-69), 3) := by decide +kernel
theorem dX0_workBack_95 : decode cX0_workBack 95 = .ok (.aload_n 0, 1) := by decide +kernel
theorem dX0_workBack_96 : decode cX0_workBack 96 = .ok (.getfield 21, 3) := by decide +kernel
theorem dX0_workBack_99 : decode cX0_workBack 99 = .ok (.iload_n 2, 1) := by decide +kernel
theorem dX0_workBack_100 : decode cX0_workBack 100 = .ok (.iload_n 3, 1) := by decide +kernel
theorem dX0_workBack_101 : decode cX0_workBack 101 = .ok (.iastore, 1) := by decide +kernel
theorem dX0_workBack_102 : decode cX0_workBack 102 = .ok (.aload_n 0, 1) := by decide +kernel
theorem dX0_workBack_103 : decode cX0_workBack 103 = .ok (.getfield 24, 3) := by decide +kernel
theorem dX0_workBack_106 : decode cX0_workBack 106 = .ok (.iload_n 1, 1) := by decide +kernel
theorem dX0_workBack_107 : decode cX0_workBack 107 = .ok (.aload_n 0, 1) := by decide +kernel
theorem dX0_workBack_108 : decode cX0_workBack 108 = .ok (.getfield 74, 3) := by decide +kernel
theorem dX0_workBack_111 : decode cX0_workBack 111 = .ok (.imul, 1) := by decide +kernel
theorem dX0_workBack_112 : decode cX0_workBack 112 = .ok (.iload_n 2, 1) := by decide +kernel
theorem dX0_workBack_113 : decode cX0_workBack 113 = .ok (.iadd, 1) := by decide +kernel
theorem dX0_workBack_114 : decode cX0_workBack 114 = .ok (.iload 4, 2) := by decide +kernel
theorem dX0_workBack_116 : decode cX0_workBack 116 = .ok (.iastore, 1) := by decide +kernel
theorem dX0_workBack_117 : decode cX0_workBack 117 = .ok (.iinc 2 1, 3) := by decide +kernel
theorem dX0_workBack_120 : decode cX0_workBack 120 = .ok (.goto (-118), 3) := by decide +kernel
theorem dX0_workBack_123 : decode cX0_workBack 123 = .ok (.return_, 1) := by decide +kernel
theorem dX0_follow_0 : decode cX0_follow 0 = .ok (.iconst 0, 1) := by decide +kernel
theorem dX0_follow_1 : decode cX0_follow 1 = .ok (.istore_n 2, 1) := by decide +kernel
theorem dX0_follow_2 : decode cX0_follow 2 = .ok (.iload_n 1, 1) := by decide +kernel
theorem dX0_follow_3 : decode cX0_follow 3 = .ok (.istore_n 3, 1) := by decide +kernel
theorem dX0_follow_4 : decode cX0_follow 4 = .ok (.iload_n 3, 1) := by decide +kernel
theorem dX0_follow_5 : decode cX0_follow 5 = .ok (.bipush 20, 2) := by decide +kernel
theorem dX0_follow_7 : decode cX0_follow 7 = .ok (.if_icmp .ge 62, 3) := by decide +kernel
theorem dX0_follow_10 : decode cX0_follow 10 = .ok (.aload_n 0, 1) := by decide +kernel
theorem dX0_follow_11 : decode cX0_follow 11 = .ok (.getfield 24, 3) := by decide +kernel
theorem dX0_follow_14 : decode cX0_follow 14 = .ok (.iload_n 3, 1) := by decide +kernel
theorem dX0_follow_15 : decode cX0_follow 15 = .ok (.aload_n 0, 1) := by decide +kernel
theorem dX0_follow_16 : decode cX0_follow 16 = .ok (.getfield 74, 3) := by decide +kernel
theorem dX0_follow_19 : decode cX0_follow 19 = .ok (.imul, 1) := by decide +kernel
theorem dX0_follow_20 : decode cX0_follow 20 = .ok (.iload_n 2, 1) := by decide +kernel
theorem dX0_follow_21 : decode cX0_follow 21 = .ok (.iadd, 1) := by decide +kernel
theorem dX0_follow_22 : decode cX0_follow 22 = .ok (.iaload, 1) := by decide +kernel
theorem dX0_follow_23 : decode cX0_follow 23 = .ok (.istore 4, 2) := by decide +kernel
theorem dX0_follow_25 : decode cX0_follow 25 = .ok (.aload_n 0, 1) := by decide +kernel
theorem dX0_follow_26 : decode cX0_follow 26 = .ok (.getfield 9, 3) := by decide +kernel
theorem dX0_follow_29 : decode cX0_follow 29 = .ok (.iload_n 3, 1) := by decide +kernel
theorem dX0_follow_30 : decode cX0_follow 30 = .ok (.iload 4, 2) := by decide +kernel
theorem dX0_follow_32 : decode cX0_follow 32 = .ok (.ifCond .ge 7, 3) := by decide +kernel
theorem dX0_follow_35 : decode cX0_follow 35 = .ok (.iconst (-1), 1) := by decide +kernel
theorem dX0_follow_36 : decode cX0_follow 36 = .ok (.goto 10, 3) := by decide +kernel
theorem dX0_follow_39 : decode cX0_follow 39 = .ok (.aload_n 0, 1) := by decide +kernel
theorem dX0_follow_40 : decode cX0_follow 40 = .ok (.getfield 15, 3) := by decide +kernel
theorem dX0_follow_43 : decode cX0_follow 43 = .ok (.iload 4, 2) := by decide +kernel
theorem dX0_follow_45 : decode cX0_follow 45 = .ok (.iaload, 1) := by decide +kernel
theorem dX0_follow_46 : decode cX0_follow 46 = .ok (.iastore, 1) := by decide +kernel
theorem dX0_follow_47 : decode cX0_follow 47 = .ok (.iload 4, 2) := by decide +kernel
theorem dX0_follow_49 : decode cX0_follow 49 = .ok (.ifCond .ge 7, 3) := by decide +kernel
theorem dX0_follow_52 : decode cX0_follow 52 = .ok (.iload_n 2, 1) := by decide +kernel
theorem dX0_follow_53 : decode cX0_follow 53 = .ok (.goto 9, 3) := by decide +kernel
theorem dX0_follow_56 : decode cX0_follow 56 = .ok (.iload_n 2, 1) := by decide +kernel
theorem dX0_follow_57 : decode cX0_follow 57 = .ok (.iconst 1, 1) := by decide +kernel
theorem dX0_follow_58 : decode cX0_follow 58 = .ok (.iload 4, 2) := by decide +kernel
theorem dX0_follow_60 : decode cX0_follow 60 = .ok (.ishl, 1) := by decide +kernel
theorem dX0_follow_61 : decode cX0_follow 61 = .ok (.ior, 1) := by decide +kernel
theorem dX0_follow_62 : decode cX0_follow 62 = .ok (.istore_n 2, 1) := by decide +kernel
theorem dX0_follow_63 : decode cX0_follow 63 = .ok (.iinc 3 1, 3) := by decide +kernel
theorem dX0_follow_66 : decode cX0_follow 66 = .ok (.goto (-62), 3) := by decide +kernel
theorem dX0_follow_69 : decode cX0_follow 69 = .ok (.return_, 1) := by decide +kernel
theorem dX1_init_0 : decode cX1_init 0 = .ok (.aload_n 0, 1) := by decide +kernel
theorem dX1_init_1 : decode cX1_init 1 = .ok (.invokespecial 3, 3) := by decide +kernel
theorem dX1_init_4 : decode cX1_init 4 = .ok (.aload_n 0, 1) := by decide +kernel
theorem dX1_init_5 : decode cX1_init 5 = .ok (.bipush 30, 2) := by decide +kernel
theorem dX1_init_7 : decode cX1_init 7 = .ok (.newarray .long, 2) := by decide +kernel
theorem dX1_init_9 : decode cX1_init 9 = .ok (.putfield 11, 3) := by decide +kernel
theorem dX1_init_12 : decode cX1_init 12 = .ok (.aload_n 0, 1) := by decide +kernel
theorem dX1_init_13 : decode cX1_init 13 = .ok (.iconst 4, 1) := by decide +kernel
theorem dX1_init_14 : decode cX1_init 14 = .ok (.newarray .int, 2) := by decide +kernel
theorem dX1_init_16 : decode cX1_init 16 = .ok (.putfield 15, 3) := by decide +kernel
theorem dX1_init_19 : decode cX1_init 19 = .ok (.return_, 1) := by decide +kernel
theorem dX1_become_0 : decode cX1_become 0 = .ok (.aload_n 0, 1) := by decide +kernel
theorem dX1_become_1 : decode cX1_become 1 = .ok (.iload_n 1, 1) := by decide +kernel
theorem dX1_become_2 : decode cX1_become 2 = .ok (.putfield 19, 3) := by decide +kernel
theorem dX1_become_5 : decode cX1_become 5 = .ok (.aload_n 0, 1) := by decide +kernel
theorem dX1_become_6 : decode cX1_become 6 = .ok (.iload_n 2, 1) := by decide +kernel
theorem dX1_become_7 : decode cX1_become 7 = .ok (.putfield 23, 3) := by decide +kernel
theorem dX1_become_10 : decode cX1_become 10 = .ok (.aload_n 0, 1) := by decide +kernel
theorem dX1_become_11 : decode cX1_become 11 = .ok (.iload_n 3, 1) := by decide +kernel
theorem dX1_become_12 : decode cX1_become 12 = .ok (.putfield 26, 3) := by decide +kernel
theorem dX1_become_15 : decode cX1_become 15 = .ok (.aload_n 0, 1) := by decide +kernel
theorem dX1_become_16 : decode cX1_become 16 = .ok (.iconst 0, 1) := by decide +kernel
theorem dX1_become_17 : decode cX1_become 17 = .ok (.putfield 29, 3) := by decide +kernel
theorem dX1_become_20 : decode cX1_become 20 = .ok (.aload_n 0, 1) := by decide +kernel
theorem dX1_become_21 : decode cX1_become 21 = .ok (.iconst 0, 1) := by decide +kernel
theorem dX1_become_22 : decode cX1_become 22 = .ok (.putfield 32, 3) := by decide +kernel
theorem dX1_become_25 : decode cX1_become 25 = .ok (.aload_n 0, 1) := by decide +kernel
theorem dX1_become_26 : decode cX1_become 26 = .ok (.iconst 0, 1) := by decide +kernel
theorem dX1_become_27 : decode cX1_become 27 = .ok (.putfield 35, 3) := by decide +kernel
theorem dX1_become_30 : decode cX1_become 30 = .ok (.aload_n 0, 1) := by decide +kernel
theorem dX1_become_31 : decode cX1_become 31 = .ok (.iconst 4, 1) := by decide +kernel
theorem dX1_become_32 : decode cX1_become 32 = .ok (.putfield 38, 3) := by decide +kernel
theorem dX1_become_35 : decode cX1_become 35 = .ok (.return_, 1) := by decide +kernel
theorem dX1_take_0 : decode cX1_take 0 = .ok (.aload_n 0, 1) := by decide +kernel
theorem dX1_take_1 : decode cX1_take 1 = .ok (.aload_n 1, 1) := by decide +kernel
theorem dX1_take_2 : decode cX1_take 2 = .ok (.getfield 41, 3) := by decide +kernel
theorem dX1_take_5 : decode cX1_take 5 = .ok (.putfield 46, 3) := by decide +kernel
theorem dX1_take_8 : decode cX1_take 8 = .ok (.aload_n 0, 1) := by decide +kernel
theorem dX1_take_9 : decode cX1_take 9 = .ok (.iconst 1, 1) := by decide +kernel
theorem dX1_take_10 : decode cX1_take 10 = .ok (.bipush 30, 2) := by decide +kernel
theorem dX1_take_12 : decode cX1_take 12 = .ok (.aload_n 1, 1) := by decide +kernel
theorem dX1_take_13 : decode cX1_take 13 = .ok (.getfield 47, 3) := by decide +kernel
theorem dX1_take_16 : decode cX1_take 16 = .ok (.invokestatic 50, 3) := by decide +kernel
theorem dX1_take_19 : decode cX1_take 19 = .ok (.invokestatic 56, 3) := by decide +kernel
theorem dX1_take_22 : decode cX1_take 22 = .ok (.putfield 59, 3) := by decide +kernel
theorem dX1_take_25 : decode cX1_take 25 = .ok (.aload_n 0, 1) := by decide +kernel
theorem dX1_take_26 : decode cX1_take 26 = .ok (.aload_n 1, 1) := by decide +kernel
theorem dX1_take_27 : decode cX1_take 27 = .ok (.invokevirtual 62, 3) := by decide +kernel
theorem dX1_take_30 : decode cX1_take 30 = .ok (.putfield 66, 3) := by decide +kernel
theorem dX1_take_33 : decode cX1_take 33 = .ok (.lconst 1, 1) := by decide +kernel
theorem dX1_take_34 : decode cX1_take 34 = .ok (.aload_n 0, 1) := by decide +kernel
theorem dX1_take_35 : decode cX1_take 35 = .ok (.getfield 59, 3) := by decide +kernel
theorem dX1_take_38 : decode cX1_take 38 = .ok (.lshl, 1) := by decide +kernel
theorem dX1_take_39 : decode cX1_take 39 = .ok (.lconst 1, 1) := by decide +kernel
theorem dX1_take_40 : decode cX1_take 40 = .ok (.lsub, 1) := by decide +kernel
theorem dX1_take_41 : decode cX1_take 41 = .ok (.lstore_n 2, 1) := by decide +kernel
theorem dX1_take_42 : decode cX1_take 42 = .ok (.iconst 0, 1) := by decide +kernel
theorem dX1_take_43 : decode cX1_take 43 = .ok (.istore 4, 2) := by decide +kernel
theorem dX1_take_45 : decode cX1_take 45 = .ok (.iload 4, 2) := by decide +kernel
theorem dX1_take_47 : decode cX1_take 47 = .ok (.aload_n 0, 1) := by decide +kernel
theorem dX1_take_48 : decode cX1_take 48 = .ok (.getfield 59, 3) := by decide +kernel
theorem dX1_take_51 : decode cX1_take 51 = .ok (.if_icmp .ge 74, 3) := by decide +kernel
theorem dX1_take_54 : decode cX1_take 54 = .ok (.aload_n 0, 1) := by decide +kernel
theorem dX1_take_55 : decode cX1_take 55 = .ok (.getfield 66, 3) := by decide +kernel
theorem dX1_take_58 : decode cX1_take 58 = .ok (.iload 4, 2) := by decide +kernel
theorem dX1_take_60 : decode cX1_take 60 = .ok (.lshr, 1) := by decide +kernel
theorem dX1_take_61 : decode cX1_take 61 = .ok (.aload_n 0, 1) := by decide +kernel
theorem dX1_take_62 : decode cX1_take 62 = .ok (.getfield 66, 3) := by decide +kernel
theorem dX1_take_65 : decode cX1_take 65 = .ok (.aload_n 0, 1) := by decide +kernel
theorem dX1_take_66 : decode cX1_take 66 = .ok (.getfield 59, 3) := by decide +kernel
theorem dX1_take_69 : decode cX1_take 69 = .ok (.iload 4, 2) := by decide +kernel
theorem dX1_take_71 : decode cX1_take 71 = .ok (.isub, 1) := by decide +kernel
theorem dX1_take_72 : decode cX1_take 72 = .ok (.lshl, 1) := by decide +kernel
theorem dX1_take_73 : decode cX1_take 73 = .ok (.lor, 1) := by decide +kernel
theorem dX1_take_74 : decode cX1_take 74 = .ok (.lload_n 2, 1) := by decide +kernel
theorem dX1_take_75 : decode cX1_take 75 = .ok (.land, 1) := by decide +kernel
theorem dX1_take_76 : decode cX1_take 76 = .ok (.lstore 5, 2) := by decide +kernel
theorem dX1_take_78 : decode cX1_take 78 = .ok (.aload_n 0, 1) := by decide +kernel
theorem dX1_take_79 : decode cX1_take 79 = .ok (.getfield 59, 3) := by decide +kernel
theorem dX1_take_82 : decode cX1_take 82 = .ok (.istore 7, 2) := by decide +kernel
theorem dX1_take_84 : decode cX1_take 84 = .ok (.iload 7, 2) := by decide +kernel
theorem dX1_take_86 : decode cX1_take 86 = .ok (.bipush 64, 2) := by decide +kernel
theorem dX1_take_88 : decode cX1_take 88 = .ok (.if_icmp .ge 22, 3) := by decide +kernel
theorem dX1_take_91 : decode cX1_take 91 = .ok (.lload 5, 2) := by decide +kernel
theorem dX1_take_93 : decode cX1_take 93 = .ok (.lload 5, 2) := by decide +kernel
theorem dX1_take_95 : decode cX1_take 95 = .ok (.iload 7, 2) := by decide +kernel
theorem dX1_take_97 : decode cX1_take 97 = .ok (.lshl, 1) := by decide +kernel
theorem dX1_take_98 : decode cX1_take 98 = .ok (.lor, 1) := by decide +kernel
theorem dX1_take_99 : decode cX1_take 99 = .ok (.lstore 5, 2) := by decide +kernel
theorem dX1_take_101 : decode cX1_take 101 = .ok (.iload 7, 2) := by decide +kernel
theorem dX1_take_103 : decode cX1_take 103 = .ok (.iconst 2, 1) := by decide +kernel
theorem dX1_take_104 : decode cX1_take 104 = .ok (.imul, 1) := by decide +kernel
theorem dX1_take_105 : decode cX1_take 105 = .ok (.istore 7, 2) := by decide +kernel
theorem dX1_take_107 : decode cX1_take 107 = .ok (.goto (-23), 3) := by decide +kernel
theorem dX1_take_110 : decode cX1_take 110 = .ok (.aload_n 0, 1) := by decide +kernel
theorem dX1_take_111 : decode cX1_take 111 = .ok (.getfield 11, 3) := by decide +kernel
theorem dX1_take_114 : decode cX1_take 114 = .ok (.iload 4, 2) := by decide +kernel
theorem dX1_take_116 : decode cX1_take 116 = .ok (.lload 5, 2) := by decide +kernel
theorem dX1_take_118 : decode cX1_take 118 = .ok (.lastore, 1) := by decide +kernel
theorem dX1_take_119 : decode cX1_take 119 = .ok (.iinc 4 1, 3) := by decide +kernel
theorem dX1_take_122 : decode cX1_take 122 = .ok (.goto (-77), 3) := by decide +kernel
theorem dX1_take_125 : decode cX1_take 125 = .ok (.return_, 1) := by decide +kernel
theorem dX1_isLitAt_0 : decode cX1_isLitAt 0 = .ok (.aload_n 0, 1) := by decide +kernel
theorem dX1_isLitAt_1 : decode cX1_isLitAt 1 = .ok (.getfield 59, 3) := by decide +kernel
theorem dX1_isLitAt_4 : decode cX1_isLitAt 4 = .ok (.ifCond .le 25, 3) := by decide +kernel
theorem dX1_isLitAt_7 : decode cX1_isLitAt 7 = .ok (.aload_n 0, 1) := by decide +kernel
theorem dX1_isLitAt_8 : decode cX1_isLitAt 8 = .ok (.getfield 66, 3) := by decide +kernel
theorem dX1_isLitAt_11 : decode cX1_isLitAt 11 = .ok (.iload_n 1, 1) := by decide +kernel
theorem dX1_isLitAt_12 : decode cX1_isLitAt 12 = .ok (.aload_n 0, 1) := by decide +kernel
theorem dX1_isLitAt_13 : decode cX1_isLitAt 13 = .ok (.getfield 59, 3) := by decide +kernel
theorem dX1_isLitAt_16 : decode cX1_isLitAt 16 = .ok (.irem, 1) := by decide +kernel
theorem dX1_isLitAt_17 : decode cX1_isLitAt 17 = .ok (.lshr, 1) := by decide +kernel
theorem dX1_isLitAt_18 : decode cX1_isLitAt 18 = .ok (.lconst 1, 1) := by decide +kernel
theorem dX1_isLitAt_19 : decode cX1_isLitAt 19 = .ok (.land, 1) := by decide +kernel
theorem dX1_isLitAt_20 : decode cX1_isLitAt 20 = .ok (.lconst 1, 1) := by decide +kernel
theorem dX1_isLitAt_21 : decode cX1_isLitAt 21 = .ok (.lcmp, 1) := by decide +kernel
theorem dX1_isLitAt_22 : decode cX1_isLitAt 22 = .ok (.ifCond .ne 7, 3) := by decide +kernel
theorem dX1_isLitAt_25 : decode cX1_isLitAt 25 = .ok (.iconst 1, 1) := by decide +kernel
theorem dX1_isLitAt_26 : decode cX1_isLitAt 26 = .ok (.goto 4, 3) := by decide +kernel
theorem dX1_isLitAt_29 : decode cX1_isLitAt 29 = .ok (.iconst 0, 1) := by decide +kernel
theorem dX1_isLitAt_30 : decode cX1_isLitAt 30 = .ok (.ireturn, 1) := by decide +kernel
theorem dX1_hasRow_0 : decode cX1_hasRow 0 = .ok (.lconst 1, 1) := by decide +kernel
theorem dX1_hasRow_1 : decode cX1_hasRow 1 = .ok (.iload_n 3, 1) := by decide +kernel
theorem dX1_hasRow_2 : decode cX1_hasRow 2 = .ok (.lshl, 1) := by decide +kernel
theorem dX1_hasRow_3 : decode cX1_hasRow 3 = .ok (.lconst 1, 1) := by decide +kernel
theorem dX1_hasRow_4 : decode cX1_hasRow 4 = .ok (.lsub, 1) := by decide +kernel
theorem dX1_hasRow_5 : decode cX1_hasRow 5 = .ok (.lstore 4, 2) := by decide +kernel
theorem dX1_hasRow_7 : decode cX1_hasRow 7 = .ok (.iconst 0, 1) := by decide +kernel
theorem dX1_hasRow_8 : decode cX1_hasRow 8 = .ok (.istore 6, 2) := by decide +kernel
theorem dX1_hasRow_10 : decode cX1_hasRow 10 = .ok (.iload 6, 2) := by decide +kernel
theorem dX1_hasRow_12 : decode cX1_hasRow 12 = .ok (.aload_n 0, 1) := by decide +kernel
theorem dX1_hasRow_13 : decode cX1_hasRow 13 = .ok (.getfield 59, 3) := by decide +kernel
theorem dX1_hasRow_16 : decode cX1_hasRow 16 = .ok (.if_icmp .ge 26, 3) := by decide +kernel
theorem dX1_hasRow_19 : decode cX1_hasRow 19 = .ok (.aload_n 0, 1) := by decide +kernel
theorem dX1_hasRow_20 : decode cX1_hasRow 20 = .ok (.getfield 11, 3) := by decide +kernel
theorem dX1_hasRow_23 : decode cX1_hasRow 23 = .ok (.iload 6, 2) := by decide +kernel
theorem dX1_hasRow_25 : decode cX1_hasRow 25 = .ok (.laload, 1) := by decide +kernel
theorem dX1_hasRow_26 : decode cX1_hasRow 26 = .ok (.lload 4, 2) := by decide +kernel
theorem dX1_hasRow_28 : decode cX1_hasRow 28 = .ok (.land, 1) := by decide +kernel
theorem dX1_hasRow_29 : decode cX1_hasRow 29 = .ok (.lload_n 1, 1) := by decide +kernel
theorem dX1_hasRow_30 : decode cX1_hasRow 30 = .ok (.lcmp, 1) := by decide +kernel
theorem dX1_hasRow_31 : decode cX1_hasRow 31 = .ok (.ifCond .ne 5, 3) := by decide +kernel
theorem dX1_hasRow_34 : decode cX1_hasRow 34 = .ok (.iconst 1, 1) := by decide +kernel
theorem dX1_hasRow_35 : decode cX1_hasRow 35 = .ok (.ireturn, 1) := by decide +kernel
theorem dX1_hasRow_36 : decode cX1_hasRow 36 = .ok (.iinc 6 1, 3) := by decide +kernel
theorem dX1_hasRow_39 : decode cX1_hasRow 39 = .ok (.goto (-29), 3) := by decide +kernel
theorem dX1_hasRow_42 : decode cX1_hasRow 42 = .ok (.iconst 0, 1) := by decide +kernel
theorem dX1_hasRow_43 : decode cX1_hasRow 43 = .ok (.ireturn, 1) := by decide +kernel
theorem dX1_colourTowards_0 : decode cX1_colourTowards 0 = .ok (.aload_n 0, 1) := by decide +kernel
theorem dX1_colourTowards_1 : decode cX1_colourTowards 1 = .ok (.getfield 29, 3) := by decide +kernel
theorem dX1_colourTowards_4 : decode cX1_colourTowards 4 = .ok (.iconst 1, 1) := by decide +kernel
theorem dX1_colourTowards_5 : decode cX1_colourTowards 5 = .ok (.isub, 1) := by decide +kernel
theorem dX1_colourTowards_6 : decode cX1_colourTowards 6 = .ok (.istore_n 2, 1) := by decide +kernel
theorem dX1_colourTowards_7 : decode cX1_colourTowards 7 = .ok (.iload_n 2, 1) := by decide +kernel
theorem dX1_colourTowards_8 : decode cX1_colourTowards 8 = .ok (.ifCond .lt 33, 3) := by decide +kernel
theorem dX1_colourTowards_11 : decode cX1_colourTowards 11 = .ok (.aload_n 0, 1) := by decide +kernel
theorem dX1_colourTowards_12 : decode cX1_colourTowards 12 = .ok (.getfield 15, 3) := by decide +kernel
theorem dX1_colourTowards_15 : decode cX1_colourTowards 15 = .ok (.iload_n 2, 1) := by decide +kernel
theorem dX1_colourTowards_16 : decode cX1_colourTowards 16 = .ok (.iaload, 1) := by decide +kernel
theorem dX1_colourTowards_17 : decode cX1_colourTowards 17 = .ok (.iload_n 1, 1) := by decide +kernel
theorem dX1_colourTowards_18 : decode cX1_colourTowards 18 = .ok (.ishr, 1) := by decide +kernel
theorem dX1_colourTowards_19 : decode cX1_colourTowards 19 = .ok (.iconst 1, 1) := by decide +kernel
theorem dX1_colourTowards_20 : decode cX1_colourTowards 20 = .ok (.iand, 1) := by decide +kernel
theorem dX1_colourTowards_21 : decode cX1_colourTowards 21 = .ok (.iconst 1, 1) := by decide +kernel
theorem dX1_colourTowards_22 : decode cX1_colourTowards 22 = .ok (.if_icmp .ne 13, 3) := by decide +kernel
theorem dX1_colourTowards_25 : decode cX1_colourTowards 25 = .ok (.aload_n 0, 1) := by decide +kernel
theorem dX1_colourTowards_26 : decode cX1_colourTowards 26 = .ok (.getfield 15, 3) := by decide +kernel
theorem dX1_colourTowards_29 : decode cX1_colourTowards 29 = .ok (.iload_n 2, 1) := by decide +kernel
theorem dX1_colourTowards_30 : decode cX1_colourTowards 30 = .ok (.iaload, 1) := by decide +kernel
theorem dX1_colourTowards_31 : decode cX1_colourTowards 31 = .ok (.bipush 16, 2) := by decide +kernel
theorem dX1_colourTowards_33 : decode cX1_colourTowards 33 = .ok (.ishr, 1) := by decide +kernel
theorem dX1_colourTowards_34 : decode cX1_colourTowards 34 = .ok (.ireturn, 1) := by decide +kernel
theorem dX1_colourTowards_35 : decode cX1_colourTowards 35 = .ok (.iinc 2 (-1), 3) := by decide +kernel
theorem dX1_colourTowards_38 : decode cX1_colourTowards 38 = .ok (.goto (-31), 3) := by decide +kernel
theorem dX1_colourTowards_41 : decode cX1_colourTowards 41 = .ok (.aload_n 0, 1) := by decide +kernel
theorem dX1_colourTowards_42 : decode cX1_colourTowards 42 = .ok (.getfield 19, 3) := by decide +kernel
theorem dX1_colourTowards_45 : decode cX1_colourTowards 45 = .ok (.iconst 3, 1) := by decide +kernel
theorem dX1_colourTowards_46 : decode cX1_colourTowards 46 = .ok (.if_icmp .ne 7, 3) := by decide +kernel
theorem dX1_colourTowards_49 : decode cX1_colourTowards 49 = .ok (.iconst 3, 1) := by decide +kernel
theorem dX1_colourTowards_50 : decode cX1_colourTowards 50 = .ok (.goto 7, 3) := by decide +kernel
theorem dX1_colourTowards_53 : decode cX1_colourTowards 53 = .ok (.aload_n 0, 1) := by decide +kernel
theorem dX1_colourTowards_54 : decode cX1_colourTowards 54 = .ok (.getfield 46, 3) := by decide +kernel
theorem dX1_colourTowards_57 : decode cX1_colourTowards 57 = .ok (.ireturn, 1) := by decide +kernel
theorem dX1_isRock_0 : decode cX1_isRock 0 = .ok (.aload_n 0, 1) := by decide +kernel
theorem dX1_isRock_1 : decode cX1_isRock 1 = .ok (.getfield 19, 3) := by decide +kernel
theorem dX1_isRock_4 : decode cX1_isRock 4 = .ok (.iconst 1, 1) := by decide +kernel
theorem dX1_isRock_5 : decode cX1_isRock 5 = .ok (.if_icmp .eq 11, 3) := by decide +kernel
theorem dX1_isRock_8 : decode cX1_isRock 8 = .ok (.aload_n 0, 1) := by decide +kernel
theorem dX1_isRock_9 : decode cX1_isRock 9 = .ok (.getfield 19, 3) := by decide +kernel
theorem dX1_isRock_12 : decode cX1_isRock 12 = .ok (.iconst 3, 1) := by decide +kernel
theorem dX1_isRock_13 : decode cX1_isRock 13 = .ok (.if_icmp .ne 7, 3) := by decide +kernel
theorem dX1_isRock_16 : decode cX1_isRock 16 = .ok (.iconst 1, 1) := by decide +kernel
theorem dX1_isRock_17 : decode cX1_isRock 17 = .ok (.goto 4, 3) := by decide +kernel
theorem dX1_isRock_20 : decode cX1_isRock 20 = .ok (.iconst 0, 1) := by decide +kernel
theorem dX1_isRock_21 : decode cX1_isRock 21 = .ok (.ireturn, 1) := by decide +kernel
theorem dX1_landsIn_0 : decode cX1_landsIn 0 = .ok (.iload_n 1, 1) := by decide +kernel
theorem dX1_landsIn_1 : decode cX1_landsIn 1 = .ok (.aload_n 0, 1) := by decide +kernel
theorem dX1_landsIn_2 : decode cX1_landsIn 2 = .ok (.getfield 38, 3) := by decide +kernel
theorem dX1_landsIn_5 : decode cX1_landsIn 5 = .ok (.if_icmp .gt 7, 3) := by decide +kernel
theorem dX1_landsIn_8 : decode cX1_landsIn 8 = .ok (.iconst 1, 1) := by decide +kernel
theorem dX1_landsIn_9 : decode cX1_landsIn 9 = .ok (.goto 4, 3) := by decide +kernel
theorem dX1_landsIn_12 : decode cX1_landsIn 12 = .ok (.iconst 0, 1) := by decide +kernel
theorem dX1_landsIn_13 : decode cX1_landsIn 13 = .ok (.ireturn, 1) := by decide +kernel
theorem dX1_overdueOn_0 : decode cX1_overdueOn 0 = .ok (.iconst 0, 1) := by decide +kernel
theorem dX1_overdueOn_1 : decode cX1_overdueOn 1 = .ok (.iload_n 1, 1) := by decide +kernel
theorem dX1_overdueOn_2 : decode cX1_overdueOn 2 = .ok (.aload_n 0, 1) := by decide +kernel
theorem dX1_overdueOn_3 : decode cX1_overdueOn 3 = .ok (.getfield 35, 3) := by decide +kernel
theorem dX1_overdueOn_6 : decode cX1_overdueOn 6 = .ok (.isub, 1) := by decide +kernel
theorem dX1_overdueOn_7 : decode cX1_overdueOn 7 = .ok (.bipush 10, 2) := by decide +kernel
theorem dX1_overdueOn_9 : decode cX1_overdueOn 9 = .ok (.isub, 1) := by decide +kernel
theorem dX1_overdueOn_10 : decode cX1_overdueOn 10 = .ok (.invokestatic 56, 3) := by decide +kernel
theorem dX1_overdueOn_13 : decode cX1_overdueOn 13 = .ok (.ireturn, 1) := by decide +kernel
theorem dX2_init_0 : decode cX2_init 0 = .ok (.aload_n 0, 1) := by decide +kernel
theorem dX2_init_1 : decode cX2_init 1 = .ok (.invokespecial 1, 3) := by decide +kernel
theorem dX2_init_4 : decode cX2_init 4 = .ok (.aload_n 0, 1) := by decide +kernel
theorem dX2_init_5 : decode cX2_init 5 = .ok (.bipush 16, 2) := by decide +kernel
theorem dX2_init_7 : decode cX2_init 7 = .ok (.anewarray 9, 3) := by decide +kernel
theorem dX2_init_10 : decode cX2_init 10 = .ok (.putfield 11, 3) := by decide +kernel
theorem dX2_init_13 : decode cX2_init 13 = .ok (.iconst 0, 1) := by decide +kernel
theorem dX2_init_14 : decode cX2_init 14 = .ok (.istore_n 1, 1) := by decide +kernel
theorem dX2_init_15 : decode cX2_init 15 = .ok (.iload_n 1, 1) := by decide +kernel
theorem dX2_init_16 : decode cX2_init 16 = .ok (.bipush 16, 2) := by decide +kernel
theorem dX2_init_18 : decode cX2_init 18 = .ok (.if_icmp .ge 22, 3) := by decide +kernel
theorem dX2_init_21 : decode cX2_init 21 = .ok (.aload_n 0, 1) := by decide +kernel
theorem dX2_init_22 : decode cX2_init 22 = .ok (.getfield 11, 3) := by decide +kernel
theorem dX2_init_25 : decode cX2_init 25 = .ok (.iload_n 1, 1) := by decide +kernel
theorem dX2_init_26 : decode cX2_init 26 = .ok (.new 9, 3) := by decide +kernel
theorem dX2_init_29 : decode cX2_init 29 = .ok (.dup, 1) := by decide +kernel
theorem dX2_init_30 : decode cX2_init 30 = .ok (.invokespecial 15, 3) := by decide +kernel
theorem dX2_init_33 : decode cX2_init 33 = .ok (.aastore, 1) := by decide +kernel
theorem dX2_init_34 : decode cX2_init 34 = .ok (.iinc 1 1, 3) := by decide +kernel
theorem dX2_init_37 : decode cX2_init 37 = .ok (.goto (-22), 3) := by decide +kernel
theorem dX2_init_40 : decode cX2_init 40 = .ok (.return_, 1) := by decide +kernel
theorem dX2_next_0 : decode cX2_next 0 = .ok (.aload_n 0, 1) := by decide +kernel
theorem dX2_next_1 : decode cX2_next 1 = .ok (.getfield 11, 3) := by decide +kernel
theorem dX2_next_4 : decode cX2_next 4 = .ok (.aload_n 0, 1) := by decide +kernel
theorem dX2_next_5 : decode cX2_next 5 = .ok (.getfield 16, 3) := by decide +kernel
theorem dX2_next_8 : decode cX2_next 8 = .ok (.aaload, 1) := by decide +kernel
theorem dX2_next_9 : decode cX2_next 9 = .ok (.astore_n 1, 1) := by decide +kernel
theorem dX2_next_10 : decode cX2_next 10 = .ok (.aload_n 0, 1) := by decide +kernel
theorem dX2_next_11 : decode cX2_next 11 = .ok (.aload_n 0, 1) := by decide +kernel
theorem dX2_next_12 : decode cX2_next 12 = .ok (.getfield 16, 3) := by decide +kernel
theorem dX2_next_15 : decode cX2_next 15 = .ok (.iconst 1, 1) := by decide +kernel
theorem dX2_next_16 : decode cX2_next 16 = .ok (.iadd, 1) := by decide +kernel
theorem dX2_next_17 : decode cX2_next 17 = .ok (.bipush 16, 2) := by decide +kernel
theorem dX2_next_19 : decode cX2_next 19 = .ok (.irem, 1) := by decide +kernel
theorem dX2_next_20 : decode cX2_next 20 = .ok (.putfield 16, 3) := by decide +kernel
theorem dX2_next_23 : decode cX2_next 23 = .ok (.aload_n 0, 1) := by decide +kernel
theorem dX2_next_24 : decode cX2_next 24 = .ok (.bipush 16, 2) := by decide +kernel
theorem dX2_next_26 : decode cX2_next 26 = .ok (.aload_n 0, 1) := by decide +kernel
theorem dX2_next_27 : decode cX2_next 27 = .ok (.getfield 20, 3) := by decide +kernel
theorem dX2_next_30 : decode cX2_next 30 = .ok (.iconst 1, 1) := by decide +kernel
theorem dX2_next_31 : decode cX2_next 31 = .ok (.iadd, 1) := by decide +kernel
theorem dX2_next_32 : decode cX2_next 32 = .ok (.invokestatic 23, 3) := by decide +kernel
theorem dX2_next_35 : decode cX2_next 35 = .ok (.putfield 20, 3) := by decide +kernel
theorem dX2_next_38 : decode cX2_next 38 = .ok (.aload_n 1, 1) := by decide +kernel
theorem dX2_next_39 : decode cX2_next 39 = .ok (.areturn, 1) := by decide +kernel
theorem dX2_takeLatest_0 : decode cX2_takeLatest 0 = .ok (.aload_n 0, 1) := by decide +kernel
theorem dX2_takeLatest_1 : decode cX2_takeLatest 1 = .ok (.getfield 20, 3) := by decide +kernel
theorem dX2_takeLatest_4 : decode cX2_takeLatest 4 = .ok (.ifCond .ne 5, 3) := by decide +kernel
theorem dX2_takeLatest_7 : decode cX2_takeLatest 7 = .ok (.aconst_null, 1) := by decide +kernel
theorem dX2_takeLatest_8 : decode cX2_takeLatest 8 = .ok (.areturn, 1) := by decide +kernel
theorem dX2_takeLatest_9 : decode cX2_takeLatest 9 = .ok (.aload_n 0, 1) := by decide +kernel
theorem dX2_takeLatest_10 : decode cX2_takeLatest 10 = .ok (.dup, 1) := by decide +kernel
theorem dX2_takeLatest_11 : decode cX2_takeLatest 11 = .ok (.getfield 20, 3) := by decide +kernel
theorem dX2_takeLatest_14 : decode cX2_takeLatest 14 = .ok (.iconst 1, 1) := by decide +kernel
theorem dX2_takeLatest_15 : decode cX2_takeLatest 15 = .ok (.isub, 1) := by decide +kernel
theorem dX2_takeLatest_16 : decode cX2_takeLatest 16 = .ok (.putfield 20, 3) := by decide +kernel
theorem dX2_takeLatest_19 : decode cX2_takeLatest 19 = .ok (.aload_n 0, 1) := by decide +kernel
theorem dX2_takeLatest_20 : decode cX2_takeLatest 20 = .ok (.aload_n 0, 1) := by decide +kernel
theorem dX2_takeLatest_21 : decode cX2_takeLatest 21 = .ok (.getfield 16, 3) := by decide +kernel
theorem dX2_takeLatest_24 : decode cX2_takeLatest 24 = .ok (.bipush 16, 2) := by decide +kernel
theorem dX2_takeLatest_26 : decode cX2_takeLatest 26 = .ok (.iadd, 1) := by decide +kernel
theorem dX2_takeLatest_27 : decode cX2_takeLatest 27 = .ok (.iconst 1, 1) := by decide +kernel
theorem dX2_takeLatest_28 : decode cX2_takeLatest 28 = .ok (.isub, 1) := by decide +kernel
theorem dX2_takeLatest_29 : decode cX2_takeLatest 29 = .ok (.bipush 16, 2) := by decide +kernel
theorem dX2_takeLatest_31 : decode cX2_takeLatest 31 = .ok (.irem, 1) := by decide +kernel
theorem dX2_takeLatest_32 : decode cX2_takeLatest 32 = .ok (.putfield 16, 3) := by decide +kernel
theorem dX2_takeLatest_35 : decode cX2_takeLatest 35 = .ok (.aload_n 0, 1) := by decide +kernel
theorem dX2_takeLatest_36 : decode cX2_takeLatest 36 = .ok (.getfield 11, 3) := by decide +kernel
theorem dX2_takeLatest_39 : decode cX2_takeLatest 39 = .ok (.aload_n 0, 1) := by decide +kernel
theorem dX2_takeLatest_40 : decode cX2_takeLatest 40 = .ok (.getfield 16, 3) := by decide +kernel
theorem dX2_takeLatest_43 : decode cX2_takeLatest 43 = .ok (.aaload, 1) := by decide +kernel
theorem dX2_takeLatest_44 : decode cX2_takeLatest 44 = .ok (.areturn, 1) := by decide +kernel
theorem dX3_init_0 : decode cX3_init 0 = .ok (.aload_n 0, 1) := by decide +kernel
theorem dX3_init_1 : decode cX3_init 1 = .ok (.invokespecial 1, 3) := by decide +kernel
theorem dX3_init_4 : decode cX3_init 4 = .ok (.aload_n 0, 1) := by decide +kernel
theorem dX3_init_5 : decode cX3_init 5 = .ok (.bipush 30, 2) := by decide +kernel
theorem dX3_init_7 : decode cX3_init 7 = .ok (.newarray .int, 2) := by decide +kernel
theorem dX3_init_9 : decode cX3_init 9 = .ok (.putfield 9, 3) := by decide +kernel
theorem dX3_init_12 : decode cX3_init 12 = .ok (.return_, 1) := by decide +kernel
theorem dX3_renew_0 : decode cX3_renew 0 = .ok (.aload_n 0, 1) := by decide +kernel
theorem dX3_renew_1 : decode cX3_renew 1 = .ok (.iload_n 1, 1) := by decide +kernel
theorem dX3_renew_2 : decode cX3_renew 2 = .ok (.putfield 13, 3) := by decide +kernel
theorem dX3_renew_5 : decode cX3_renew 5 = .ok (.aload_n 0, 1) := by decide +kernel
theorem dX3_renew_6 : decode cX3_renew 6 = .ok (.iload_n 2, 1) := by decide +kernel
theorem dX3_renew_7 : decode cX3_renew 7 = .ok (.putfield 17, 3) := by decide +kernel
theorem dX3_renew_10 : decode cX3_renew 10 = .ok (.iconst 0, 1) := by decide +kernel
theorem dX3_renew_11 : decode cX3_renew 11 = .ok (.istore_n 3, 1) := by decide +kernel
theorem dX3_renew_12 : decode cX3_renew 12 = .ok (.iload_n 3, 1) := by decide +kernel
theorem dX3_renew_13 : decode cX3_renew 13 = .ok (.bipush 30, 2) := by decide +kernel
theorem dX3_renew_15 : decode cX3_renew 15 = .ok (.if_icmp .ge 16, 3) := by decide +kernel
theorem dX3_renew_18 : decode cX3_renew 18 = .ok (.aload_n 0, 1) := by decide +kernel
theorem dX3_renew_19 : decode cX3_renew 19 = .ok (.getfield 9, 3) := by decide +kernel
theorem dX3_renew_22 : decode cX3_renew 22 = .ok (.iload_n 3, 1) := by decide +kernel
theorem dX3_renew_23 : decode cX3_renew 23 = .ok (.iconst 0, 1) := by decide +kernel
theorem dX3_renew_24 : decode cX3_renew 24 = .ok (.iastore, 1) := by decide +kernel
theorem dX3_renew_25 : decode cX3_renew 25 = .ok (.iinc 3 1, 3) := by decide +kernel
theorem dX3_renew_28 : decode cX3_renew 28 = .ok (.goto (-16), 3) := by decide +kernel
theorem dX3_renew_31 : decode cX3_renew 31 = .ok (.return_, 1) := by decide +kernel
theorem dX3_lowest_0 : decode cX3_lowest 0 = .ok (.aload_n 0, 1) := by decide +kernel
theorem dX3_lowest_1 : decode cX3_lowest 1 = .ok (.getfield 13, 3) := by decide +kernel
theorem dX3_lowest_4 : decode cX3_lowest 4 = .ok (.bipush 8, 2) := by decide +kernel
theorem dX3_lowest_6 : decode cX3_lowest 6 = .ok (.if_icmp .ne 6, 3) := by decide +kernel
theorem dX3_lowest_9 : decode cX3_lowest 9 = .ok (.iload_n 1, 1) := by decide +kernel
theorem dX3_lowest_10 : decode cX3_lowest 10 = .ok (.i2b, 1) := by decide +kernel
theorem dX3_lowest_11 : decode cX3_lowest 11 = .ok (.ireturn, 1) := by decide +kernel
theorem dX3_lowest_12 : decode cX3_lowest 12 = .ok (.aload_n 0, 1) := by decide +kernel
theorem dX3_lowest_13 : decode cX3_lowest 13 = .ok (.getfield 13, 3) := by decide +kernel
theorem dX3_lowest_16 : decode cX3_lowest 16 = .ok (.bipush 16, 2) := by decide +kernel
theorem dX3_lowest_18 : decode cX3_lowest 18 = .ok (.if_icmp .ne 8, 3) := by decide +kernel
theorem dX3_lowest_21 : decode cX3_lowest 21 = .ok (.iload_n 1, 1) := by decide +kernel
theorem dX3_lowest_22 : decode cX3_lowest 22 = .ok (.i2s, 1) := by decide +kernel
theorem dX3_lowest_23 : decode cX3_lowest 23 = .ok (.goto 4, 3) := by decide +kernel
theorem dX3_lowest_26 : decode cX3_lowest 26 = .ok (.iload_n 1, 1) := by decide +kernel
theorem dX3_lowest_27 : decode cX3_lowest 27 = .ok (.ireturn, 1) := by decide +kernel
theorem dX3_hasNumbers_0 : decode cX3_hasNumbers 0 = .ok (.iload_n 1, 1) := by decide +kernel
theorem dX3_hasNumbers_1 : decode cX3_hasNumbers 1 = .ok (.ifCond .lt 29, 3) := by decide +kernel
theorem dX3_hasNumbers_4 : decode cX3_hasNumbers 4 = .ok (.iload_n 2, 1) := by decide +kernel
theorem dX3_hasNumbers_5 : decode cX3_hasNumbers 5 = .ok (.ifCond .lt 25, 3) := by decide +kernel
theorem dX3_hasNumbers_8 : decode cX3_hasNumbers 8 = .ok (.iload_n 1, 1) := by decide +kernel
theorem dX3_hasNumbers_9 : decode cX3_hasNumbers 9 = .ok (.aload_n 0, 1) := by decide +kernel
theorem dX3_hasNumbers_10 : decode cX3_hasNumbers 10 = .ok (.getfield 17, 3) := by decide +kernel
theorem dX3_hasNumbers_13 : decode cX3_hasNumbers 13 = .ok (.if_icmp .gt 17, 3) := by decide +kernel
theorem dX3_hasNumbers_16 : decode cX3_hasNumbers 16 = .ok (.iload_n 2, 1) := by decide +kernel
theorem dX3_hasNumbers_17 : decode cX3_hasNumbers 17 = .ok (.aload_n 0, 1) := by decide +kernel
theorem dX3_hasNumbers_18 : decode cX3_hasNumbers 18 = .ok (.getfield 17, 3) := by decide +kernel
theorem dX3_hasNumbers_21 : decode cX3_hasNumbers 21 = .ok (.iload_n 1, 1) := by decide +kernel
theorem dX3_hasNumbers_22 : decode cX3_hasNumbers 22 = .ok (.isub, 1) := by decide +kernel
theorem dX3_hasNumbers_23 : decode cX3_hasNumbers 23 = .ok (.if_icmp .gt 7, 3) := by decide +kernel
theorem dX3_hasNumbers_26 : decode cX3_hasNumbers 26 = .ok (.iconst 1, 1) := by decide +kernel
theorem dX3_hasNumbers_27 : decode cX3_hasNumbers 27 = .ok (.goto 4, 3) := by decide +kernel
theorem dX3_hasNumbers_30 : decode cX3_hasNumbers 30 = .ok (.iconst 0, 1) := by decide +kernel
theorem dX3_hasNumbers_31 : decode cX3_hasNumbers 31 = .ok (.ireturn, 1) := by decide +kernel
theorem dX3_asSeconds_0 : decode cX3_asSeconds 0 = .ok (.lconst 0, 1) := by decide +kernel
theorem dX3_asSeconds_1 : decode cX3_asSeconds 1 = .ok (.lstore_n 1, 1) := by decide +kernel
theorem dX3_asSeconds_2 : decode cX3_asSeconds 2 = .ok (.iconst 0, 1) := by decide +kernel
theorem dX3_asSeconds_3 : decode cX3_asSeconds 3 = .ok (.istore_n 3, 1) := by decide +kernel
theorem dX3_asSeconds_4 : decode cX3_asSeconds 4 = .ok (.iload_n 3, 1) := by decide +kernel
theorem dX3_asSeconds_5 : decode cX3_asSeconds 5 = .ok (.aload_n 0, 1) := by decide +kernel
theorem dX3_asSeconds_6 : decode cX3_asSeconds 6 = .ok (.getfield 17, 3) := by decide +kernel
theorem dX3_asSeconds_9 : decode cX3_asSeconds 9 = .ok (.if_icmp .ge 24, 3) := by decide +kernel
theorem dX3_asSeconds_12 : decode cX3_asSeconds 12 = .ok (.aload_n 0, 1) := by decide +kernel
theorem dX3_asSeconds_13 : decode cX3_asSeconds 13 = .ok (.getfield 9, 3) := by decide +kernel
theorem dX3_asSeconds_16 : decode cX3_asSeconds 16 = .ok (.iload_n 3, 1) := by decide +kernel
theorem dX3_asSeconds_17 : decode cX3_asSeconds 17 = .ok (.iaload, 1) := by decide +kernel
theorem dX3_asSeconds_18 : decode cX3_asSeconds 18 = .ok (.ifCond .eq 9, 3) := by decide +kernel
theorem dX3_asSeconds_21 : decode cX3_asSeconds 21 = .ok (.lload_n 1, 1) := by decide +kernel
theorem dX3_asSeconds_22 : decode cX3_asSeconds 22 = .ok (.lconst 1, 1) := by decide +kernel
theorem dX3_asSeconds_23 : decode cX3_asSeconds 23 = .ok (.iload_n 3, 1) := by decide +kernel
theorem dX3_asSeconds_24 : decode cX3_asSeconds 24 = .ok (.lshl, 1) := by decide +kernel
theorem dX3_asSeconds_25 : decode cX3_asSeconds 25 = .ok (.lor, 1) := by decide +kernel
theorem dX3_asSeconds_26 : decode cX3_asSeconds 26 = .ok (.lstore_n 1, 1) := by decide +kernel
theorem dX3_asSeconds_27 : decode cX3_asSeconds 27 = .ok (.iinc 3 1, 3) := by decide +kernel
theorem dX3_asSeconds_30 : decode cX3_asSeconds 30 = .ok (.goto (-26), 3) := by decide +kernel
theorem dX3_asSeconds_33 : decode cX3_asSeconds 33 = .ok (.lload_n 1, 1) := by decide +kernel
theorem dX3_asSeconds_34 : decode cX3_asSeconds 34 = .ok (.lreturn, 1) := by decide +kernel
theorem dX4_init_0 : decode cX4_init 0 = .ok (.aload_n 0, 1) := by decide +kernel
theorem dX4_init_1 : decode cX4_init 1 = .ok (.invokespecial 3, 3) := by decide +kernel
theorem dX4_init_4 : decode cX4_init 4 = .ok (.aload_n 0, 1) := by decide +kernel
theorem dX4_init_5 : decode cX4_init 5 = .ok (.bipush 20, 2) := by decide +kernel
theorem dX4_init_7 : decode cX4_init 7 = .ok (.newarray .int, 2) := by decide +kernel
theorem dX4_init_9 : decode cX4_init 9 = .ok (.putfield 9, 3) := by decide +kernel
theorem dX4_init_12 : decode cX4_init 12 = .ok (.return_, 1) := by decide +kernel
theorem dX5_init_0 : decode cX5_init 0 = .ok (.aload_n 0, 1) := by decide +kernel
theorem dX5_init_1 : decode cX5_init 1 = .ok (.invokespecial 1, 3) := by decide +kernel
theorem dX5_init_4 : decode cX5_init 4 = .ok (.aload_n 0, 1) := by decide +kernel
theorem dX5_init_5 : decode cX5_init 5 = .ok (.bipush 40, 2) := by decide +kernel
theorem dX5_init_7 : decode cX5_init 7 = .ok (.newarray .int, 2) := by decide +kernel
theorem dX5_init_9 : decode cX5_init 9 = .ok (.putfield 9, 3) := by decide +kernel
theorem dX5_init_12 : decode cX5_init 12 = .ok (.return_, 1) := by decide +kernel
theorem dX5_append_0 : decode cX5_append 0 = .ok (.iconst 0, 1) := by decide +kernel
theorem dX5_append_1 : decode cX5_append 1 = .ok (.istore 4, 2) := by decide +kernel
theorem dX5_append_3 : decode cX5_append 3 = .ok (.iload 4, 2) := by decide +kernel
theorem dX5_append_5 : decode cX5_append 5 = .ok (.iload_n 1, 1) := by decide +kernel
theorem dX5_append_6 : decode cX5_append 6 = .ok (.if_icmp .ge 49, 3) := by decide +kernel
theorem dX5_append_9 : decode cX5_append 9 = .ok (.aload_n 0, 1) := by decide +kernel
theorem dX5_append_10 : decode cX5_append 10 = .ok (.getfield 13, 3) := by decide +kernel
theorem dX5_append_13 : decode cX5_append 13 = .ok (.bipush 40, 2) := by decide +kernel
theorem dX5_append_15 : decode cX5_append 15 = .ok (.if_icmp .ge 40, 3) := by decide +kernel
theorem dX5_append_18 : decode cX5_append 18 = .ok (.aload_n 0, 1) := by decide +kernel
theorem dX5_append_19 : decode cX5_append 19 = .ok (.getfield 9, 3) := by decide +kernel
theorem dX5_append_22 : decode cX5_append 22 = .ok (.aload_n 0, 1) := by decide +kernel
theorem dX5_append_23 : decode cX5_append 23 = .ok (.getfield 13, 3) := by decide +kernel
theorem dX5_append_26 : decode cX5_append 26 = .ok (.lload_n 2, 1) := by decide +kernel
theorem dX5_append_27 : decode cX5_append 27 = .ok (.bipush 8, 2) := by decide +kernel
theorem dX5_append_29 : decode cX5_append 29 = .ok (.iload 4, 2) := by decide +kernel
theorem dX5_append_31 : decode cX5_append 31 = .ok (.imul, 1) := by decide +kernel
theorem dX5_append_32 : decode cX5_append 32 = .ok (.lshr, 1) := by decide +kernel
theorem dX5_append_33 : decode cX5_append 33 = .ok (.ldc2_w 17, 3) := by decide +kernel
theorem dX5_append_36 : decode cX5_append 36 = .ok (.land, 1) := by decide +kernel
theorem dX5_append_37 : decode cX5_append 37 = .ok (.l2i, 1) := by decide +kernel
theorem dX5_append_38 : decode cX5_append 38 = .ok (.iastore, 1) := by decide +kernel
theorem dX5_append_39 : decode cX5_append 39 = .ok (.aload_n 0, 1) := by decide +kernel
theorem dX5_append_40 : decode cX5_append 40 = .ok (.dup, 1) := by decide +kernel
theorem dX5_append_41 : decode cX5_append 41 = .ok (.getfield 13, 3) := by decide +kernel
theorem dX5_append_44 : decode cX5_append 44 = .ok (.iconst 1, 1) := by decide +kernel
theorem dX5_append_45 : decode cX5_append 45 = .ok (.iadd, 1) := by decide +kernel
theorem dX5_append_46 : decode cX5_append 46 = .ok (.putfield 13, 3) := by decide +kernel
theorem dX5_append_49 : decode cX5_append 49 = .ok (.iinc 4 1, 3) := by decide +kernel
theorem dX5_append_52 : decode cX5_append 52 = .ok (.goto (-49), 3) := by decide +kernel
theorem dX5_append_55 : decode cX5_append 55 = .ok (.return_, 1) := by decide +kernel
theorem dX5_findFault_0 : decode cX5_findFault 0 = .ok (.aload_n 0, 1) := by decide +kernel
theorem dX5_findFault_1 : decode cX5_findFault 1 = .ok (.iconst 0, 1) := by decide +kernel
theorem dX5_findFault_2 : decode cX5_findFault 2 = .ok (.putfield 19, 3) := by decide +kernel
theorem dX5_findFault_5 : decode cX5_findFault 5 = .ok (.aload_n 0, 1) := by decide +kernel
theorem dX5_findFault_6 : decode cX5_findFault 6 = .ok (.iconst 1, 1) := by decide +kernel
theorem dX5_findFault_7 : decode cX5_findFault 7 = .ok (.putfield 22, 3) := by decide +kernel
theorem dX5_findFault_10 : decode cX5_findFault 10 = .ok (.aload_n 0, 1) := by decide +kernel
theorem dX5_findFault_11 : decode cX5_findFault 11 = .ok (.iconst 1, 1) := by decide +kernel
theorem dX5_findFault_12 : decode cX5_findFault 12 = .ok (.putfield 25, 3) := by decide +kernel
theorem dX5_findFault_15 : decode cX5_findFault 15 = .ok (.aload_n 0, 1) := by decide +kernel
theorem dX5_findFault_16 : decode cX5_findFault 16 = .ok (.invokevirtual 28, 3) := by decide +kernel
theorem dX5_findFault_19 : decode cX5_findFault 19 = .ok (.ifCond .eq 10, 3) := by decide +kernel
theorem dX5_findFault_22 : decode cX5_findFault 22 = .ok (.aload_n 0, 1) := by decide +kernel
theorem dX5_findFault_23 : decode cX5_findFault 23 = .ok (.invokevirtual 32, 3) := by decide +kernel
theorem dX5_findFault_26 : decode cX5_findFault 26 = .ok (.ifCond .ne 8, 3) := by decide +kernel
theorem dX5_findFault_29 : decode cX5_findFault 29 = .ok (.aload_n 0, 1) := by decide +kernel
theorem dX5_findFault_30 : decode cX5_findFault 30 = .ok (.getfield 19, 3) := by decide +kernel
theorem dX5_findFault_33 : decode cX5_findFault 33 = .ok (.ireturn, 1) := by decide +kernel
theorem dX5_findFault_34 : decode cX5_findFault 34 = .ok (.aload_n 0, 1) := by decide +kernel
theorem dX5_findFault_35 : decode cX5_findFault 35 = .ok (.getfield 35, 3) := by decide +kernel
theorem dX5_findFault_38 : decode cX5_findFault 38 = .ok (.ifCond .eq 15, 3) := by decide +kernel
theorem dX5_findFault_41 : decode cX5_findFault 41 = .ok (.aload_n 0, 1) := by decide +kernel
theorem dX5_findFault_42 : decode cX5_findFault 42 = .ok (.invokevirtual 38, 3) := by decide +kernel
theorem dX5_findFault_45 : decode cX5_findFault 45 = .ok (.ifCond .ne 8, 3) := by decide +kernel
theorem dX5_findFault_48 : decode cX5_findFault 48 = .ok (.aload_n 0, 1) := by decide +kernel
theorem dX5_findFault_49 : decode cX5_findFault 49 = .ok (.getfield 19, 3) := by decide +kernel
theorem dX5_findFault_52 : decode cX5_findFault 52 = .ok (.ireturn, 1) := by decide +kernel
theorem dX5_findFault_53 : decode cX5_findFault 53 = .ok (.aload_n 0, 1) := by decide +kernel
theorem dX5_findFault_54 : decode cX5_findFault 54 = .ok (.getfield 19, 3) := by decide +kernel
theorem dX5_findFault_57 : decode cX5_findFault 57 = .ok (.aload_n 0, 1) := by decide +kernel
theorem dX5_findFault_58 : decode cX5_findFault 58 = .ok (.getfield 13, 3) := by decide +kernel
theorem dX5_findFault_61 : decode cX5_findFault 61 = .ok (.if_icmp .ge 8, 3) := by decide +kernel
theorem dX5_findFault_64 : decode cX5_findFault 64 = .ok (.aload_n 0, 1) := by decide +kernel
theorem dX5_findFault_65 : decode cX5_findFault 65 = .ok (.getfield 19, 3) := by decide +kernel
theorem dX5_findFault_68 : decode cX5_findFault 68 = .ok (.ireturn, 1) := by decide +kernel
theorem dX5_findFault_69 : decode cX5_findFault 69 = .ok (.aload_n 0, 1) := by decide +kernel
theorem dX5_findFault_70 : decode cX5_findFault 70 = .ok (.getfield 35, 3) := by decide +kernel
theorem dX5_findFault_73 : decode cX5_findFault 73 = .ok (.ifCond .eq 10, 3) := by decide +kernel
theorem dX5_findFault_76 : decode cX5_findFault 76 = .ok (.aload_n 0, 1) := by decide +kernel
theorem dX5_findFault_77 : decode cX5_findFault 77 = .ok (.invokevirtual 41, 3) := by decide +kernel
theorem dX5_findFault_80 : decode cX5_findFault 80 = .ok (.ifCond .eq 7, 3) := by decide +kernel
theorem dX5_findFault_83 : decode cX5_findFault 83 = .ok (.iconst (-1), 1) := by decide +kernel
theorem dX5_findFault_84 : decode cX5_findFault 84 = .ok (.goto 7, 3) := by decide +kernel
theorem dX5_findFault_87 : decode cX5_findFault 87 = .ok (.aload_n 0, 1) := by decide +kernel
theorem dX5_findFault_88 : decode cX5_findFault 88 = .ok (.getfield 44, 3) := by decide +kernel
theorem dX5_findFault_91 : decode cX5_findFault 91 = .ok (.ireturn, 1) := by decide +kernel
theorem dX5_readRhythm_0 : decode cX5_readRhythm 0 = .ok (.aload_n 0, 1) := by decide +kernel
theorem dX5_readRhythm_1 : decode cX5_readRhythm 1 = .ok (.bipush 73, 2) := by decide +kernel
theorem dX5_readRhythm_3 : decode cX5_readRhythm 3 = .ok (.invokevirtual 47, 3) := by decide +kernel
theorem dX5_readRhythm_6 : decode cX5_readRhythm 6 = .ok (.ifCond .eq 32, 3) := by decide +kernel
theorem dX5_readRhythm_9 : decode cX5_readRhythm 9 = .ok (.aload_n 0, 1) := by decide +kernel
theorem dX5_readRhythm_10 : decode cX5_readRhythm 10 = .ok (.iconst 4, 1) := by decide +kernel
theorem dX5_readRhythm_11 : decode cX5_readRhythm 11 = .ok (.putfield 35, 3) := by decide +kernel
theorem dX5_readRhythm_14 : decode cX5_readRhythm 14 = .ok (.aload_n 0, 1) := by decide +kernel
theorem dX5_readRhythm_15 : decode cX5_readRhythm 15 = .ok (.bipush 115, 2) := by decide +kernel
theorem dX5_readRhythm_17 : decode cX5_readRhythm 17 = .ok (.invokevirtual 47, 3) := by decide +kernel
theorem dX5_readRhythm_20 : decode cX5_readRhythm 20 = .ok (.ifCond .eq 16, 3) := by decide +kernel
theorem dX5_readRhythm_23 : decode cX5_readRhythm 23 = .ok (.aload_n 0, 1) := by decide +kernel
theorem dX5_readRhythm_24 : decode cX5_readRhythm 24 = .ok (.bipush 111, 2) := by decide +kernel
theorem dX5_readRhythm_26 : decode cX5_readRhythm 26 = .ok (.invokevirtual 47, 3) := by decide +kernel
theorem dX5_readRhythm_29 : decode cX5_readRhythm 29 = .ok (.ifCond .eq 7, 3) := by decide +kernel
theorem dX5_readRhythm_32 : decode cX5_readRhythm 32 = .ok (.iconst 1, 1) := by decide +kernel
theorem dX5_readRhythm_33 : decode cX5_readRhythm 33 = .ok (.goto 4, 3) := by decide +kernel
theorem dX5_readRhythm_36 : decode cX5_readRhythm 36 = .ok (.iconst 0, 1) := by decide +kernel
theorem dX5_readRhythm_37 : decode cX5_readRhythm 37 = .ok (.ireturn, 1) := by decide +kernel
theorem dX5_readRhythm_38 : decode cX5_readRhythm 38 = .ok (.aload_n 0, 1) := by decide +kernel
theorem dX5_readRhythm_39 : decode cX5_readRhythm 39 = .ok (.bipush 70, 2) := by decide +kernel
theorem dX5_readRhythm_41 : decode cX5_readRhythm 41 = .ok (.invokevirtual 47, 3) := by decide +kernel
theorem dX5_readRhythm_44 : decode cX5_readRhythm 44 = .ok (.ifCond .eq 41, 3) := by decide +kernel
theorem dX5_readRhythm_47 : decode cX5_readRhythm 47 = .ok (.aload_n 0, 1) := by decide +kernel
theorem dX5_readRhythm_48 : decode cX5_readRhythm 48 = .ok (.aload_n 0, 1) := by decide +kernel
theorem dX5_readRhythm_49 : decode cX5_readRhythm 49 = .ok (.bipush 108, 2) := by decide +kernel
theorem dX5_readRhythm_51 : decode cX5_readRhythm 51 = .ok (.invokevirtual 47, 3) := by decide +kernel
theorem dX5_readRhythm_54 : decode cX5_readRhythm 54 = .ok (.ifCond .eq 7, 3) := by decide +kernel
theorem dX5_readRhythm_57 : decode cX5_readRhythm 57 = .ok (.iconst 1, 1) := by decide +kernel
theorem dX5_readRhythm_58 : decode cX5_readRhythm 58 = .ok (.goto 4, 3) := by decide +kernel
theorem dX5_readRhythm_61 : decode cX5_readRhythm 61 = .ok (.iconst 0, 1) := by decide +kernel
theorem dX5_readRhythm_62 : decode cX5_readRhythm 62 = .ok (.putfield 35, 3) := by decide +kernel
theorem dX5_readRhythm_65 : decode cX5_readRhythm 65 = .ok (.aload_n 0, 1) := by decide +kernel
theorem dX5_readRhythm_66 : decode cX5_readRhythm 66 = .ok (.getfield 35, 3) := by decide +kernel
theorem dX5_readRhythm_69 : decode cX5_readRhythm 69 = .ok (.ifCond .eq 10, 3) := by decide +kernel
theorem dX5_readRhythm_72 : decode cX5_readRhythm 72 = .ok (.aload_n 0, 1) := by decide +kernel
theorem dX5_readRhythm_73 : decode cX5_readRhythm 73 = .ok (.invokevirtual 51, 3) := by decide +kernel
theorem dX5_readRhythm_76 : decode cX5_readRhythm 76 = .ok (.ifCond .eq 7, 3) := by decide +kernel
theorem dX5_readRhythm_79 : decode cX5_readRhythm 79 = .ok (.iconst 1, 1) := by decide +kernel
theorem dX5_readRhythm_80 : decode cX5_readRhythm 80 = .ok (.goto 4, 3) := by decide +kernel
theorem dX5_readRhythm_83 : decode cX5_readRhythm 83 = .ok (.iconst 0, 1) := by decide +kernel
theorem dX5_readRhythm_84 : decode cX5_readRhythm 84 = .ok (.ireturn, 1) := by decide +kernel
theorem dX5_readRhythm_85 : decode cX5_readRhythm 85 = .ok (.aload_n 0, 1) := by decide +kernel
theorem dX5_readRhythm_86 : decode cX5_readRhythm 86 = .ok (.bipush 79, 2) := by decide +kernel
theorem dX5_readRhythm_88 : decode cX5_readRhythm 88 = .ok (.invokevirtual 47, 3) := by decide +kernel
theorem dX5_readRhythm_91 : decode cX5_readRhythm 91 = .ok (.ifCond .eq 30, 3) := by decide +kernel
theorem dX5_readRhythm_94 : decode cX5_readRhythm 94 = .ok (.aload_n 0, 1) := by decide +kernel
theorem dX5_readRhythm_95 : decode cX5_readRhythm 95 = .ok (.iconst 2, 1) := by decide +kernel
theorem dX5_readRhythm_96 : decode cX5_readRhythm 96 = .ok (.putfield 35, 3) := by decide +kernel
theorem dX5_readRhythm_99 : decode cX5_readRhythm 99 = .ok (.aload_n 0, 1) := by decide +kernel
theorem dX5_readRhythm_100 : decode cX5_readRhythm 100 = .ok (.bipush 99, 2) := by decide +kernel
theorem dX5_readRhythm_102 : decode cX5_readRhythm 102 = .ok (.invokevirtual 47, 3) := by decide +kernel
theorem dX5_readRhythm_105 : decode cX5_readRhythm 105 = .ok (.ifCond .eq 14, 3) := by decide +kernel
theorem dX5_readRhythm_108 : decode cX5_readRhythm 108 = .ok (.aload_n 0, 1) := by decide +kernel
theorem dX5_readRhythm_109 : decode cX5_readRhythm 109 = .ok (.invokevirtual 51, 3) := by decide +kernel
theorem dX5_readRhythm_112 : decode cX5_readRhythm 112 = .ok (.ifCond .eq 7, 3) := by decide +kernel
theorem dX5_readRhythm_115 : decode cX5_readRhythm 115 = .ok (.iconst 1, 1) := by decide +kernel
theorem dX5_readRhythm_116 : decode cX5_readRhythm 116 = .ok (.goto 4, 3) := by decide +kernel
theorem dX5_readRhythm_119 : decode cX5_readRhythm 119 = .ok (.iconst 0, 1) := by decide +kernel
theorem dX5_readRhythm_120 : decode cX5_readRhythm 120 = .ok (.ireturn, 1) := by decide +kernel
theorem dX5_readRhythm_121 : decode cX5_readRhythm 121 = .ok (.aload_n 0, 1) := by decide +kernel
theorem dX5_readRhythm_122 : decode cX5_readRhythm 122 = .ok (.iconst 3, 1) := by decide +kernel
theorem dX5_readRhythm_123 : decode cX5_readRhythm 123 = .ok (.putfield 35, 3) := by decide +kernel
theorem dX5_readRhythm_126 : decode cX5_readRhythm 126 = .ok (.aload_n 0, 1) := by decide +kernel
theorem dX5_readRhythm_127 : decode cX5_readRhythm 127 = .ok (.bipush 81, 2) := by decide +kernel
theorem dX5_readRhythm_129 : decode cX5_readRhythm 129 = .ok (.invokevirtual 47, 3) := by decide +kernel
theorem dX5_readRhythm_132 : decode cX5_readRhythm 132 = .ok (.ifCond .eq 14, 3) := by decide +kernel
theorem dX5_readRhythm_135 : decode cX5_readRhythm 135 = .ok (.aload_n 0, 1) := by decide +kernel
theorem dX5_readRhythm_136 : decode cX5_readRhythm 136 = .ok (.invokevirtual 51, 3) := by decide +kernel
theorem dX5_readRhythm_139 : decode cX5_readRhythm 139 = .ok (.ifCond .eq 7, 3) := by decide +kernel
theorem dX5_readRhythm_142 : decode cX5_readRhythm 142 = .ok (.iconst 1, 1) := by decide +kernel
theorem dX5_readRhythm_143 : decode cX5_readRhythm 143 = .ok (.goto 4, 3) := by decide +kernel
theorem dX5_readRhythm_146 : decode cX5_readRhythm 146 = .ok (.iconst 0, 1) := by decide +kernel
theorem dX5_readRhythm_147 : decode cX5_readRhythm 147 = .ok (.ireturn, 1) := by decide +kernel
theorem dX5_readTimes_0 : decode cX5_readTimes 0 = .ok (.aload_n 0, 1) := by decide +kernel
theorem dX5_readTimes_1 : decode cX5_readTimes 1 = .ok (.bipush 40, 2) := by decide +kernel
theorem dX5_readTimes_3 : decode cX5_readTimes 3 = .ok (.invokevirtual 47, 3) := by decide +kernel
theorem dX5_readTimes_6 : decode cX5_readTimes 6 = .ok (.ifCond .ne 5, 3) := by decide +kernel
theorem dX5_readTimes_9 : decode cX5_readTimes 9 = .ok (.iconst 1, 1) := by decide +kernel
theorem dX5_readTimes_10 : decode cX5_readTimes 10 = .ok (.ireturn, 1) := by decide +kernel
theorem dX5_readTimes_11 : decode cX5_readTimes 11 = .ok (.aload_n 0, 1) := by decide +kernel
theorem dX5_readTimes_12 : decode cX5_readTimes 12 = .ok (.invokevirtual 54, 3) := by decide +kernel
theorem dX5_readTimes_15 : decode cX5_readTimes 15 = .ok (.ifCond .ne 5, 3) := by decide +kernel
theorem dX5_readTimes_18 : decode cX5_readTimes 18 = .ok (.iconst 0, 1) := by decide +kernel
theorem dX5_readTimes_19 : decode cX5_readTimes 19 = .ok (.ireturn, 1) := by decide +kernel
theorem dX5_readTimes_20 : decode cX5_readTimes 20 = .ok (.aload_n 0, 1) := by decide +kernel
theorem dX5_readTimes_21 : decode cX5_readTimes 21 = .ok (.aload_n 0, 1) := by decide +kernel
theorem dX5_readTimes_22 : decode cX5_readTimes 22 = .ok (.getfield 57, 3) := by decide +kernel
theorem dX5_readTimes_25 : decode cX5_readTimes 25 = .ok (.putfield 22, 3) := by decide +kernel
theorem dX5_readTimes_28 : decode cX5_readTimes 28 = .ok (.aload_n 0, 1) := by decide +kernel
theorem dX5_readTimes_29 : decode cX5_readTimes 29 = .ok (.bipush 41, 2) := by decide +kernel
theorem dX5_readTimes_31 : decode cX5_readTimes 31 = .ok (.invokevirtual 47, 3) := by decide +kernel
theorem dX5_readTimes_34 : decode cX5_readTimes 34 = .ok (.ireturn, 1) := by decide +kernel
theorem dX5_readColour_0 : decode cX5_readColour 0 = .ok (.aload_n 0, 1) := by decide +kernel
theorem dX5_readColour_1 : decode cX5_readColour 1 = .ok (.bipush 87, 2) := by decide +kernel
theorem dX5_readColour_3 : decode cX5_readColour 3 = .ok (.invokevirtual 47, 3) := by decide +kernel
theorem dX5_readColour_6 : decode cX5_readColour 6 = .ok (.ifCond .eq 10, 3) := by decide +kernel
theorem dX5_readColour_9 : decode cX5_readColour 9 = .ok (.aload_n 0, 1) := by decide +kernel
theorem dX5_readColour_10 : decode cX5_readColour 10 = .ok (.iconst 0, 1) := by decide +kernel
theorem dX5_readColour_11 : decode cX5_readColour 11 = .ok (.putfield 60, 3) := by decide +kernel
theorem dX5_readColour_14 : decode cX5_readColour 14 = .ok (.iconst 1, 1) := by decide +kernel
theorem dX5_readColour_15 : decode cX5_readColour 15 = .ok (.ireturn, 1) := by decide +kernel
theorem dX5_readColour_16 : decode cX5_readColour 16 = .ok (.aload_n 0, 1) := by decide +kernel
theorem dX5_readColour_17 : decode cX5_readColour 17 = .ok (.bipush 82, 2) := by decide +kernel
theorem dX5_readColour_19 : decode cX5_readColour 19 = .ok (.invokevirtual 47, 3) := by decide +kernel
theorem dX5_readColour_22 : decode cX5_readColour 22 = .ok (.ifCond .eq 10, 3) := by decide +kernel
theorem dX5_readColour_25 : decode cX5_readColour 25 = .ok (.aload_n 0, 1) := by decide +kernel
theorem dX5_readColour_26 : decode cX5_readColour 26 = .ok (.iconst 1, 1) := by decide +kernel
theorem dX5_readColour_27 : decode cX5_readColour 27 = .ok (.putfield 60, 3) := by decide +kernel
theorem dX5_readColour_30 : decode cX5_readColour 30 = .ok (.iconst 1, 1) := by decide +kernel
theorem dX5_readColour_31 : decode cX5_readColour 31 = .ok (.ireturn, 1) := by decide +kernel
theorem dX5_readColour_32 : decode cX5_readColour 32 = .ok (.aload_n 0, 1) := by decide +kernel
theorem dX5_readColour_33 : decode cX5_readColour 33 = .ok (.iconst 2, 1) := by decide +kernel
theorem dX5_readColour_34 : decode cX5_readColour 34 = .ok (.putfield 60, 3) := by decide +kernel
theorem dX5_readColour_37 : decode cX5_readColour 37 = .ok (.aload_n 0, 1) := by decide +kernel
theorem dX5_readColour_38 : decode cX5_readColour 38 = .ok (.bipush 71, 2) := by decide +kernel
theorem dX5_readColour_40 : decode cX5_readColour 40 = .ok (.invokevirtual 47, 3) := by decide +kernel
theorem dX5_readColour_43 : decode cX5_readColour 43 = .ok (.ireturn, 1) := by decide +kernel
theorem dX5_readPeriod_0 : decode cX5_readPeriod 0 = .ok (.aload_n 0, 1) := by decide +kernel
theorem dX5_readPeriod_1 : decode cX5_readPeriod 1 = .ok (.aload_n 0, 1) := by decide +kernel
theorem dX5_readPeriod_2 : decode cX5_readPeriod 2 = .ok (.getfield 19, 3) := by decide +kernel
theorem dX5_readPeriod_5 : decode cX5_readPeriod 5 = .ok (.putfield 44, 3) := by decide +kernel
theorem dX5_readPeriod_8 : decode cX5_readPeriod 8 = .ok (.aload_n 0, 1) := by decide +kernel
theorem dX5_readPeriod_9 : decode cX5_readPeriod 9 = .ok (.invokevirtual 54, 3) := by decide +kernel
theorem dX5_readPeriod_12 : decode cX5_readPeriod 12 = .ok (.ifCond .ne 5, 3) := by decide +kernel
theorem dX5_readPeriod_15 : decode cX5_readPeriod 15 = .ok (.iconst 0, 1) := by decide +kernel
theorem dX5_readPeriod_16 : decode cX5_readPeriod 16 = .ok (.ireturn, 1) := by decide +kernel
theorem dX5_readPeriod_17 : decode cX5_readPeriod 17 = .ok (.aload_n 0, 1) := by decide +kernel
theorem dX5_readPeriod_18 : decode cX5_readPeriod 18 = .ok (.aload_n 0, 1) := by decide +kernel
theorem dX5_readPeriod_19 : decode cX5_readPeriod 19 = .ok (.getfield 57, 3) := by decide +kernel
theorem dX5_readPeriod_22 : decode cX5_readPeriod 22 = .ok (.putfield 25, 3) := by decide +kernel
theorem dX5_readPeriod_25 : decode cX5_readPeriod 25 = .ok (.aload_n 0, 1) := by decide +kernel
theorem dX5_readPeriod_26 : decode cX5_readPeriod 26 = .ok (.bipush 115, 2) := by decide +kernel
theorem dX5_readPeriod_28 : decode cX5_readPeriod 28 = .ok (.invokevirtual 47, 3) := by decide +kernel
theorem dX5_readPeriod_31 : decode cX5_readPeriod 31 = .ok (.ireturn, 1) := by decide +kernel
theorem dX5_readNumber_0 : decode cX5_readNumber 0 = .ok (.aload_n 0, 1) := by decide +kernel
theorem dX5_readNumber_1 : decode cX5_readNumber 1 = .ok (.iconst 0, 1) := by decide +kernel
theorem dX5_readNumber_2 : decode cX5_readNumber 2 = .ok (.putfield 57, 3) := by decide +kernel
theorem dX5_readNumber_5 : decode cX5_readNumber 5 = .ok (.iconst 0, 1) := by decide +kernel
theorem dX5_readNumber_6 : decode cX5_readNumber 6 = .ok (.istore_n 1, 1) := by decide +kernel
theorem dX5_readNumber_7 : decode cX5_readNumber 7 = .ok (.iload_n 1, 1) := by decide +kernel
theorem dX5_readNumber_8 : decode cX5_readNumber 8 = .ok (.iconst 2, 1) := by decide +kernel
theorem dX5_readNumber_9 : decode cX5_readNumber 9 = .ok (.if_icmp .ge 50, 3) := by decide +kernel
theorem dX5_readNumber_12 : decode cX5_readNumber 12 = .ok (.aload_n 0, 1) := by decide +kernel
theorem dX5_readNumber_13 : decode cX5_readNumber 13 = .ok (.invokevirtual 63, 3) := by decide +kernel
theorem dX5_readNumber_16 : decode cX5_readNumber 16 = .ok (.ifCond .eq 43, 3) := by decide +kernel
theorem dX5_readNumber_19 : decode cX5_readNumber 19 = .ok (.aload_n 0, 1) := by decide +kernel
theorem dX5_readNumber_20 : decode cX5_readNumber 20 = .ok (.aload_n 0, 1) := by decide +kernel
theorem dX5_readNumber_21 : decode cX5_readNumber 21 = .ok (.getfield 57, 3) := by decide +kernel
theorem dX5_readNumber_24 : decode cX5_readNumber 24 = .ok (.bipush 10, 2) := by decide +kernel
theorem dX5_readNumber_26 : decode cX5_readNumber 26 = .ok (.imul, 1) := by decide +kernel
theorem dX5_readNumber_27 : decode cX5_readNumber 27 = .ok (.aload_n 0, 1) := by decide +kernel
theorem dX5_readNumber_28 : decode cX5_readNumber 28 = .ok (.getfield 9, 3) := by decide +kernel
theorem dX5_readNumber_31 : decode cX5_readNumber 31 = .ok (.aload_n 0, 1) := by decide +kernel
theorem dX5_readNumber_32 : decode cX5_readNumber 32 = .ok (.getfield 19, 3) := by decide +kernel
theorem dX5_readNumber_35 : decode cX5_readNumber 35 = .ok (.iaload, 1) := by decide +kernel
theorem dX5_readNumber_36 : decode cX5_readNumber 36 = .ok (.iadd, 1) := by decide +kernel
theorem dX5_readNumber_37 : decode cX5_readNumber 37 = .ok (.bipush 48, 2) := by decide +kernel
theorem dX5_readNumber_39 : decode cX5_readNumber 39 = .ok (.isub, 1) := by decide +kernel
theorem dX5_readNumber_40 : decode cX5_readNumber 40 = .ok (.putfield 57, 3) := by decide +kernel
theorem dX5_readNumber_43 : decode cX5_readNumber 43 = .ok (.aload_n 0, 1) := by decide +kernel
theorem dX5_readNumber_44 : decode cX5_readNumber 44 = .ok (.dup, 1) := by decide +kernel
theorem dX5_readNumber_45 : decode cX5_readNumber 45 = .ok (.getfield 19, 3) := by decide +kernel
theorem dX5_readNumber_48 : decode cX5_readNumber 48 = .ok (.iconst 1, 1) := by decide +kernel
theorem dX5_readNumber_49 : decode cX5_readNumber 49 = .ok (.iadd, 1) := by decide +kernel
theorem dX5_readNumber_50 : decode cX5_readNumber 50 = .ok (.putfield 19, 3) := by decide +kernel
theorem dX5_readNumber_53 : decode cX5_readNumber 53 = .ok (.iinc 1 1, 3) := by decide +kernel
theorem dX5_readNumber_56 : decode cX5_readNumber 56 = .ok (.goto (-49), 3) := by decide +kernel
theorem dX5_readNumber_59 : decode cX5_readNumber 59 = .ok (.iload_n 1, 1) := by decide +kernel
theorem dX5_readNumber_60 : decode cX5_readNumber 60 = .ok (.ifCond .le 7, 3) := by decide +kernel
theorem dX5_readNumber_63 : decode cX5_readNumber 63 = .ok (.iconst 1, 1) := by decide +kernel
theorem dX5_readNumber_64 : decode cX5_readNumber 64 = .ok (.goto 4, 3) := by decide +kernel
theorem dX5_readNumber_67 : decode cX5_readNumber 67 = .ok (.iconst 0, 1) := by decide +kernel
theorem dX5_readNumber_68 : decode cX5_readNumber 68 = .ok (.ireturn, 1) := by decide +kernel
theorem dX5_isDigit_0 : decode cX5_isDigit 0 = .ok (.aload_n 0, 1) := by decide +kernel
theorem dX5_isDigit_1 : decode cX5_isDigit 1 = .ok (.getfield 19, 3) := by decide +kernel
theorem dX5_isDigit_4 : decode cX5_isDigit 4 = .ok (.aload_n 0, 1) := by decide +kernel
theorem dX5_isDigit_5 : decode cX5_isDigit 5 = .ok (.getfield 13, 3) := by decide +kernel
theorem dX5_isDigit_8 : decode cX5_isDigit 8 = .ok (.if_icmp .ge 35, 3) := by decide +kernel
theorem dX5_isDigit_11 : decode cX5_isDigit 11 = .ok (.aload_n 0, 1) := by decide +kernel
theorem dX5_isDigit_12 : decode cX5_isDigit 12 = .ok (.getfield 9, 3) := by decide +kernel
theorem dX5_isDigit_15 : decode cX5_isDigit 15 = .ok (.aload_n 0, 1) := by decide +kernel
theorem dX5_isDigit_16 : decode cX5_isDigit 16 = .ok (.getfield 19, 3) := by decide +kernel
theorem dX5_isDigit_19 : decode cX5_isDigit 19 = .ok (.iaload, 1) := by decide +kernel
theorem dX5_isDigit_20 : decode cX5_isDigit 20 = .ok (.bipush 48, 2) := by decide +kernel
theorem dX5_isDigit_22 : decode cX5_isDigit 22 = .ok (.if_icmp .lt 21, 3) := by decide +kernel
theorem dX5_isDigit_25 : decode cX5_isDigit 25 = .ok (.aload_n 0, 1) := by decide +kernel
theorem dX5_isDigit_26 : decode cX5_isDigit 26 = .ok (.getfield 9, 3) := by decide +kernel
theorem dX5_isDigit_29 : decode cX5_isDigit 29 = .ok (.aload_n 0, 1) := by decide +kernel
theorem dX5_isDigit_30 : decode cX5_isDigit 30 = .ok (.getfield 19, 3) := by decide +kernel
theorem dX5_isDigit_33 : decode cX5_isDigit 33 = .ok (.iaload, 1) := by decide +kernel
theorem dX5_isDigit_34 : decode cX5_isDigit 34 = .ok (.bipush 57, 2) := by decide +kernel
theorem dX5_isDigit_36 : decode cX5_isDigit 36 = .ok (.if_icmp .gt 7, 3) := by decide +kernel
theorem dX5_isDigit_39 : decode cX5_isDigit 39 = .ok (.iconst 1, 1) := by decide +kernel
theorem dX5_isDigit_40 : decode cX5_isDigit 40 = .ok (.goto 4, 3) := by decide +kernel
theorem dX5_isDigit_43 : decode cX5_isDigit 43 = .ok (.iconst 0, 1) := by decide +kernel
theorem dX5_isDigit_44 : decode cX5_isDigit 44 = .ok (.ireturn, 1) := by decide +kernel
theorem dX5_takes_0 : decode cX5_takes 0 = .ok (.aload_n 0, 1) := by decide +kernel
theorem dX5_takes_1 : decode cX5_takes 1 = .ok (.getfield 19, 3) := by decide +kernel
theorem dX5_takes_4 : decode cX5_takes 4 = .ok (.aload_n 0, 1) := by decide +kernel
theorem dX5_takes_5 : decode cX5_takes 5 = .ok (.getfield 13, 3) := by decide +kernel
theorem dX5_takes_8 : decode cX5_takes 8 = .ok (.if_icmp .ge 16, 3) := by decide +kernel
theorem dX5_takes_11 : decode cX5_takes 11 = .ok (.aload_n 0, 1) := by decide +kernel
theorem dX5_takes_12 : decode cX5_takes 12 = .ok (.getfield 9, 3) := by decide +kernel
theorem dX5_takes_15 : decode cX5_takes 15 = .ok (.aload_n 0, 1) := by decide +kernel
theorem dX5_takes_16 : decode cX5_takes 16 = .ok (.getfield 19, 3) := by decide +kernel
theorem dX5_takes_19 : decode cX5_takes 19 = .ok (.iaload, 1) := by decide +kernel
theorem dX5_takes_20 : decode cX5_takes 20 = .ok (.iload_n 1, 1) := by decide +kernel
theorem dX5_takes_21 : decode cX5_takes 21 = .ok (.if_icmp .eq 5, 3) := by decide +kernel
theorem dX5_takes_24 : decode cX5_takes 24 = .ok (.iconst 0, 1) := by decide +kernel
theorem dX5_takes_25 : decode cX5_takes 25 = .ok (.ireturn, 1) := by decide +kernel
theorem dX5_takes_26 : decode cX5_takes 26 = .ok (.aload_n 0, 1) := by decide +kernel
theorem dX5_takes_27 : decode cX5_takes 27 = .ok (.dup, 1) := by decide +kernel
theorem dX5_takes_28 : decode cX5_takes 28 = .ok (.getfield 19, 3) := by decide +kernel
theorem dX5_takes_31 : decode cX5_takes 31 = .ok (.iconst 1, 1) := by decide +kernel
theorem dX5_takes_32 : decode cX5_takes 32 = .ok (.iadd, 1) := by decide +kernel
theorem dX5_takes_33 : decode cX5_takes 33 = .ok (.putfield 19, 3) := by decide +kernel
theorem dX5_takes_36 : decode cX5_takes 36 = .ok (.iconst 1, 1) := by decide +kernel
theorem dX5_takes_37 : decode cX5_takes 37 = .ok (.ireturn, 1) := by decide +kernel
theorem dX5_goesIn_0 : decode cX5_goesIn 0 = .ok (.aload_n 0, 1) := by decide +kernel
theorem dX5_goesIn_1 : decode cX5_goesIn 1 = .ok (.getfield 25, 3) := by decide +kernel
theorem dX5_goesIn_4 : decode cX5_goesIn 4 = .ok (.iconst 1, 1) := by decide +kernel
theorem dX5_goesIn_5 : decode cX5_goesIn 5 = .ok (.if_icmp .lt 29, 3) := by decide +kernel
theorem dX5_goesIn_8 : decode cX5_goesIn 8 = .ok (.aload_n 0, 1) := by decide +kernel
theorem dX5_goesIn_9 : decode cX5_goesIn 9 = .ok (.getfield 25, 3) := by decide +kernel
theorem dX5_goesIn_12 : decode cX5_goesIn 12 = .ok (.bipush 30, 2) := by decide +kernel
theorem dX5_goesIn_14 : decode cX5_goesIn 14 = .ok (.if_icmp .gt 20, 3) := by decide +kernel
theorem dX5_goesIn_17 : decode cX5_goesIn 17 = .ok (.aload_n 0, 1) := by decide +kernel
theorem dX5_goesIn_18 : decode cX5_goesIn 18 = .ok (.getfield 22, 3) := by decide +kernel
theorem dX5_goesIn_21 : decode cX5_goesIn 21 = .ok (.iconst 1, 1) := by decide +kernel
theorem dX5_goesIn_22 : decode cX5_goesIn 22 = .ok (.if_icmp .lt 12, 3) := by decide +kernel
theorem dX5_goesIn_25 : decode cX5_goesIn 25 = .ok (.aload_n 0, 1) := by decide +kernel
theorem dX5_goesIn_26 : decode cX5_goesIn 26 = .ok (.getfield 22, 3) := by decide +kernel
theorem dX5_goesIn_29 : decode cX5_goesIn 29 = .ok (.bipush 15, 2) := by decide +kernel
theorem dX5_goesIn_31 : decode cX5_goesIn 31 = .ok (.if_icmp .le 5, 3) := by decide +kernel
theorem dX5_goesIn_34 : decode cX5_goesIn 34 = .ok (.iconst 0, 1) := by decide +kernel
theorem dX5_goesIn_35 : decode cX5_goesIn 35 = .ok (.ireturn, 1) := by decide +kernel
theorem dX5_goesIn_36 : decode cX5_goesIn 36 = .ok (.aload_n 0, 1) := by decide +kernel
theorem dX5_goesIn_37 : decode cX5_goesIn 37 = .ok (.getfield 35, 3) := by decide +kernel
theorem dX5_goesIn_40 : decode cX5_goesIn 40 = .ok (.iconst 4, 1) := by decide +kernel
theorem dX5_goesIn_41 : decode cX5_goesIn 41 = .ok (.if_icmp .ne 18, 3) := by decide +kernel
theorem dX5_goesIn_44 : decode cX5_goesIn 44 = .ok (.aload_n 0, 1) := by decide +kernel
theorem dX5_goesIn_45 : decode cX5_goesIn 45 = .ok (.getfield 25, 3) := by decide +kernel
theorem dX5_goesIn_48 : decode cX5_goesIn 48 = .ok (.iconst 2, 1) := by decide +kernel
theorem dX5_goesIn_49 : decode cX5_goesIn 49 = .ok (.irem, 1) := by decide +kernel
theorem dX5_goesIn_50 : decode cX5_goesIn 50 = .ok (.ifCond .ne 7, 3) := by decide +kernel
theorem dX5_goesIn_53 : decode cX5_goesIn 53 = .ok (.iconst 1, 1) := by decide +kernel
theorem dX5_goesIn_54 : decode cX5_goesIn 54 = .ok (.goto 4, 3) := by decide +kernel
theorem dX5_goesIn_57 : decode cX5_goesIn 57 = .ok (.iconst 0, 1) := by decide +kernel
theorem dX5_goesIn_58 : decode cX5_goesIn 58 = .ok (.ireturn, 1) := by decide +kernel
theorem dX5_goesIn_59 : decode cX5_goesIn 59 = .ok (.iconst 2, 1) := by decide +kernel
theorem dX5_goesIn_60 : decode cX5_goesIn 60 = .ok (.aload_n 0, 1) := by decide +kernel
theorem dX5_goesIn_61 : decode cX5_goesIn 61 = .ok (.getfield 22, 3) := by decide +kernel
theorem dX5_goesIn_64 : decode cX5_goesIn 64 = .ok (.imul, 1) := by decide +kernel
theorem dX5_goesIn_65 : decode cX5_goesIn 65 = .ok (.aload_n 0, 1) := by decide +kernel
theorem dX5_goesIn_66 : decode cX5_goesIn 66 = .ok (.getfield 35, 3) := by decide +kernel
theorem dX5_goesIn_69 : decode cX5_goesIn 69 = .ok (.iconst 3, 1) := by decide +kernel
theorem dX5_goesIn_70 : decode cX5_goesIn 70 = .ok (.if_icmp .ne 7, 3) := by decide +kernel
theorem dX5_goesIn_73 : decode cX5_goesIn 73 = .ok (.iconst 1, 1) := by decide +kernel
theorem dX5_goesIn_74 : decode cX5_goesIn 74 = .ok (.goto 4, 3) := by decide +kernel
theorem dX5_goesIn_77 : decode cX5_goesIn 77 = .ok (.iconst 0, 1) := by decide +kernel
theorem dX5_goesIn_78 : decode cX5_goesIn 78 = .ok (.iadd, 1) := by decide +kernel
theorem dX5_goesIn_79 : decode cX5_goesIn 79 = .ok (.aload_n 0, 1) := by decide +kernel
theorem dX5_goesIn_80 : decode cX5_goesIn 80 = .ok (.getfield 25, 3) := by decide +kernel
theorem dX5_goesIn_83 : decode cX5_goesIn 83 = .ok (.if_icmp .gt 7, 3) := by decide +kernel
theorem dX5_goesIn_86 : decode cX5_goesIn 86 = .ok (.iconst 1, 1) := by decide +kernel
theorem dX5_goesIn_87 : decode cX5_goesIn 87 = .ok (.goto 4, 3) := by decide +kernel
theorem dX5_goesIn_90 : decode cX5_goesIn 90 = .ok (.iconst 0, 1) := by decide +kernel
theorem dX5_goesIn_91 : decode cX5_goesIn 91 = .ok (.ireturn, 1) := by decide +kernel
theorem dX5_litSeconds_0 : decode cX5_litSeconds 0 = .ok (.lconst 1, 1) := by decide +kernel
theorem dX5_litSeconds_1 : decode cX5_litSeconds 1 = .ok (.aload_n 0, 1) := by decide +kernel
theorem dX5_litSeconds_2 : decode cX5_litSeconds 2 = .ok (.getfield 25, 3) := by decide +kernel
theorem dX5_litSeconds_5 : decode cX5_litSeconds 5 = .ok (.lshl, 1) := by decide +kernel
theorem dX5_litSeconds_6 : decode cX5_litSeconds 6 = .ok (.lconst 1, 1) := by decide +kernel
theorem dX5_litSeconds_7 : decode cX5_litSeconds 7 = .ok (.lsub, 1) := by decide +kernel
theorem dX5_litSeconds_8 : decode cX5_litSeconds 8 = .ok (.lstore_n 1, 1) := by decide +kernel
theorem dX5_litSeconds_9 : decode cX5_litSeconds 9 = .ok (.aload_n 0, 1) := by decide +kernel
theorem dX5_litSeconds_10 : decode cX5_litSeconds 10 = .ok (.getfield 35, 3) := by decide +kernel
theorem dX5_litSeconds_13 : decode cX5_litSeconds 13 = .ok (.ifCond .ne 5, 3) := by decide +kernel
theorem dX5_litSeconds_16 : decode cX5_litSeconds 16 = .ok (.lload_n 1, 1) := by decide +kernel
theorem dX5_litSeconds_17 : decode cX5_litSeconds 17 = .ok (.lreturn, 1) := by decide +kernel
theorem dX5_litSeconds_18 : decode cX5_litSeconds 18 = .ok (.aload_n 0, 1) := by decide +kernel
theorem dX5_litSeconds_19 : decode cX5_litSeconds 19 = .ok (.getfield 35, 3) := by decide +kernel
theorem dX5_litSeconds_22 : decode cX5_litSeconds 22 = .ok (.iconst 4, 1) := by decide +kernel
theorem dX5_litSeconds_23 : decode cX5_litSeconds 23 = .ok (.if_icmp .ne 14, 3) := by decide +kernel
theorem dX5_litSeconds_26 : decode cX5_litSeconds 26 = .ok (.lconst 1, 1) := by decide +kernel
theorem dX5_litSeconds_27 : decode cX5_litSeconds 27 = .ok (.aload_n 0, 1) := by decide +kernel
theorem dX5_litSeconds_28 : decode cX5_litSeconds 28 = .ok (.getfield 25, 3) := by decide +kernel
theorem dX5_litSeconds_31 : decode cX5_litSeconds 31 = .ok (.iconst 2, 1) := by decide +kernel
theorem dX5_litSeconds_32 : decode cX5_litSeconds 32 = .ok (.idiv, 1) := by decide +kernel
theorem dX5_litSeconds_33 : decode cX5_litSeconds 33 = .ok (.lshl, 1) := by decide +kernel
theorem dX5_litSeconds_34 : decode cX5_litSeconds 34 = .ok (.lconst 1, 1) := by decide +kernel
theorem dX5_litSeconds_35 : decode cX5_litSeconds 35 = .ok (.lsub, 1) := by decide +kernel
theorem dX5_litSeconds_36 : decode cX5_litSeconds 36 = .ok (.lreturn, 1) := by decide +kernel
theorem dX5_litSeconds_37 : decode cX5_litSeconds 37 = .ok (.lconst 0, 1) := by decide +kernel
theorem dX5_litSeconds_38 : decode cX5_litSeconds 38 = .ok (.lstore_n 3, 1) := by decide +kernel
theorem dX5_litSeconds_39 : decode cX5_litSeconds 39 = .ok (.iconst 0, 1) := by decide +kernel
theorem dX5_litSeconds_40 : decode cX5_litSeconds 40 = .ok (.istore 5, 2) := by decide +kernel
theorem dX5_litSeconds_42 : decode cX5_litSeconds 42 = .ok (.iload 5, 2) := by decide +kernel
theorem dX5_litSeconds_44 : decode cX5_litSeconds 44 = .ok (.aload_n 0, 1) := by decide +kernel
theorem dX5_litSeconds_45 : decode cX5_litSeconds 45 = .ok (.getfield 22, 3) := by decide +kernel
theorem dX5_litSeconds_48 : decode cX5_litSeconds 48 = .ok (.if_icmp .ge 18, 3) := by decide +kernel
theorem dX5_litSeconds_51 : decode cX5_litSeconds 51 = .ok (.lload_n 3, 1) := by decide +kernel
theorem dX5_litSeconds_52 : decode cX5_litSeconds 52 = .ok (.lconst 1, 1) := by decide +kernel
theorem dX5_litSeconds_53 : decode cX5_litSeconds 53 = .ok (.iconst 2, 1) := by decide +kernel
theorem dX5_litSeconds_54 : decode cX5_litSeconds 54 = .ok (.iload 5, 2) := by decide +kernel
theorem dX5_litSeconds_56 : decode cX5_litSeconds 56 = .ok (.imul, 1) := by decide +kernel
theorem dX5_litSeconds_57 : decode cX5_litSeconds 57 = .ok (.lshl, 1) := by decide +kernel
theorem dX5_litSeconds_58 : decode cX5_litSeconds 58 = .ok (.lor, 1) := by decide +kernel
theorem dX5_litSeconds_59 : decode cX5_litSeconds 59 = .ok (.lstore_n 3, 1) := by decide +kernel
theorem dX5_litSeconds_60 : decode cX5_litSeconds 60 = .ok (.iinc 5 1, 3) := by decide +kernel
theorem dX5_litSeconds_63 : decode cX5_litSeconds 63 = .ok (.goto (-21), 3) := by decide +kernel
theorem dX5_litSeconds_66 : decode cX5_litSeconds 66 = .ok (.aload_n 0, 1) := by decide +kernel
theorem dX5_litSeconds_67 : decode cX5_litSeconds 67 = .ok (.getfield 35, 3) := by decide +kernel
theorem dX5_litSeconds_70 : decode cX5_litSeconds 70 = .ok (.iconst 2, 1) := by decide +kernel
theorem dX5_litSeconds_71 : decode cX5_litSeconds 71 = .ok (.if_icmp .ne 13, 3) := by decide +kernel
theorem dX5_litSeconds_74 : decode cX5_litSeconds 74 = .ok (.lload_n 1, 1) := by decide +kernel
theorem dX5_litSeconds_75 : decode cX5_litSeconds 75 = .ok (.lload_n 3, 1) := by decide +kernel
theorem dX5_litSeconds_76 : decode cX5_litSeconds 76 = .ok (.ldc2_w 68, 3) := by decide +kernel
theorem dX5_litSeconds_79 : decode cX5_litSeconds 79 = .ok (.lxor, 1) := by decide +kernel
theorem dX5_litSeconds_80 : decode cX5_litSeconds 80 = .ok (.land, 1) := by decide +kernel
theorem dX5_litSeconds_81 : decode cX5_litSeconds 81 = .ok (.goto 4, 3) := by decide +kernel
theorem dX5_litSeconds_84 : decode cX5_litSeconds 84 = .ok (.lload_n 3, 1) := by decide +kernel
theorem dX5_litSeconds_85 : decode cX5_litSeconds 85 = .ok (.lreturn, 1) := by decide +kernel
theorem dX6_init_0 : decode cX6_init 0 = .ok (.aload_n 0, 1) := by decide +kernel
theorem dX6_init_1 : decode cX6_init 1 = .ok (.invokespecial 1, 3) := by decide +kernel
theorem dX6_init_4 : decode cX6_init 4 = .ok (.aload_n 0, 1) := by decide +kernel
theorem dX6_init_5 : decode cX6_init 5 = .ok (.bipush 20, 2) := by decide +kernel
theorem dX6_init_7 : decode cX6_init 7 = .ok (.newarray .int, 2) := by decide +kernel
theorem dX6_init_9 : decode cX6_init 9 = .ok (.putfield 9, 3) := by decide +kernel
theorem dX6_init_12 : decode cX6_init 12 = .ok (.aload_n 0, 1) := by decide +kernel
theorem dX6_init_13 : decode cX6_init 13 = .ok (.bipush 20, 2) := by decide +kernel
theorem dX6_init_15 : decode cX6_init 15 = .ok (.newarray .int, 2) := by decide +kernel
theorem dX6_init_17 : decode cX6_init 17 = .ok (.putfield 13, 3) := by decide +kernel
theorem dX6_init_20 : decode cX6_init 20 = .ok (.aload_n 0, 1) := by decide +kernel
theorem dX6_init_21 : decode cX6_init 21 = .ok (.bipush 20, 2) := by decide +kernel
theorem dX6_init_23 : decode cX6_init 23 = .ok (.newarray .int, 2) := by decide +kernel
theorem dX6_init_25 : decode cX6_init 25 = .ok (.putfield 16, 3) := by decide +kernel
theorem dX6_init_28 : decode cX6_init 28 = .ok (.aload_n 0, 1) := by decide +kernel
theorem dX6_init_29 : decode cX6_init 29 = .ok (.bipush 20, 2) := by decide +kernel
theorem dX6_init_31 : decode cX6_init 31 = .ok (.newarray .int, 2) := by decide +kernel
theorem dX6_init_33 : decode cX6_init 33 = .ok (.putfield 19, 3) := by decide +kernel
theorem dX6_init_36 : decode cX6_init 36 = .ok (.aload_n 0, 1) := by decide +kernel
theorem dX6_init_37 : decode cX6_init 37 = .ok (.bipush 20, 2) := by decide +kernel
theorem dX6_init_39 : decode cX6_init 39 = .ok (.newarray .boolean, 2) := by decide +kernel
theorem dX6_init_41 : decode cX6_init 41 = .ok (.putfield 22, 3) := by decide +kernel
theorem dX6_init_44 : decode cX6_init 44 = .ok (.return_, 1) := by decide +kernel
theorem dX6_latestHour_0 : decode cX6_latestHour 0 = .ok (.aload_n 0, 1) := by decide +kernel
theorem dX6_latestHour_1 : decode cX6_latestHour 1 = .ok (.getfield 26, 3) := by decide +kernel
theorem dX6_latestHour_4 : decode cX6_latestHour 4 = .ok (.ifCond .ne 7, 3) := by decide +kernel
theorem dX6_latestHour_7 : decode cX6_latestHour 7 = .ok (.iconst 0, 1) := by decide +kernel
theorem dX6_latestHour_8 : decode cX6_latestHour 8 = .ok (.goto 14, 3) := by decide +kernel
theorem dX6_latestHour_11 : decode cX6_latestHour 11 = .ok (.aload_n 0, 1) := by decide +kernel
theorem dX6_latestHour_12 : decode cX6_latestHour 12 = .ok (.getfield 19, 3) := by decide +kernel
theorem dX6_latestHour_15 : decode cX6_latestHour 15 = .ok (.aload_n 0, 1) := by decide +kernel
theorem dX6_latestHour_16 : decode cX6_latestHour 16 = .ok (.getfield 26, 3) := by decide +kernel
theorem dX6_latestHour_19 : decode cX6_latestHour 19 = .ok (.iconst 1, 1) := by decide +kernel
theorem dX6_latestHour_20 : decode cX6_latestHour 20 = .ok (.isub, 1) := by decide +kernel
theorem dX6_latestHour_21 : decode cX6_latestHour 21 = .ok (.iaload, 1) := by decide +kernel
theorem dX6_latestHour_22 : decode cX6_latestHour 22 = .ok (.ireturn, 1) := by decide +kernel
theorem dX6_append_0 : decode cX6_append 0 = .ok (.aload_n 0, 1) := by decide +kernel
theorem dX6_append_1 : decode cX6_append 1 = .ok (.getfield 9, 3) := by decide +kernel
theorem dX6_append_4 : decode cX6_append 4 = .ok (.aload_n 0, 1) := by decide +kernel
theorem dX6_append_5 : decode cX6_append 5 = .ok (.getfield 26, 3) := by decide +kernel
theorem dX6_append_8 : decode cX6_append 8 = .ok (.iload_n 1, 1) := by decide +kernel
theorem dX6_append_9 : decode cX6_append 9 = .ok (.iastore, 1) := by decide +kernel
theorem dX6_append_10 : decode cX6_append 10 = .ok (.aload_n 0, 1) := by decide +kernel
theorem dX6_append_11 : decode cX6_append 11 = .ok (.getfield 13, 3) := by decide +kernel
theorem dX6_append_14 : decode cX6_append 14 = .ok (.aload_n 0, 1) := by decide +kernel
theorem dX6_append_15 : decode cX6_append 15 = .ok (.getfield 26, 3) := by decide +kernel
theorem dX6_append_18 : decode cX6_append 18 = .ok (.iload_n 2, 1) := by decide +kernel
theorem dX6_append_19 : decode cX6_append 19 = .ok (.iastore, 1) := by decide +kernel
theorem dX6_append_20 : decode cX6_append 20 = .ok (.aload_n 0, 1) := by decide +kernel
theorem dX6_append_21 : decode cX6_append 21 = .ok (.getfield 16, 3) := by decide +kernel
theorem dX6_append_24 : decode cX6_append 24 = .ok (.aload_n 0, 1) := by decide +kernel
theorem dX6_append_25 : decode cX6_append 25 = .ok (.getfield 26, 3) := by decide +kernel
theorem dX6_append_28 : decode cX6_append 28 = .ok (.iload_n 3, 1) := by decide +kernel
theorem dX6_append_29 : decode cX6_append 29 = .ok (.iastore, 1) := by decide +kernel
theorem dX6_append_30 : decode cX6_append 30 = .ok (.aload_n 0, 1) := by decide +kernel
theorem dX6_append_31 : decode cX6_append 31 = .ok (.getfield 19, 3) := by decide +kernel
theorem dX6_append_34 : decode cX6_append 34 = .ok (.aload_n 0, 1) := by decide +kernel
theorem dX6_append_35 : decode cX6_append 35 = .ok (.getfield 26, 3) := by decide +kernel
theorem dX6_append_38 : decode cX6_append 38 = .ok (.iload 4, 2) := by decide +kernel
theorem dX6_append_40 : decode cX6_append 40 = .ok (.iastore, 1) := by decide +kernel
theorem dX6_append_41 : decode cX6_append 41 = .ok (.aload_n 0, 1) := by decide +kernel
theorem dX6_append_42 : decode cX6_append 42 = .ok (.getfield 22, 3) := by decide +kernel
theorem dX6_append_45 : decode cX6_append 45 = .ok (.aload_n 0, 1) := by decide +kernel
theorem dX6_append_46 : decode cX6_append 46 = .ok (.getfield 26, 3) := by decide +kernel
theorem dX6_append_49 : decode cX6_append 49 = .ok (.iload 5, 2) := by decide +kernel
theorem dX6_append_51 : decode cX6_append 51 = .ok (.bastore, 1) := by decide +kernel
theorem dX6_append_52 : decode cX6_append 52 = .ok (.aload_n 0, 1) := by decide +kernel
theorem dX6_append_53 : decode cX6_append 53 = .ok (.dup, 1) := by decide +kernel
theorem dX6_append_54 : decode cX6_append 54 = .ok (.getfield 26, 3) := by decide +kernel
theorem dX6_append_57 : decode cX6_append 57 = .ok (.iconst 1, 1) := by decide +kernel
theorem dX6_append_58 : decode cX6_append 58 = .ok (.iadd, 1) := by decide +kernel
theorem dX6_append_59 : decode cX6_append 59 = .ok (.putfield 26, 3) := by decide +kernel
theorem dX6_append_62 : decode cX6_append 62 = .ok (.return_, 1) := by decide +kernel
theorem dX6_tellOut_0 : decode cX6_tellOut 0 = .ok (.aload_n 0, 1) := by decide +kernel
theorem dX6_tellOut_1 : decode cX6_tellOut 1 = .ok (.getfield 26, 3) := by decide +kernel
theorem dX6_tellOut_4 : decode cX6_tellOut 4 = .ok (.iconst 1, 1) := by decide +kernel
theorem dX6_tellOut_5 : decode cX6_tellOut 5 = .ok (.isub, 1) := by decide +kernel
theorem dX6_tellOut_6 : decode cX6_tellOut 6 = .ok (.istore 4, 2) := by decide +kernel
theorem dX6_tellOut_8 : decode cX6_tellOut 8 = .ok (.iload 4, 2) := by decide +kernel
theorem dX6_tellOut_10 : decode cX6_tellOut 10 = .ok (.ifCond .lt 61, 3) := by decide +kernel
theorem dX6_tellOut_13 : decode cX6_tellOut 13 = .ok (.aload_n 0, 1) := by decide +kernel
theorem dX6_tellOut_14 : decode cX6_tellOut 14 = .ok (.getfield 9, 3) := by decide +kernel
theorem dX6_tellOut_17 : decode cX6_tellOut 17 = .ok (.iload 4, 2) := by decide +kernel
theorem dX6_tellOut_19 : decode cX6_tellOut 19 = .ok (.iaload, 1) := by decide +kernel
theorem dX6_tellOut_20 : decode cX6_tellOut 20 = .ok (.iload_n 1, 1) := by decide +kernel
theorem dX6_tellOut_21 : decode cX6_tellOut 21 = .ok (.if_icmp .ne 44, 3) := by decide +kernel
theorem dX6_tellOut_24 : decode cX6_tellOut 24 = .ok (.aload_n 0, 1) := by decide +kernel
theorem dX6_tellOut_25 : decode cX6_tellOut 25 = .ok (.getfield 19, 3) := by decide +kernel
theorem dX6_tellOut_28 : decode cX6_tellOut 28 = .ok (.iload 4, 2) := by decide +kernel
theorem dX6_tellOut_30 : decode cX6_tellOut 30 = .ok (.iaload, 1) := by decide +kernel
theorem dX6_tellOut_31 : decode cX6_tellOut 31 = .ok (.iload_n 3, 1) := by decide +kernel
theorem dX6_tellOut_32 : decode cX6_tellOut 32 = .ok (.if_icmp .gt 33, 3) := by decide +kernel
theorem dX6_tellOut_35 : decode cX6_tellOut 35 = .ok (.aload_n 0, 1) := by decide +kernel
theorem dX6_tellOut_36 : decode cX6_tellOut 36 = .ok (.getfield 13, 3) := by decide +kernel
theorem dX6_tellOut_39 : decode cX6_tellOut 39 = .ok (.iload 4, 2) := by decide +kernel
theorem dX6_tellOut_41 : decode cX6_tellOut 41 = .ok (.iaload, 1) := by decide +kernel
theorem dX6_tellOut_42 : decode cX6_tellOut 42 = .ok (.iload_n 2, 1) := by decide +kernel
theorem dX6_tellOut_43 : decode cX6_tellOut 43 = .ok (.if_icmp .gt 22, 3) := by decide +kernel
theorem dX6_tellOut_46 : decode cX6_tellOut 46 = .ok (.iload_n 2, 1) := by decide +kernel
theorem dX6_tellOut_47 : decode cX6_tellOut 47 = .ok (.aload_n 0, 1) := by decide +kernel
theorem dX6_tellOut_48 : decode cX6_tellOut 48 = .ok (.getfield 16, 3) := by decide +kernel
theorem dX6_tellOut_51 : decode cX6_tellOut 51 = .ok (.iload 4, 2) := by decide +kernel
theorem dX6_tellOut_53 : decode cX6_tellOut 53 = .ok (.iaload, 1) := by decide +kernel
theorem dX6_tellOut_54 : decode cX6_tellOut 54 = .ok (.if_icmp .gt 11, 3) := by decide +kernel
theorem dX6_tellOut_57 : decode cX6_tellOut 57 = .ok (.aload_n 0, 1) := by decide +kernel
theorem dX6_tellOut_58 : decode cX6_tellOut 58 = .ok (.getfield 22, 3) := by decide +kernel
theorem dX6_tellOut_61 : decode cX6_tellOut 61 = .ok (.iload 4, 2) := by decide +kernel
theorem dX6_tellOut_63 : decode cX6_tellOut 63 = .ok (.baload, 1) := by decide +kernel
theorem dX6_tellOut_64 : decode cX6_tellOut 64 = .ok (.ireturn, 1) := by decide +kernel
theorem dX6_tellOut_65 : decode cX6_tellOut 65 = .ok (.iinc 4 (-1), 3) := by decide +kernel
theorem dX6_tellOut_68 : decode cX6_tellOut 68 = .ok (.goto (-60), 3) := by decide +kernel
theorem dX6_tellOut_71 : decode cX6_tellOut 71 = .ok (.iconst 0, 1) := by decide +kernel
theorem dX6_tellOut_72 : decode cX6_tellOut 72 = .ok (.ireturn, 1) := by decide +kernel
theorem dJ6_bitCount_0f7a4_0 : decode cJ6_bitCount_0f7a4 0 = .ok (.iload_n 0, 1) := by decide +kernel
theorem dJ6_bitCount_0f7a4_1 : decode cJ6_bitCount_0f7a4 1 = .ok (.iload_n 0, 1) := by decide +kernel
theorem dJ6_bitCount_0f7a4_2 : decode cJ6_bitCount_0f7a4 2 = .ok (.iconst 1, 1) := by decide +kernel
theorem dJ6_bitCount_0f7a4_3 : decode cJ6_bitCount_0f7a4 3 = .ok (.iushr, 1) := by decide +kernel
theorem dJ6_bitCount_0f7a4_4 : decode cJ6_bitCount_0f7a4 4 = .ok (.ldc_w 265, 3) := by decide +kernel
theorem dJ6_bitCount_0f7a4_7 : decode cJ6_bitCount_0f7a4 7 = .ok (.iand, 1) := by decide +kernel
theorem dJ6_bitCount_0f7a4_8 : decode cJ6_bitCount_0f7a4 8 = .ok (.isub, 1) := by decide +kernel
theorem dJ6_bitCount_0f7a4_9 : decode cJ6_bitCount_0f7a4 9 = .ok (.istore_n 0, 1) := by decide +kernel
theorem dJ6_bitCount_0f7a4_10 : decode cJ6_bitCount_0f7a4 10 = .ok (.iload_n 0, 1) := by decide +kernel
theorem dJ6_bitCount_0f7a4_11 : decode cJ6_bitCount_0f7a4 11 = .ok (.ldc_w 266, 3) := by decide +kernel
theorem dJ6_bitCount_0f7a4_14 : decode cJ6_bitCount_0f7a4 14 = .ok (.iand, 1) := by decide +kernel
theorem dJ6_bitCount_0f7a4_15 : decode cJ6_bitCount_0f7a4 15 = .ok (.iload_n 0, 1) := by decide +kernel
theorem dJ6_bitCount_0f7a4_16 : decode cJ6_bitCount_0f7a4 16 = .ok (.iconst 2, 1) := by decide +kernel
theorem dJ6_bitCount_0f7a4_17 : decode cJ6_bitCount_0f7a4 17 = .ok (.iushr, 1) := by decide +kernel
theorem dJ6_bitCount_0f7a4_18 : decode cJ6_bitCount_0f7a4 18 = .ok (.ldc_w 266, 3) := by decide +kernel
theorem dJ6_bitCount_0f7a4_21 : decode cJ6_bitCount_0f7a4 21 = .ok (.iand, 1) := by decide +kernel
theorem dJ6_bitCount_0f7a4_22 : decode cJ6_bitCount_0f7a4 22 = .ok (.iadd, 1) := by decide +kernel
theorem dJ6_bitCount_0f7a4_23 : decode cJ6_bitCount_0f7a4 23 = .ok (.istore_n 0, 1) := by decide +kernel
theorem dJ6_bitCount_0f7a4_24 : decode cJ6_bitCount_0f7a4 24 = .ok (.iload_n 0, 1) := by decide +kernel
theorem dJ6_bitCount_0f7a4_25 : decode cJ6_bitCount_0f7a4 25 = .ok (.iload_n 0, 1) := by decide +kernel
theorem dJ6_bitCount_0f7a4_26 : decode cJ6_bitCount_0f7a4 26 = .ok (.iconst 4, 1) := by decide +kernel
theorem dJ6_bitCount_0f7a4_27 : decode cJ6_bitCount_0f7a4 27 = .ok (.iushr, 1) := by decide +kernel
theorem dJ6_bitCount_0f7a4_28 : decode cJ6_bitCount_0f7a4 28 = .ok (.iadd, 1) := by decide +kernel
theorem dJ6_bitCount_0f7a4_29 : decode cJ6_bitCount_0f7a4 29 = .ok (.ldc_w 267, 3) := by decide +kernel
theorem dJ6_bitCount_0f7a4_32 : decode cJ6_bitCount_0f7a4 32 = .ok (.iand, 1) := by decide +kernel
theorem dJ6_bitCount_0f7a4_33 : decode cJ6_bitCount_0f7a4 33 = .ok (.istore_n 0, 1) := by decide +kernel
theorem dJ6_bitCount_0f7a4_34 : decode cJ6_bitCount_0f7a4 34 = .ok (.iload_n 0, 1) := by decide +kernel
theorem dJ6_bitCount_0f7a4_35 : decode cJ6_bitCount_0f7a4 35 = .ok (.iload_n 0, 1) := by decide +kernel
theorem dJ6_bitCount_0f7a4_36 : decode cJ6_bitCount_0f7a4 36 = .ok (.bipush 8, 2) := by decide +kernel
theorem dJ6_bitCount_0f7a4_38 : decode cJ6_bitCount_0f7a4 38 = .ok (.iushr, 1) := by decide +kernel
theorem dJ6_bitCount_0f7a4_39 : decode cJ6_bitCount_0f7a4 39 = .ok (.iadd, 1) := by decide +kernel
theorem dJ6_bitCount_0f7a4_40 : decode cJ6_bitCount_0f7a4 40 = .ok (.istore_n 0, 1) := by decide +kernel
theorem dJ6_bitCount_0f7a4_41 : decode cJ6_bitCount_0f7a4 41 = .ok (.iload_n 0, 1) := by decide +kernel
theorem dJ6_bitCount_0f7a4_42 : decode cJ6_bitCount_0f7a4 42 = .ok (.iload_n 0, 1) := by decide +kernel
theorem dJ6_bitCount_0f7a4_43 : decode cJ6_bitCount_0f7a4 43 = .ok (.bipush 16, 2) := by decide +kernel
theorem dJ6_bitCount_0f7a4_45 : decode cJ6_bitCount_0f7a4 45 = .ok (.iushr, 1) := by decide +kernel
theorem dJ6_bitCount_0f7a4_46 : decode cJ6_bitCount_0f7a4 46 = .ok (.iadd, 1) := by decide +kernel
theorem dJ6_bitCount_0f7a4_47 : decode cJ6_bitCount_0f7a4 47 = .ok (.istore_n 0, 1) := by decide +kernel
theorem dJ6_bitCount_0f7a4_48 : decode cJ6_bitCount_0f7a4 48 = .ok (.iload_n 0, 1) := by decide +kernel
theorem dJ6_bitCount_0f7a4_49 : decode cJ6_bitCount_0f7a4 49 = .ok (.bipush 63, 2) := by decide +kernel
theorem dJ6_bitCount_0f7a4_51 : decode cJ6_bitCount_0f7a4 51 = .ok (.iand, 1) := by decide +kernel
theorem dJ6_bitCount_0f7a4_52 : decode cJ6_bitCount_0f7a4 52 = .ok (.ireturn, 1) := by decide +kernel
theorem dJ13_bitCount_95d88_0 : decode cJ13_bitCount_95d88 0 = .ok (.lload_n 0, 1) := by decide +kernel
theorem dJ13_bitCount_95d88_1 : decode cJ13_bitCount_95d88 1 = .ok (.lload_n 0, 1) := by decide +kernel
theorem dJ13_bitCount_95d88_2 : decode cJ13_bitCount_95d88 2 = .ok (.iconst 1, 1) := by decide +kernel
theorem dJ13_bitCount_95d88_3 : decode cJ13_bitCount_95d88 3 = .ok (.lushr, 1) := by decide +kernel
theorem dJ13_bitCount_95d88_4 : decode cJ13_bitCount_95d88 4 = .ok (.ldc2_w 314, 3) := by decide +kernel
theorem dJ13_bitCount_95d88_7 : decode cJ13_bitCount_95d88 7 = .ok (.land, 1) := by decide +kernel
theorem dJ13_bitCount_95d88_8 : decode cJ13_bitCount_95d88 8 = .ok (.lsub, 1) := by decide +kernel
theorem dJ13_bitCount_95d88_9 : decode cJ13_bitCount_95d88 9 = .ok (.lstore_n 0, 1) := by decide +kernel
theorem dJ13_bitCount_95d88_10 : decode cJ13_bitCount_95d88 10 = .ok (.lload_n 0, 1) := by decide +kernel
theorem dJ13_bitCount_95d88_11 : decode cJ13_bitCount_95d88 11 = .ok (.ldc2_w 316, 3) := by decide +kernel
theorem dJ13_bitCount_95d88_14 : decode cJ13_bitCount_95d88 14 = .ok (.land, 1) := by decide +kernel
theorem dJ13_bitCount_95d88_15 : decode cJ13_bitCount_95d88 15 = .ok (.lload_n 0, 1) := by decide +kernel
theorem dJ13_bitCount_95d88_16 : decode cJ13_bitCount_95d88 16 = .ok (.iconst 2, 1) := by decide +kernel
theorem dJ13_bitCount_95d88_17 : decode cJ13_bitCount_95d88 17 = .ok (.lushr, 1) := by decide +kernel
theorem dJ13_bitCount_95d88_18 : decode cJ13_bitCount_95d88 18 = .ok (.ldc2_w 316, 3) := by decide +kernel
theorem dJ13_bitCount_95d88_21 : decode cJ13_bitCount_95d88 21 = .ok (.land, 1) := by decide +kernel
theorem dJ13_bitCount_95d88_22 : decode cJ13_bitCount_95d88 22 = .ok (.ladd, 1) := by decide +kernel
theorem dJ13_bitCount_95d88_23 : decode cJ13_bitCount_95d88 23 = .ok (.lstore_n 0, 1) := by decide +kernel
theorem dJ13_bitCount_95d88_24 : decode cJ13_bitCount_95d88 24 = .ok (.lload_n 0, 1) := by decide +kernel
theorem dJ13_bitCount_95d88_25 : decode cJ13_bitCount_95d88 25 = .ok (.lload_n 0, 1) := by decide +kernel
theorem dJ13_bitCount_95d88_26 : decode cJ13_bitCount_95d88 26 = .ok (.iconst 4, 1) := by decide +kernel
theorem dJ13_bitCount_95d88_27 : decode cJ13_bitCount_95d88 27 = .ok (.lushr, 1) := by decide +kernel
theorem dJ13_bitCount_95d88_28 : decode cJ13_bitCount_95d88 28 = .ok (.ladd, 1) := by decide +kernel
theorem dJ13_bitCount_95d88_29 : decode cJ13_bitCount_95d88 29 = .ok (.ldc2_w 318, 3) := by decide +kernel
theorem dJ13_bitCount_95d88_32 : decode cJ13_bitCount_95d88 32 = .ok (.land, 1) := by decide +kernel
theorem dJ13_bitCount_95d88_33 : decode cJ13_bitCount_95d88 33 = .ok (.lstore_n 0, 1) := by decide +kernel
theorem dJ13_bitCount_95d88_34 : decode cJ13_bitCount_95d88 34 = .ok (.lload_n 0, 1) := by decide +kernel
theorem dJ13_bitCount_95d88_35 : decode cJ13_bitCount_95d88 35 = .ok (.lload_n 0, 1) := by decide +kernel
theorem dJ13_bitCount_95d88_36 : decode cJ13_bitCount_95d88 36 = .ok (.bipush 8, 2) := by decide +kernel
theorem dJ13_bitCount_95d88_38 : decode cJ13_bitCount_95d88 38 = .ok (.lushr, 1) := by decide +kernel
theorem dJ13_bitCount_95d88_39 : decode cJ13_bitCount_95d88 39 = .ok (.ladd, 1) := by decide +kernel
theorem dJ13_bitCount_95d88_40 : decode cJ13_bitCount_95d88 40 = .ok (.lstore_n 0, 1) := by decide +kernel
theorem dJ13_bitCount_95d88_41 : decode cJ13_bitCount_95d88 41 = .ok (.lload_n 0, 1) := by decide +kernel
theorem dJ13_bitCount_95d88_42 : decode cJ13_bitCount_95d88 42 = .ok (.lload_n 0, 1) := by decide +kernel
theorem dJ13_bitCount_95d88_43 : decode cJ13_bitCount_95d88 43 = .ok (.bipush 16, 2) := by decide +kernel
theorem dJ13_bitCount_95d88_45 : decode cJ13_bitCount_95d88 45 = .ok (.lushr, 1) := by decide +kernel
theorem dJ13_bitCount_95d88_46 : decode cJ13_bitCount_95d88 46 = .ok (.ladd, 1) := by decide +kernel
theorem dJ13_bitCount_95d88_47 : decode cJ13_bitCount_95d88 47 = .ok (.lstore_n 0, 1) := by decide +kernel
theorem dJ13_bitCount_95d88_48 : decode cJ13_bitCount_95d88 48 = .ok (.lload_n 0, 1) := by decide +kernel
theorem dJ13_bitCount_95d88_49 : decode cJ13_bitCount_95d88 49 = .ok (.lload_n 0, 1) := by decide +kernel
theorem dJ13_bitCount_95d88_50 : decode cJ13_bitCount_95d88 50 = .ok (.bipush 32, 2) := by decide +kernel
theorem dJ13_bitCount_95d88_52 : decode cJ13_bitCount_95d88 52 = .ok (.lushr, 1) := by decide +kernel
theorem dJ13_bitCount_95d88_53 : decode cJ13_bitCount_95d88 53 = .ok (.ladd, 1) := by decide +kernel
theorem dJ13_bitCount_95d88_54 : decode cJ13_bitCount_95d88 54 = .ok (.lstore_n 0, 1) := by decide +kernel
theorem dJ13_bitCount_95d88_55 : decode cJ13_bitCount_95d88 55 = .ok (.lload_n 0, 1) := by decide +kernel
theorem dJ13_bitCount_95d88_56 : decode cJ13_bitCount_95d88 56 = .ok (.l2i, 1) := by decide +kernel
theorem dJ13_bitCount_95d88_57 : decode cJ13_bitCount_95d88 57 = .ok (.bipush 127, 2) := by decide +kernel
theorem dJ13_bitCount_95d88_59 : decode cJ13_bitCount_95d88 59 = .ok (.iand, 1) := by decide +kernel
theorem dJ13_bitCount_95d88_60 : decode cJ13_bitCount_95d88 60 = .ok (.ireturn, 1) := by decide +kernel
theorem dJ9_max_7cf53_0 : decode cJ9_max_7cf53 0 = .ok (.iload_n 0, 1) := by decide +kernel
theorem dJ9_max_7cf53_1 : decode cJ9_max_7cf53 1 = .ok (.iload_n 1, 1) := by decide +kernel
theorem dJ9_max_7cf53_2 : decode cJ9_max_7cf53 2 = .ok (.if_icmp .lt 7, 3) := by decide +kernel
theorem dJ9_max_7cf53_5 : decode cJ9_max_7cf53 5 = .ok (.iload_n 0, 1) := by decide +kernel
theorem dJ9_max_7cf53_6 : decode cJ9_max_7cf53 6 = .ok (.goto 4, 3) := by decide +kernel
theorem dJ9_max_7cf53_9 : decode cJ9_max_7cf53 9 = .ok (.iload_n 1, 1) := by decide +kernel
theorem dJ9_max_7cf53_10 : decode cJ9_max_7cf53 10 = .ok (.ireturn, 1) := by decide +kernel
theorem dJ9_min_7cf53_0 : decode cJ9_min_7cf53 0 = .ok (.iload_n 0, 1) := by decide +kernel
theorem dJ9_min_7cf53_1 : decode cJ9_min_7cf53 1 = .ok (.iload_n 1, 1) := by decide +kernel
theorem dJ9_min_7cf53_2 : decode cJ9_min_7cf53 2 = .ok (.if_icmp .gt 7, 3) := by decide +kernel
theorem dJ9_min_7cf53_5 : decode cJ9_min_7cf53 5 = .ok (.iload_n 0, 1) := by decide +kernel
theorem dJ9_min_7cf53_6 : decode cJ9_min_7cf53 6 = .ok (.goto 4, 3) := by decide +kernel
theorem dJ9_min_7cf53_9 : decode cJ9_min_7cf53 9 = .ok (.iload_n 1, 1) := by decide +kernel
theorem dJ9_min_7cf53_10 : decode cJ9_min_7cf53 10 = .ok (.ireturn, 1) := by decide +kernel
end
section
theorem dX7_init_0 : decode cX7_init 0 = .ok (.aload_n 0, 1) := by decide +kernel
theorem dX7_init_1 : decode cX7_init 1 = .ok (.invokespecial 1, 3) := by decide +kernel
theorem dX7_init_4 : decode cX7_init 4 = .ok (.aload_n 0, 1) := by decide +kernel
theorem dX7_init_5 : decode cX7_init 5 = .ok (.new 7, 3) := by decide +kernel
theorem dX7_init_8 : decode cX7_init 8 = .ok (.dup, 1) := by decide +kernel
theorem dX7_init_9 : decode cX7_init 9 = .ok (.invokespecial 9, 3) := by decide +kernel
theorem dX7_init_12 : decode cX7_init 12 = .ok (.putfield 10, 3) := by decide +kernel
theorem dX7_init_15 : decode cX7_init 15 = .ok (.aload_n 0, 1) := by decide +kernel
theorem dX7_init_16 : decode cX7_init 16 = .ok (.bipush 10, 2) := by decide +kernel
theorem dX7_init_18 : decode cX7_init 18 = .ok (.anewarray 16, 3) := by decide +kernel
theorem dX7_init_21 : decode cX7_init 21 = .ok (.putfield 18, 3) := by decide +kernel
theorem dX7_init_24 : decode cX7_init 24 = .ok (.aload_n 0, 1) := by decide +kernel
theorem dX7_init_25 : decode cX7_init 25 = .ok (.bipush 8, 2) := by decide +kernel
theorem dX7_init_27 : decode cX7_init 27 = .ok (.newarray .int, 2) := by decide +kernel
theorem dX7_init_29 : decode cX7_init 29 = .ok (.putfield 22, 3) := by decide +kernel
theorem dX7_init_32 : decode cX7_init 32 = .ok (.aload_n 0, 1) := by decide +kernel
theorem dX7_init_33 : decode cX7_init 33 = .ok (.bipush 12, 2) := by decide +kernel
theorem dX7_init_35 : decode cX7_init 35 = .ok (.newarray .int, 2) := by decide +kernel
theorem dX7_init_37 : decode cX7_init 37 = .ok (.putfield 26, 3) := by decide +kernel
theorem dX7_init_40 : decode cX7_init 40 = .ok (.aload_n 0, 1) := by decide +kernel
theorem dX7_init_41 : decode cX7_init 41 = .ok (.bipush 12, 2) := by decide +kernel
theorem dX7_init_43 : decode cX7_init 43 = .ok (.newarray .int, 2) := by decide +kernel
theorem dX7_init_45 : decode cX7_init 45 = .ok (.putfield 29, 3) := by decide +kernel
theorem dX7_init_48 : decode cX7_init 48 = .ok (.aload_n 0, 1) := by decide +kernel
theorem dX7_init_49 : decode cX7_init 49 = .ok (.new 32, 3) := by decide +kernel
theorem dX7_init_52 : decode cX7_init 52 = .ok (.dup, 1) := by decide +kernel
theorem dX7_init_53 : decode cX7_init 53 = .ok (.invokespecial 34, 3) := by decide +kernel
theorem dX7_init_56 : decode cX7_init 56 = .ok (.putfield 35, 3) := by decide +kernel
theorem dX7_init_59 : decode cX7_init 59 = .ok (.aload_n 0, 1) := by decide +kernel
theorem dX7_init_60 : decode cX7_init 60 = .ok (.bipush 20, 2) := by decide +kernel
theorem dX7_init_62 : decode cX7_init 62 = .ok (.newarray .int, 2) := by decide +kernel
theorem dX7_init_64 : decode cX7_init 64 = .ok (.putfield 39, 3) := by decide +kernel
theorem dX7_init_67 : decode cX7_init 67 = .ok (.aload_n 0, 1) := by decide +kernel
theorem dX7_init_68 : decode cX7_init 68 = .ok (.new 42, 3) := by decide +kernel
theorem dX7_init_71 : decode cX7_init 71 = .ok (.dup, 1) := by decide +kernel
theorem dX7_init_72 : decode cX7_init 72 = .ok (.invokespecial 44, 3) := by decide +kernel
theorem dX7_init_75 : decode cX7_init 75 = .ok (.putfield 45, 3) := by decide +kernel
theorem dX7_init_78 : decode cX7_init 78 = .ok (.aload_n 0, 1) := by decide +kernel
theorem dX7_init_79 : decode cX7_init 79 = .ok (.sipush 256, 3) := by decide +kernel
theorem dX7_init_82 : decode cX7_init 82 = .ok (.newarray .boolean, 2) := by decide +kernel
theorem dX7_init_84 : decode cX7_init 84 = .ok (.putfield 49, 3) := by decide +kernel
theorem dX7_init_87 : decode cX7_init 87 = .ok (.aload_n 0, 1) := by decide +kernel
theorem dX7_init_88 : decode cX7_init 88 = .ok (.iconst 4, 1) := by decide +kernel
theorem dX7_init_89 : decode cX7_init 89 = .ok (.anewarray 53, 3) := by decide +kernel
theorem dX7_init_92 : decode cX7_init 92 = .ok (.putfield 55, 3) := by decide +kernel
theorem dX7_init_95 : decode cX7_init 95 = .ok (.aload_n 0, 1) := by decide +kernel
theorem dX7_init_96 : decode cX7_init 96 = .ok (.new 59, 3) := by decide +kernel
theorem dX7_init_99 : decode cX7_init 99 = .ok (.dup, 1) := by decide +kernel
theorem dX7_init_100 : decode cX7_init 100 = .ok (.invokespecial 61, 3) := by decide +kernel
theorem dX7_init_103 : decode cX7_init 103 = .ok (.putfield 62, 3) := by decide +kernel
theorem dX7_init_106 : decode cX7_init 106 = .ok (.iconst 0, 1) := by decide +kernel
theorem dX7_init_107 : decode cX7_init 107 = .ok (.istore_n 1, 1) := by decide +kernel
theorem dX7_init_108 : decode cX7_init 108 = .ok (.iload_n 1, 1) := by decide +kernel
theorem dX7_init_109 : decode cX7_init 109 = .ok (.bipush 10, 2) := by decide +kernel
theorem dX7_init_111 : decode cX7_init 111 = .ok (.if_icmp .ge 22, 3) := by decide +kernel
theorem dX7_init_114 : decode cX7_init 114 = .ok (.aload_n 0, 1) := by decide +kernel
theorem dX7_init_115 : decode cX7_init 115 = .ok (.getfield 18, 3) := by decide +kernel
theorem dX7_init_118 : decode cX7_init 118 = .ok (.iload_n 1, 1) := by decide +kernel
theorem dX7_init_119 : decode cX7_init 119 = .ok (.new 16, 3) := by decide +kernel
theorem dX7_init_122 : decode cX7_init 122 = .ok (.dup, 1) := by decide +kernel
theorem dX7_init_123 : decode cX7_init 123 = .ok (.invokespecial 66, 3) := by decide +kernel
theorem dX7_init_126 : decode cX7_init 126 = .ok (.aastore, 1) := by decide +kernel
theorem dX7_init_127 : decode cX7_init 127 = .ok (.iinc 1 1, 3) := by decide +kernel
theorem dX7_init_130 : decode cX7_init 130 = .ok (.goto (-22), 3) := by decide +kernel
theorem dX7_init_133 : decode cX7_init 133 = .ok (.iconst 0, 1) := by decide +kernel
theorem dX7_init_134 : decode cX7_init 134 = .ok (.istore_n 1, 1) := by decide +kernel
theorem dX7_init_135 : decode cX7_init 135 = .ok (.iload_n 1, 1) := by decide +kernel
theorem dX7_init_136 : decode cX7_init 136 = .ok (.iconst 4, 1) := by decide +kernel
theorem dX7_init_137 : decode cX7_init 137 = .ok (.if_icmp .ge 22, 3) := by decide +kernel
theorem dX7_init_140 : decode cX7_init 140 = .ok (.aload_n 0, 1) := by decide +kernel
theorem dX7_init_141 : decode cX7_init 141 = .ok (.getfield 55, 3) := by decide +kernel
theorem dX7_init_144 : decode cX7_init 144 = .ok (.iload_n 1, 1) := by decide +kernel
theorem dX7_init_145 : decode cX7_init 145 = .ok (.new 53, 3) := by decide +kernel
theorem dX7_init_148 : decode cX7_init 148 = .ok (.dup, 1) := by decide +kernel
theorem dX7_init_149 : decode cX7_init 149 = .ok (.invokespecial 67, 3) := by decide +kernel
theorem dX7_init_152 : decode cX7_init 152 = .ok (.aastore, 1) := by decide +kernel
theorem dX7_init_153 : decode cX7_init 153 = .ok (.iinc 1 1, 3) := by decide +kernel
theorem dX7_init_156 : decode cX7_init 156 = .ok (.goto (-21), 3) := by decide +kernel
theorem dX7_init_159 : decode cX7_init 159 = .ok (.return_, 1) := by decide +kernel
theorem dX7_feed_0 : decode cX7_feed 0 = .ok (.iload_n 1, 1) := by decide +kernel
theorem dX7_feed_1 : decode cX7_feed 1 = .ok (.iconst 1, 1) := by decide +kernel
theorem dX7_feed_2 : decode cX7_feed 2 = .ok (.if_icmp .lt 9, 3) := by decide +kernel
theorem dX7_feed_5 : decode cX7_feed 5 = .ok (.iload_n 1, 1) := by decide +kernel
theorem dX7_feed_6 : decode cX7_feed 6 = .ok (.bipush 8, 2) := by decide +kernel
theorem dX7_feed_8 : decode cX7_feed 8 = .ok (.if_icmp .le 10, 3) := by decide +kernel
theorem dX7_feed_11 : decode cX7_feed 11 = .ok (.aload_n 0, 1) := by decide +kernel
theorem dX7_feed_12 : decode cX7_feed 12 = .ok (.ldc 68, 2) := by decide +kernel
theorem dX7_feed_14 : decode cX7_feed 14 = .ok (.invokevirtual 69, 3) := by decide +kernel
theorem dX7_feed_17 : decode cX7_feed 17 = .ok (.ireturn, 1) := by decide +kernel
theorem dX7_feed_18 : decode cX7_feed 18 = .ok (.aload_n 0, 1) := by decide +kernel
theorem dX7_feed_19 : decode cX7_feed 19 = .ok (.getfield 10, 3) := by decide +kernel
theorem dX7_feed_22 : decode cX7_feed 22 = .ok (.getfield 73, 3) := by decide +kernel
theorem dX7_feed_25 : decode cX7_feed 25 = .ok (.iload_n 1, 1) := by decide +kernel
theorem dX7_feed_26 : decode cX7_feed 26 = .ok (.iadd, 1) := by decide +kernel
theorem dX7_feed_27 : decode cX7_feed 27 = .ok (.bipush 40, 2) := by decide +kernel
theorem dX7_feed_29 : decode cX7_feed 29 = .ok (.if_icmp .le 10, 3) := by decide +kernel
theorem dX7_feed_32 : decode cX7_feed 32 = .ok (.aload_n 0, 1) := by decide +kernel
theorem dX7_feed_33 : decode cX7_feed 33 = .ok (.ldc 77, 2) := by decide +kernel
theorem dX7_feed_35 : decode cX7_feed 35 = .ok (.invokevirtual 69, 3) := by decide +kernel
theorem dX7_feed_38 : decode cX7_feed 38 = .ok (.ireturn, 1) := by decide +kernel
theorem dX7_feed_39 : decode cX7_feed 39 = .ok (.aload_n 0, 1) := by decide +kernel
theorem dX7_feed_40 : decode cX7_feed 40 = .ok (.getfield 10, 3) := by decide +kernel
theorem dX7_feed_43 : decode cX7_feed 43 = .ok (.iload_n 1, 1) := by decide +kernel
theorem dX7_feed_44 : decode cX7_feed 44 = .ok (.lload_n 2, 1) := by decide +kernel
theorem dX7_feed_45 : decode cX7_feed 45 = .ok (.invokevirtual 78, 3) := by decide +kernel
theorem dX7_feed_48 : decode cX7_feed 48 = .ok (.aload_n 0, 1) := by decide +kernel
theorem dX7_feed_49 : decode cX7_feed 49 = .ok (.getfield 10, 3) := by decide +kernel
theorem dX7_feed_52 : decode cX7_feed 52 = .ok (.getfield 73, 3) := by decide +kernel
theorem dX7_feed_55 : decode cX7_feed 55 = .ok (.ireturn, 1) := by decide +kernel
theorem dX7_light_0 : decode cX7_light 0 = .ok (.iload_n 1, 1) := by decide +kernel
theorem dX7_light_1 : decode cX7_light 1 = .ok (.invokestatic 82, 3) := by decide +kernel
theorem dX7_light_4 : decode cX7_light 4 = .ok (.ifCond .eq 21, 3) := by decide +kernel
theorem dX7_light_7 : decode cX7_light 7 = .ok (.iload_n 2, 1) := by decide +kernel
theorem dX7_light_8 : decode cX7_light 8 = .ok (.invokestatic 86, 3) := by decide +kernel
theorem dX7_light_11 : decode cX7_light 11 = .ok (.ifCond .eq 14, 3) := by decide +kernel
theorem dX7_light_14 : decode cX7_light 14 = .ok (.iload_n 3, 1) := by decide +kernel
theorem dX7_light_15 : decode cX7_light 15 = .ok (.iconst 1, 1) := by decide +kernel
theorem dX7_light_16 : decode cX7_light 16 = .ok (.if_icmp .lt 9, 3) := by decide +kernel
theorem dX7_light_19 : decode cX7_light 19 = .ok (.iload_n 3, 1) := by decide +kernel
theorem dX7_light_20 : decode cX7_light 20 = .ok (.bipush 15, 2) := by decide +kernel
theorem dX7_light_22 : decode cX7_light 22 = .ok (.if_icmp .le 10, 3) := by decide +kernel
theorem dX7_light_25 : decode cX7_light 25 = .ok (.aload_n 0, 1) := by decide +kernel
theorem dX7_light_26 : decode cX7_light 26 = .ok (.ldc 68, 2) := by decide +kernel
theorem dX7_light_28 : decode cX7_light 28 = .ok (.invokevirtual 69, 3) := by decide +kernel
theorem dX7_light_31 : decode cX7_light 31 = .ok (.ireturn, 1) := by decide +kernel
theorem dX7_light_32 : decode cX7_light 32 = .ok (.aload_n 0, 1) := by decide +kernel
theorem dX7_light_33 : decode cX7_light 33 = .ok (.getfield 89, 3) := by decide +kernel
theorem dX7_light_36 : decode cX7_light 36 = .ok (.bipush 10, 2) := by decide +kernel
theorem dX7_light_38 : decode cX7_light 38 = .ok (.if_icmp .lt 10, 3) := by decide +kernel
theorem dX7_light_41 : decode cX7_light 41 = .ok (.aload_n 0, 1) := by decide +kernel
theorem dX7_light_42 : decode cX7_light 42 = .ok (.ldc 77, 2) := by decide +kernel
theorem dX7_light_44 : decode cX7_light 44 = .ok (.invokevirtual 69, 3) := by decide +kernel
theorem dX7_light_47 : decode cX7_light 47 = .ok (.ireturn, 1) := by decide +kernel
theorem dX7_light_48 : decode cX7_light 48 = .ok (.aload_n 0, 1) := by decide +kernel
theorem dX7_light_49 : decode cX7_light 49 = .ok (.getfield 10, 3) := by decide +kernel
theorem dX7_light_52 : decode cX7_light 52 = .ok (.invokevirtual 92, 3) := by decide +kernel
theorem dX7_light_55 : decode cX7_light 55 = .ok (.istore 4, 2) := by decide +kernel
theorem dX7_light_57 : decode cX7_light 57 = .ok (.aload_n 0, 1) := by decide +kernel
theorem dX7_light_58 : decode cX7_light 58 = .ok (.getfield 10, 3) := by decide +kernel
theorem dX7_light_61 : decode cX7_light 61 = .ok (.iconst 0, 1) := by decide +kernel
theorem dX7_light_62 : decode cX7_light 62 = .ok (.putfield 73, 3) := by decide +kernel
theorem dX7_light_65 : decode cX7_light 65 = .ok (.iload 4, 2) := by decide +kernel
theorem dX7_light_67 : decode cX7_light 67 = .ok (.ifCond .lt 8, 3) := by decide +kernel
theorem dX7_light_70 : decode cX7_light 70 = .ok (.iconst (-1), 1) := by decide +kernel
theorem dX7_light_71 : decode cX7_light 71 = .ok (.iload 4, 2) := by decide +kernel
theorem dX7_light_73 : decode cX7_light 73 = .ok (.isub, 1) := by decide +kernel
theorem dX7_light_74 : decode cX7_light 74 = .ok (.ireturn, 1) := by decide +kernel
theorem dX7_light_75 : decode cX7_light 75 = .ok (.aload_n 0, 1) := by decide +kernel
theorem dX7_light_76 : decode cX7_light 76 = .ok (.iconst 0, 1) := by decide +kernel
theorem dX7_light_77 : decode cX7_light 77 = .ok (.aload_n 0, 1) := by decide +kernel
theorem dX7_light_78 : decode cX7_light 78 = .ok (.getfield 89, 3) := by decide +kernel
theorem dX7_light_81 : decode cX7_light 81 = .ok (.iconst 0, 1) := by decide +kernel
theorem dX7_light_82 : decode cX7_light 82 = .ok (.invokevirtual 96, 3) := by decide +kernel
theorem dX7_light_85 : decode cX7_light 85 = .ok (.pop, 1) := by decide +kernel
theorem dX7_light_86 : decode cX7_light 86 = .ok (.aload_n 0, 1) := by decide +kernel
theorem dX7_light_87 : decode cX7_light 87 = .ok (.getfield 18, 3) := by decide +kernel
theorem dX7_light_90 : decode cX7_light 90 = .ok (.aload_n 0, 1) := by decide +kernel
theorem dX7_light_91 : decode cX7_light 91 = .ok (.getfield 89, 3) := by decide +kernel
theorem dX7_light_94 : decode cX7_light 94 = .ok (.aaload, 1) := by decide +kernel
theorem dX7_light_95 : decode cX7_light 95 = .ok (.iload_n 1, 1) := by decide +kernel
theorem dX7_light_96 : decode cX7_light 96 = .ok (.iload_n 2, 1) := by decide +kernel
theorem dX7_light_97 : decode cX7_light 97 = .ok (.iload_n 3, 1) := by decide +kernel
theorem dX7_light_98 : decode cX7_light 98 = .ok (.invokevirtual 100, 3) := by decide +kernel
theorem dX7_light_101 : decode cX7_light 101 = .ok (.aload_n 0, 1) := by decide +kernel
theorem dX7_light_102 : decode cX7_light 102 = .ok (.getfield 18, 3) := by decide +kernel
theorem dX7_light_105 : decode cX7_light 105 = .ok (.aload_n 0, 1) := by decide +kernel
theorem dX7_light_106 : decode cX7_light 106 = .ok (.getfield 89, 3) := by decide +kernel
theorem dX7_light_109 : decode cX7_light 109 = .ok (.aaload, 1) := by decide +kernel
theorem dX7_light_110 : decode cX7_light 110 = .ok (.aload_n 0, 1) := by decide +kernel
theorem dX7_light_111 : decode cX7_light 111 = .ok (.getfield 10, 3) := by decide +kernel
theorem dX7_light_114 : decode cX7_light 114 = .ok (.invokevirtual 104, 3) := by decide +kernel
theorem dX7_light_117 : decode cX7_light 117 = .ok (.aload_n 0, 1) := by decide +kernel
theorem dX7_light_118 : decode cX7_light 118 = .ok (.dup, 1) := by decide +kernel
theorem dX7_light_119 : decode cX7_light 119 = .ok (.getfield 89, 3) := by decide +kernel
theorem dX7_light_122 : decode cX7_light 122 = .ok (.iconst 1, 1) := by decide +kernel
theorem dX7_light_123 : decode cX7_light 123 = .ok (.iadd, 1) := by decide +kernel
theorem dX7_light_124 : decode cX7_light 124 = .ok (.putfield 89, 3) := by decide +kernel
theorem dX7_light_127 : decode cX7_light 127 = .ok (.aload_n 0, 1) := by decide +kernel
theorem dX7_light_128 : decode cX7_light 128 = .ok (.getfield 89, 3) := by decide +kernel
theorem dX7_light_131 : decode cX7_light 131 = .ok (.iconst 1, 1) := by decide +kernel
theorem dX7_light_132 : decode cX7_light 132 = .ok (.isub, 1) := by decide +kernel
theorem dX7_light_133 : decode cX7_light 133 = .ok (.ireturn, 1) := by decide +kernel
theorem dX7_as_0 : decode cX7_as 0 = .ok (.aload_n 0, 1) := by decide +kernel
theorem dX7_as_1 : decode cX7_as 1 = .ok (.iload_n 1, 1) := by decide +kernel
theorem dX7_as_2 : decode cX7_as 2 = .ok (.invokevirtual 108, 3) := by decide +kernel
theorem dX7_as_5 : decode cX7_as 5 = .ok (.ifCond .eq 10, 3) := by decide +kernel
theorem dX7_as_8 : decode cX7_as 8 = .ok (.iload_n 2, 1) := by decide +kernel
theorem dX7_as_9 : decode cX7_as 9 = .ok (.invokestatic 82, 3) := by decide +kernel
theorem dX7_as_12 : decode cX7_as 12 = .ok (.ifCond .ne 10, 3) := by decide +kernel
theorem dX7_as_15 : decode cX7_as 15 = .ok (.aload_n 0, 1) := by decide +kernel
theorem dX7_as_16 : decode cX7_as 16 = .ok (.ldc 68, 2) := by decide +kernel
theorem dX7_as_18 : decode cX7_as 18 = .ok (.invokevirtual 69, 3) := by decide +kernel
theorem dX7_as_21 : decode cX7_as 21 = .ok (.ireturn, 1) := by decide +kernel
theorem dX7_as_22 : decode cX7_as 22 = .ok (.aload_n 0, 1) := by decide +kernel
theorem dX7_as_23 : decode cX7_as 23 = .ok (.getfield 18, 3) := by decide +kernel
theorem dX7_as_26 : decode cX7_as 26 = .ok (.iload_n 1, 1) := by decide +kernel
theorem dX7_as_27 : decode cX7_as 27 = .ok (.aaload, 1) := by decide +kernel
theorem dX7_as_28 : decode cX7_as 28 = .ok (.getfield 111, 3) := by decide +kernel
theorem dX7_as_31 : decode cX7_as 31 = .ok (.iload_n 2, 1) := by decide +kernel
theorem dX7_as_32 : decode cX7_as 32 = .ok (.invokestatic 114, 3) := by decide +kernel
theorem dX7_as_35 : decode cX7_as 35 = .ok (.ifCond .eq 7, 3) := by decide +kernel
theorem dX7_as_38 : decode cX7_as 38 = .ok (.iload_n 1, 1) := by decide +kernel
theorem dX7_as_39 : decode cX7_as 39 = .ok (.goto 9, 3) := by decide +kernel
theorem dX7_as_42 : decode cX7_as 42 = .ok (.aload_n 0, 1) := by decide +kernel
theorem dX7_as_43 : decode cX7_as 43 = .ok (.ldc 118, 2) := by decide +kernel
theorem dX7_as_45 : decode cX7_as 45 = .ok (.invokevirtual 69, 3) := by decide +kernel
theorem dX7_as_48 : decode cX7_as 48 = .ok (.ireturn, 1) := by decide +kernel
theorem dX7_lightIs_0 : decode cX7_lightIs 0 = .ok (.aload_n 0, 1) := by decide +kernel
theorem dX7_lightIs_1 : decode cX7_lightIs 1 = .ok (.iload_n 1, 1) := by decide +kernel
theorem dX7_lightIs_2 : decode cX7_lightIs 2 = .ok (.invokevirtual 108, 3) := by decide +kernel
theorem dX7_lightIs_5 : decode cX7_lightIs 5 = .ok (.ifCond .ne 10, 3) := by decide +kernel
theorem dX7_lightIs_8 : decode cX7_lightIs 8 = .ok (.aload_n 0, 1) := by decide +kernel
theorem dX7_lightIs_9 : decode cX7_lightIs 9 = .ok (.ldc 68, 2) := by decide +kernel
theorem dX7_lightIs_11 : decode cX7_lightIs 11 = .ok (.invokevirtual 69, 3) := by decide +kernel
theorem dX7_lightIs_14 : decode cX7_lightIs 14 = .ok (.ireturn, 1) := by decide +kernel
theorem dX7_lightIs_15 : decode cX7_lightIs 15 = .ok (.aload_n 0, 1) := by decide +kernel
theorem dX7_lightIs_16 : decode cX7_lightIs 16 = .ok (.getfield 18, 3) := by decide +kernel
theorem dX7_lightIs_19 : decode cX7_lightIs 19 = .ok (.iload_n 1, 1) := by decide +kernel
theorem dX7_lightIs_20 : decode cX7_lightIs 20 = .ok (.aaload, 1) := by decide +kernel
theorem dX7_lightIs_21 : decode cX7_lightIs 21 = .ok (.astore_n 3, 1) := by decide +kernel
theorem dX7_lightIs_22 : decode cX7_lightIs 22 = .ok (.iload_n 2, 1) := by decide +kernel
theorem dX7_lightIs_23 : decode cX7_lightIs 23 = .ok (.tableswitch 88 0 7 #[45, 50, 55, 60, 65, 70, 78, 83], 45) := by decide +kernel
theorem dX7_lightIs_68 : decode cX7_lightIs 68 = .ok (.aload_n 3, 1) := by decide +kernel
theorem dX7_lightIs_69 : decode cX7_lightIs 69 = .ok (.getfield 111, 3) := by decide +kernel
theorem dX7_lightIs_72 : decode cX7_lightIs 72 = .ok (.ireturn, 1) := by decide +kernel
theorem dX7_lightIs_73 : decode cX7_lightIs 73 = .ok (.aload_n 3, 1) := by decide +kernel
theorem dX7_lightIs_74 : decode cX7_lightIs 74 = .ok (.getfield 119, 3) := by decide +kernel
theorem dX7_lightIs_77 : decode cX7_lightIs 77 = .ok (.ireturn, 1) := by decide +kernel
theorem dX7_lightIs_78 : decode cX7_lightIs 78 = .ok (.aload_n 3, 1) := by decide +kernel
theorem dX7_lightIs_79 : decode cX7_lightIs 79 = .ok (.getfield 122, 3) := by decide +kernel
theorem dX7_lightIs_82 : decode cX7_lightIs 82 = .ok (.ireturn, 1) := by decide +kernel
theorem dX7_lightIs_83 : decode cX7_lightIs 83 = .ok (.aload_n 3, 1) := by decide +kernel
theorem dX7_lightIs_84 : decode cX7_lightIs 84 = .ok (.getfield 125, 3) := by decide +kernel
theorem dX7_lightIs_87 : decode cX7_lightIs 87 = .ok (.ireturn, 1) := by decide +kernel
theorem dX7_lightIs_88 : decode cX7_lightIs 88 = .ok (.aload_n 3, 1) := by decide +kernel
theorem dX7_lightIs_89 : decode cX7_lightIs 89 = .ok (.getfield 128, 3) := by decide +kernel
theorem dX7_lightIs_92 : decode cX7_lightIs 92 = .ok (.ireturn, 1) := by decide +kernel
theorem dX7_lightIs_93 : decode cX7_lightIs 93 = .ok (.aload_n 3, 1) := by decide +kernel
theorem dX7_lightIs_94 : decode cX7_lightIs 94 = .ok (.getfield 131, 3) := by decide +kernel
theorem dX7_lightIs_97 : decode cX7_lightIs 97 = .ok (.invokestatic 135, 3) := by decide +kernel
theorem dX7_lightIs_100 : decode cX7_lightIs 100 = .ok (.ireturn, 1) := by decide +kernel
theorem dX7_lightIs_101 : decode cX7_lightIs 101 = .ok (.aload_n 3, 1) := by decide +kernel
theorem dX7_lightIs_102 : decode cX7_lightIs 102 = .ok (.getfield 141, 3) := by decide +kernel
theorem dX7_lightIs_105 : decode cX7_lightIs 105 = .ok (.ireturn, 1) := by decide +kernel
theorem dX7_lightIs_106 : decode cX7_lightIs 106 = .ok (.aload_n 3, 1) := by decide +kernel
theorem dX7_lightIs_107 : decode cX7_lightIs 107 = .ok (.getfield 144, 3) := by decide +kernel
theorem dX7_lightIs_110 : decode cX7_lightIs 110 = .ok (.ireturn, 1) := by decide +kernel
theorem dX7_lightIs_111 : decode cX7_lightIs 111 = .ok (.aload_n 0, 1) := by decide +kernel
theorem dX7_lightIs_112 : decode cX7_lightIs 112 = .ok (.ldc 68, 2) := by decide +kernel
theorem dX7_lightIs_114 : decode cX7_lightIs 114 = .ok (.invokevirtual 69, 3) := by decide +kernel
theorem dX7_lightIs_117 : decode cX7_lightIs 117 = .ok (.ireturn, 1) := by decide +kernel
theorem dX7_at_0 : decode cX7_at 0 = .ok (.aload_n 0, 1) := by decide +kernel
theorem dX7_at_1 : decode cX7_at 1 = .ok (.iload_n 1, 1) := by decide +kernel
theorem dX7_at_2 : decode cX7_at 2 = .ok (.invokevirtual 108, 3) := by decide +kernel
theorem dX7_at_5 : decode cX7_at 5 = .ok (.ifCond .eq 7, 3) := by decide +kernel
theorem dX7_at_8 : decode cX7_at 8 = .ok (.iload_n 2, 1) := by decide +kernel
theorem dX7_at_9 : decode cX7_at 9 = .ok (.ifCond .ge 10, 3) := by decide +kernel
theorem dX7_at_12 : decode cX7_at 12 = .ok (.aload_n 0, 1) := by decide +kernel
theorem dX7_at_13 : decode cX7_at 13 = .ok (.ldc 68, 2) := by decide +kernel
theorem dX7_at_15 : decode cX7_at 15 = .ok (.invokevirtual 69, 3) := by decide +kernel
theorem dX7_at_18 : decode cX7_at 18 = .ok (.ireturn, 1) := by decide +kernel
theorem dX7_at_19 : decode cX7_at 19 = .ok (.aload_n 0, 1) := by decide +kernel
theorem dX7_at_20 : decode cX7_at 20 = .ok (.getfield 18, 3) := by decide +kernel
theorem dX7_at_23 : decode cX7_at 23 = .ok (.iload_n 1, 1) := by decide +kernel
theorem dX7_at_24 : decode cX7_at 24 = .ok (.aaload, 1) := by decide +kernel
theorem dX7_at_25 : decode cX7_at 25 = .ok (.iload_n 2, 1) := by decide +kernel
theorem dX7_at_26 : decode cX7_at 26 = .ok (.invokevirtual 147, 3) := by decide +kernel
theorem dX7_at_29 : decode cX7_at 29 = .ok (.ifCond .eq 7, 3) := by decide +kernel
theorem dX7_at_32 : decode cX7_at 32 = .ok (.iconst 1, 1) := by decide +kernel
theorem dX7_at_33 : decode cX7_at 33 = .ok (.goto 4, 3) := by decide +kernel
theorem dX7_at_36 : decode cX7_at 36 = .ok (.iconst 0, 1) := by decide +kernel
theorem dX7_at_37 : decode cX7_at 37 = .ok (.ireturn, 1) := by decide +kernel
theorem dX7_sector_0 : decode cX7_sector 0 = .ok (.aload_n 0, 1) := by decide +kernel
theorem dX7_sector_1 : decode cX7_sector 1 = .ok (.iload_n 1, 1) := by decide +kernel
theorem dX7_sector_2 : decode cX7_sector 2 = .ok (.invokevirtual 108, 3) := by decide +kernel
theorem dX7_sector_5 : decode cX7_sector 5 = .ok (.ifCond .eq 28, 3) := by decide +kernel
theorem dX7_sector_8 : decode cX7_sector 8 = .ok (.iload_n 2, 1) := by decide +kernel
theorem dX7_sector_9 : decode cX7_sector 9 = .ok (.invokestatic 150, 3) := by decide +kernel
theorem dX7_sector_12 : decode cX7_sector 12 = .ok (.ifCond .eq 21, 3) := by decide +kernel
theorem dX7_sector_15 : decode cX7_sector 15 = .ok (.iload_n 3, 1) := by decide +kernel
theorem dX7_sector_16 : decode cX7_sector 16 = .ok (.invokestatic 150, 3) := by decide +kernel
theorem dX7_sector_19 : decode cX7_sector 19 = .ok (.ifCond .eq 14, 3) := by decide +kernel
theorem dX7_sector_22 : decode cX7_sector 22 = .ok (.iload 4, 2) := by decide +kernel
theorem dX7_sector_24 : decode cX7_sector 24 = .ok (.ifCond .lt 9, 3) := by decide +kernel
theorem dX7_sector_27 : decode cX7_sector 27 = .ok (.iload 4, 2) := by decide +kernel
theorem dX7_sector_29 : decode cX7_sector 29 = .ok (.iconst 3, 1) := by decide +kernel
theorem dX7_sector_30 : decode cX7_sector 30 = .ok (.if_icmp .le 10, 3) := by decide +kernel
theorem dX7_sector_33 : decode cX7_sector 33 = .ok (.aload_n 0, 1) := by decide +kernel
theorem dX7_sector_34 : decode cX7_sector 34 = .ok (.ldc 68, 2) := by decide +kernel
theorem dX7_sector_36 : decode cX7_sector 36 = .ok (.invokevirtual 69, 3) := by decide +kernel
theorem dX7_sector_39 : decode cX7_sector 39 = .ok (.ireturn, 1) := by decide +kernel
theorem dX7_sector_40 : decode cX7_sector 40 = .ok (.aload_n 0, 1) := by decide +kernel
theorem dX7_sector_41 : decode cX7_sector 41 = .ok (.getfield 18, 3) := by decide +kernel
theorem dX7_sector_44 : decode cX7_sector 44 = .ok (.iload_n 1, 1) := by decide +kernel
theorem dX7_sector_45 : decode cX7_sector 45 = .ok (.aaload, 1) := by decide +kernel
theorem dX7_sector_46 : decode cX7_sector 46 = .ok (.astore 5, 2) := by decide +kernel
theorem dX7_sector_48 : decode cX7_sector 48 = .ok (.aload 5, 2) := by decide +kernel
theorem dX7_sector_50 : decode cX7_sector 50 = .ok (.getfield 141, 3) := by decide +kernel
theorem dX7_sector_53 : decode cX7_sector 53 = .ok (.iconst 4, 1) := by decide +kernel
theorem dX7_sector_54 : decode cX7_sector 54 = .ok (.if_icmp .lt 10, 3) := by decide +kernel
theorem dX7_sector_57 : decode cX7_sector 57 = .ok (.aload_n 0, 1) := by decide +kernel
theorem dX7_sector_58 : decode cX7_sector 58 = .ok (.ldc 77, 2) := by decide +kernel
theorem dX7_sector_60 : decode cX7_sector 60 = .ok (.invokevirtual 69, 3) := by decide +kernel
theorem dX7_sector_63 : decode cX7_sector 63 = .ok (.ireturn, 1) := by decide +kernel
theorem dX7_sector_64 : decode cX7_sector 64 = .ok (.aload_n 0, 1) := by decide +kernel
theorem dX7_sector_65 : decode cX7_sector 65 = .ok (.iconst 1, 1) := by decide +kernel
theorem dX7_sector_66 : decode cX7_sector 66 = .ok (.iload_n 1, 1) := by decide +kernel
theorem dX7_sector_67 : decode cX7_sector 67 = .ok (.iconst 0, 1) := by decide +kernel
theorem dX7_sector_68 : decode cX7_sector 68 = .ok (.invokevirtual 96, 3) := by decide +kernel
theorem dX7_sector_71 : decode cX7_sector 71 = .ok (.pop, 1) := by decide +kernel
theorem dX7_sector_72 : decode cX7_sector 72 = .ok (.aload 5, 2) := by decide +kernel
theorem dX7_sector_74 : decode cX7_sector 74 = .ok (.getfield 153, 3) := by decide +kernel
theorem dX7_sector_77 : decode cX7_sector 77 = .ok (.aload 5, 2) := by decide +kernel
theorem dX7_sector_79 : decode cX7_sector 79 = .ok (.getfield 141, 3) := by decide +kernel
theorem dX7_sector_82 : decode cX7_sector 82 = .ok (.iload 4, 2) := by decide +kernel
theorem dX7_sector_84 : decode cX7_sector 84 = .ok (.bipush 16, 2) := by decide +kernel
theorem dX7_sector_86 : decode cX7_sector 86 = .ok (.ishl, 1) := by decide +kernel
theorem dX7_sector_87 : decode cX7_sector 87 = .ok (.iload_n 2, 1) := by decide +kernel
theorem dX7_sector_88 : decode cX7_sector 88 = .ok (.iload_n 3, 1) := by decide +kernel
theorem dX7_sector_89 : decode cX7_sector 89 = .ok (.invokestatic 156, 3) := by decide +kernel
theorem dX7_sector_92 : decode cX7_sector 92 = .ok (.ior, 1) := by decide +kernel
theorem dX7_sector_93 : decode cX7_sector 93 = .ok (.iastore, 1) := by decide +kernel
theorem dX7_sector_94 : decode cX7_sector 94 = .ok (.aload 5, 2) := by decide +kernel
theorem dX7_sector_96 : decode cX7_sector 96 = .ok (.dup, 1) := by decide +kernel
theorem dX7_sector_97 : decode cX7_sector 97 = .ok (.getfield 141, 3) := by decide +kernel
theorem dX7_sector_100 : decode cX7_sector 100 = .ok (.iconst 1, 1) := by decide +kernel
theorem dX7_sector_101 : decode cX7_sector 101 = .ok (.iadd, 1) := by decide +kernel
theorem dX7_sector_102 : decode cX7_sector 102 = .ok (.putfield 141, 3) := by decide +kernel
theorem dX7_sector_105 : decode cX7_sector 105 = .ok (.aload 5, 2) := by decide +kernel
theorem dX7_sector_107 : decode cX7_sector 107 = .ok (.getfield 141, 3) := by decide +kernel
theorem dX7_sector_110 : decode cX7_sector 110 = .ok (.ireturn, 1) := by decide +kernel
theorem dX7_doubt_0 : decode cX7_doubt 0 = .ok (.aload_n 0, 1) := by decide +kernel
theorem dX7_doubt_1 : decode cX7_doubt 1 = .ok (.iload_n 1, 1) := by decide +kernel
theorem dX7_doubt_2 : decode cX7_doubt 2 = .ok (.invokevirtual 108, 3) := by decide +kernel
theorem dX7_doubt_5 : decode cX7_doubt 5 = .ok (.ifCond .eq 12, 3) := by decide +kernel
theorem dX7_doubt_8 : decode cX7_doubt 8 = .ok (.iload_n 2, 1) := by decide +kernel
theorem dX7_doubt_9 : decode cX7_doubt 9 = .ok (.ifCond .lt 8, 3) := by decide +kernel
theorem dX7_doubt_12 : decode cX7_doubt 12 = .ok (.iload_n 2, 1) := by decide +kernel
theorem dX7_doubt_13 : decode cX7_doubt 13 = .ok (.iconst 3, 1) := by decide +kernel
theorem dX7_doubt_14 : decode cX7_doubt 14 = .ok (.if_icmp .le 10, 3) := by decide +kernel
theorem dX7_doubt_17 : decode cX7_doubt 17 = .ok (.aload_n 0, 1) := by decide +kernel
theorem dX7_doubt_18 : decode cX7_doubt 18 = .ok (.ldc 68, 2) := by decide +kernel
theorem dX7_doubt_20 : decode cX7_doubt 20 = .ok (.invokevirtual 69, 3) := by decide +kernel
theorem dX7_doubt_23 : decode cX7_doubt 23 = .ok (.ireturn, 1) := by decide +kernel
theorem dX7_doubt_24 : decode cX7_doubt 24 = .ok (.aload_n 0, 1) := by decide +kernel
theorem dX7_doubt_25 : decode cX7_doubt 25 = .ok (.getfield 18, 3) := by decide +kernel
theorem dX7_doubt_28 : decode cX7_doubt 28 = .ok (.iload_n 1, 1) := by decide +kernel
theorem dX7_doubt_29 : decode cX7_doubt 29 = .ok (.aaload, 1) := by decide +kernel
theorem dX7_doubt_30 : decode cX7_doubt 30 = .ok (.astore_n 3, 1) := by decide +kernel
theorem dX7_doubt_31 : decode cX7_doubt 31 = .ok (.aload_n 3, 1) := by decide +kernel
theorem dX7_doubt_32 : decode cX7_doubt 32 = .ok (.getfield 111, 3) := by decide +kernel
theorem dX7_doubt_35 : decode cX7_doubt 35 = .ok (.iconst 2, 1) := by decide +kernel
theorem dX7_doubt_36 : decode cX7_doubt 36 = .ok (.if_icmp .eq 10, 3) := by decide +kernel
theorem dX7_doubt_39 : decode cX7_doubt 39 = .ok (.aload_n 0, 1) := by decide +kernel
theorem dX7_doubt_40 : decode cX7_doubt 40 = .ok (.ldc 118, 2) := by decide +kernel
theorem dX7_doubt_42 : decode cX7_doubt 42 = .ok (.invokevirtual 69, 3) := by decide +kernel
theorem dX7_doubt_45 : decode cX7_doubt 45 = .ok (.ireturn, 1) := by decide +kernel
theorem dX7_doubt_46 : decode cX7_doubt 46 = .ok (.aload_n 3, 1) := by decide +kernel
theorem dX7_doubt_47 : decode cX7_doubt 47 = .ok (.getfield 144, 3) := by decide +kernel
theorem dX7_doubt_50 : decode cX7_doubt 50 = .ok (.istore 4, 2) := by decide +kernel
theorem dX7_doubt_52 : decode cX7_doubt 52 = .ok (.aload_n 0, 1) := by decide +kernel
theorem dX7_doubt_53 : decode cX7_doubt 53 = .ok (.iconst 2, 1) := by decide +kernel
theorem dX7_doubt_54 : decode cX7_doubt 54 = .ok (.iload_n 1, 1) := by decide +kernel
theorem dX7_doubt_55 : decode cX7_doubt 55 = .ok (.iload 4, 2) := by decide +kernel
theorem dX7_doubt_57 : decode cX7_doubt 57 = .ok (.invokevirtual 96, 3) := by decide +kernel
theorem dX7_doubt_60 : decode cX7_doubt 60 = .ok (.pop, 1) := by decide +kernel
theorem dX7_doubt_61 : decode cX7_doubt 61 = .ok (.aload_n 3, 1) := by decide +kernel
theorem dX7_doubt_62 : decode cX7_doubt 62 = .ok (.iload_n 2, 1) := by decide +kernel
theorem dX7_doubt_63 : decode cX7_doubt 63 = .ok (.putfield 144, 3) := by decide +kernel
theorem dX7_doubt_66 : decode cX7_doubt 66 = .ok (.iload 4, 2) := by decide +kernel
theorem dX7_doubt_68 : decode cX7_doubt 68 = .ok (.ireturn, 1) := by decide +kernel
theorem dX7_direction_0 : decode cX7_direction 0 = .ok (.iload_n 1, 1) := by decide +kernel
theorem dX7_direction_1 : decode cX7_direction 1 = .ok (.invokestatic 86, 3) := by decide +kernel
theorem dX7_direction_4 : decode cX7_direction 4 = .ok (.ifCond .eq 10, 3) := by decide +kernel
theorem dX7_direction_7 : decode cX7_direction 7 = .ok (.iload_n 2, 1) := by decide +kernel
theorem dX7_direction_8 : decode cX7_direction 8 = .ok (.invokestatic 86, 3) := by decide +kernel
theorem dX7_direction_11 : decode cX7_direction 11 = .ok (.ifCond .ne 10, 3) := by decide +kernel
theorem dX7_direction_14 : decode cX7_direction 14 = .ok (.aload_n 0, 1) := by decide +kernel
theorem dX7_direction_15 : decode cX7_direction 15 = .ok (.ldc 68, 2) := by decide +kernel
theorem dX7_direction_17 : decode cX7_direction 17 = .ok (.invokevirtual 69, 3) := by decide +kernel
theorem dX7_direction_20 : decode cX7_direction 20 = .ok (.ireturn, 1) := by decide +kernel
theorem dX7_direction_21 : decode cX7_direction 21 = .ok (.iload_n 1, 1) := by decide +kernel
theorem dX7_direction_22 : decode cX7_direction 22 = .ok (.iload_n 2, 1) := by decide +kernel
theorem dX7_direction_23 : decode cX7_direction 23 = .ok (.if_icmp .ne 12, 3) := by decide +kernel
theorem dX7_direction_26 : decode cX7_direction 26 = .ok (.aload_n 0, 1) := by decide +kernel
theorem dX7_direction_27 : decode cX7_direction 27 = .ok (.ldc 160, 2) := by decide +kernel
theorem dX7_direction_29 : decode cX7_direction 29 = .ok (.invokevirtual 69, 3) := by decide +kernel
theorem dX7_direction_32 : decode cX7_direction 32 = .ok (.goto 8, 3) := by decide +kernel
theorem dX7_direction_35 : decode cX7_direction 35 = .ok (.iload_n 1, 1) := by decide +kernel
theorem dX7_direction_36 : decode cX7_direction 36 = .ok (.iload_n 2, 1) := by decide +kernel
theorem dX7_direction_37 : decode cX7_direction 37 = .ok (.invokestatic 161, 3) := by decide +kernel
theorem dX7_direction_40 : decode cX7_direction 40 = .ok (.ireturn, 1) := by decide +kernel
theorem dX7_colour_0 : decode cX7_colour 0 = .ok (.aload_n 0, 1) := by decide +kernel
theorem dX7_colour_1 : decode cX7_colour 1 = .ok (.iload_n 1, 1) := by decide +kernel
theorem dX7_colour_2 : decode cX7_colour 2 = .ok (.invokevirtual 108, 3) := by decide +kernel
theorem dX7_colour_5 : decode cX7_colour 5 = .ok (.ifCond .eq 10, 3) := by decide +kernel
theorem dX7_colour_8 : decode cX7_colour 8 = .ok (.iload_n 2, 1) := by decide +kernel
theorem dX7_colour_9 : decode cX7_colour 9 = .ok (.invokestatic 86, 3) := by decide +kernel
theorem dX7_colour_12 : decode cX7_colour 12 = .ok (.ifCond .ne 10, 3) := by decide +kernel
theorem dX7_colour_15 : decode cX7_colour 15 = .ok (.aload_n 0, 1) := by decide +kernel
theorem dX7_colour_16 : decode cX7_colour 16 = .ok (.ldc 68, 2) := by decide +kernel
theorem dX7_colour_18 : decode cX7_colour 18 = .ok (.invokevirtual 69, 3) := by decide +kernel
theorem dX7_colour_21 : decode cX7_colour 21 = .ok (.ireturn, 1) := by decide +kernel
theorem dX7_colour_22 : decode cX7_colour 22 = .ok (.aload_n 0, 1) := by decide +kernel
theorem dX7_colour_23 : decode cX7_colour 23 = .ok (.getfield 18, 3) := by decide +kernel
theorem dX7_colour_26 : decode cX7_colour 26 = .ok (.iload_n 1, 1) := by decide +kernel
theorem dX7_colour_27 : decode cX7_colour 27 = .ok (.aaload, 1) := by decide +kernel
theorem dX7_colour_28 : decode cX7_colour 28 = .ok (.iload_n 2, 1) := by decide +kernel
theorem dX7_colour_29 : decode cX7_colour 29 = .ok (.invokestatic 164, 3) := by decide +kernel
theorem dX7_colour_32 : decode cX7_colour 32 = .ok (.ireturn, 1) := by decide +kernel
theorem dX7_seen_0 : decode cX7_seen 0 = .ok (.iload_n 1, 1) := by decide +kernel
theorem dX7_seen_1 : decode cX7_seen 1 = .ok (.invokestatic 86, 3) := by decide +kernel
theorem dX7_seen_4 : decode cX7_seen 4 = .ok (.ifCond .eq 11, 3) := by decide +kernel
theorem dX7_seen_7 : decode cX7_seen 7 = .ok (.aload_n 0, 1) := by decide +kernel
theorem dX7_seen_8 : decode cX7_seen 8 = .ok (.iload_n 1, 1) := by decide +kernel
theorem dX7_seen_9 : decode cX7_seen 9 = .ok (.invokevirtual 168, 3) := by decide +kernel
theorem dX7_seen_12 : decode cX7_seen 12 = .ok (.goto 9, 3) := by decide +kernel
theorem dX7_seen_15 : decode cX7_seen 15 = .ok (.aload_n 0, 1) := by decide +kernel
theorem dX7_seen_16 : decode cX7_seen 16 = .ok (.ldc 68, 2) := by decide +kernel
theorem dX7_seen_18 : decode cX7_seen 18 = .ok (.invokevirtual 69, 3) := by decide +kernel
theorem dX7_seen_21 : decode cX7_seen 21 = .ok (.ireturn, 1) := by decide +kernel
theorem dX7_haze_0 : decode cX7_haze 0 = .ok (.iload_n 1, 1) := by decide +kernel
theorem dX7_haze_1 : decode cX7_haze 1 = .ok (.ifCond .lt 9, 3) := by decide +kernel
theorem dX7_haze_4 : decode cX7_haze 4 = .ok (.iload_n 1, 1) := by decide +kernel
theorem dX7_haze_5 : decode cX7_haze 5 = .ok (.bipush 15, 2) := by decide +kernel
theorem dX7_haze_7 : decode cX7_haze 7 = .ok (.if_icmp .le 10, 3) := by decide +kernel
theorem dX7_haze_10 : decode cX7_haze 10 = .ok (.aload_n 0, 1) := by decide +kernel
theorem dX7_haze_11 : decode cX7_haze 11 = .ok (.ldc 68, 2) := by decide +kernel
theorem dX7_haze_13 : decode cX7_haze 13 = .ok (.invokevirtual 69, 3) := by decide +kernel
theorem dX7_haze_16 : decode cX7_haze 16 = .ok (.ireturn, 1) := by decide +kernel
theorem dX7_haze_17 : decode cX7_haze 17 = .ok (.aload_n 0, 1) := by decide +kernel
theorem dX7_haze_18 : decode cX7_haze 18 = .ok (.getfield 171, 3) := by decide +kernel
theorem dX7_haze_21 : decode cX7_haze 21 = .ok (.istore_n 2, 1) := by decide +kernel
theorem dX7_haze_22 : decode cX7_haze 22 = .ok (.aload_n 0, 1) := by decide +kernel
theorem dX7_haze_23 : decode cX7_haze 23 = .ok (.iconst 3, 1) := by decide +kernel
theorem dX7_haze_24 : decode cX7_haze 24 = .ok (.iconst 0, 1) := by decide +kernel
theorem dX7_haze_25 : decode cX7_haze 25 = .ok (.iload_n 2, 1) := by decide +kernel
theorem dX7_haze_26 : decode cX7_haze 26 = .ok (.invokevirtual 96, 3) := by decide +kernel
theorem dX7_haze_29 : decode cX7_haze 29 = .ok (.pop, 1) := by decide +kernel
theorem dX7_haze_30 : decode cX7_haze 30 = .ok (.aload_n 0, 1) := by decide +kernel
theorem dX7_haze_31 : decode cX7_haze 31 = .ok (.iload_n 1, 1) := by decide +kernel
theorem dX7_haze_32 : decode cX7_haze 32 = .ok (.putfield 171, 3) := by decide +kernel
theorem dX7_haze_35 : decode cX7_haze 35 = .ok (.iload_n 2, 1) := by decide +kernel
theorem dX7_haze_36 : decode cX7_haze 36 = .ok (.ireturn, 1) := by decide +kernel
theorem dX7_day_0 : decode cX7_day 0 = .ok (.iload_n 1, 1) := by decide +kernel
theorem dX7_day_1 : decode cX7_day 1 = .ok (.invokestatic 174, 3) := by decide +kernel
theorem dX7_day_4 : decode cX7_day 4 = .ok (.ifCond .ne 10, 3) := by decide +kernel
theorem dX7_day_7 : decode cX7_day 7 = .ok (.aload_n 0, 1) := by decide +kernel
theorem dX7_day_8 : decode cX7_day 8 = .ok (.ldc 68, 2) := by decide +kernel
theorem dX7_day_10 : decode cX7_day 10 = .ok (.invokevirtual 69, 3) := by decide +kernel
theorem dX7_day_13 : decode cX7_day 13 = .ok (.ireturn, 1) := by decide +kernel
theorem dX7_day_14 : decode cX7_day 14 = .ok (.aload_n 0, 1) := by decide +kernel
theorem dX7_day_15 : decode cX7_day 15 = .ok (.getfield 177, 3) := by decide +kernel
theorem dX7_day_18 : decode cX7_day 18 = .ok (.istore_n 2, 1) := by decide +kernel
theorem dX7_day_19 : decode cX7_day 19 = .ok (.aload_n 0, 1) := by decide +kernel
theorem dX7_day_20 : decode cX7_day 20 = .ok (.iconst 4, 1) := by decide +kernel
theorem dX7_day_21 : decode cX7_day 21 = .ok (.iconst 0, 1) := by decide +kernel
theorem dX7_day_22 : decode cX7_day 22 = .ok (.iload_n 2, 1) := by decide +kernel
theorem dX7_day_23 : decode cX7_day 23 = .ok (.invokevirtual 96, 3) := by decide +kernel
theorem dX7_day_26 : decode cX7_day 26 = .ok (.pop, 1) := by decide +kernel
theorem dX7_day_27 : decode cX7_day 27 = .ok (.aload_n 0, 1) := by decide +kernel
theorem dX7_day_28 : decode cX7_day 28 = .ok (.iload_n 1, 1) := by decide +kernel
theorem dX7_day_29 : decode cX7_day 29 = .ok (.putfield 177, 3) := by decide +kernel
theorem dX7_day_32 : decode cX7_day 32 = .ok (.iload_n 2, 1) := by decide +kernel
theorem dX7_day_33 : decode cX7_day 33 = .ok (.ireturn, 1) := by decide +kernel
theorem dX7_apart_0 : decode cX7_apart 0 = .ok (.aload_n 0, 1) := by decide +kernel
theorem dX7_apart_1 : decode cX7_apart 1 = .ok (.iload_n 1, 1) := by decide +kernel
theorem dX7_apart_2 : decode cX7_apart 2 = .ok (.invokevirtual 108, 3) := by decide +kernel
theorem dX7_apart_5 : decode cX7_apart 5 = .ok (.ifCond .eq 11, 3) := by decide +kernel
theorem dX7_apart_8 : decode cX7_apart 8 = .ok (.aload_n 0, 1) := by decide +kernel
theorem dX7_apart_9 : decode cX7_apart 9 = .ok (.iload_n 2, 1) := by decide +kernel
theorem dX7_apart_10 : decode cX7_apart 10 = .ok (.invokevirtual 108, 3) := by decide +kernel
theorem dX7_apart_13 : decode cX7_apart 13 = .ok (.ifCond .ne 10, 3) := by decide +kernel
theorem dX7_apart_16 : decode cX7_apart 16 = .ok (.aload_n 0, 1) := by decide +kernel
theorem dX7_apart_17 : decode cX7_apart 17 = .ok (.ldc 68, 2) := by decide +kernel
theorem dX7_apart_19 : decode cX7_apart 19 = .ok (.invokevirtual 69, 3) := by decide +kernel
theorem dX7_apart_22 : decode cX7_apart 22 = .ok (.ireturn, 1) := by decide +kernel
theorem dX7_apart_23 : decode cX7_apart 23 = .ok (.iload_n 1, 1) := by decide +kernel
theorem dX7_apart_24 : decode cX7_apart 24 = .ok (.iload_n 2, 1) := by decide +kernel
theorem dX7_apart_25 : decode cX7_apart 25 = .ok (.if_icmp .ne 10, 3) := by decide +kernel
theorem dX7_apart_28 : decode cX7_apart 28 = .ok (.aload_n 0, 1) := by decide +kernel
theorem dX7_apart_29 : decode cX7_apart 29 = .ok (.ldc 160, 2) := by decide +kernel
theorem dX7_apart_31 : decode cX7_apart 31 = .ok (.invokevirtual 69, 3) := by decide +kernel
theorem dX7_apart_34 : decode cX7_apart 34 = .ok (.ireturn, 1) := by decide +kernel
theorem dX7_apart_35 : decode cX7_apart 35 = .ok (.aload_n 0, 1) := by decide +kernel
theorem dX7_apart_36 : decode cX7_apart 36 = .ok (.getfield 18, 3) := by decide +kernel
theorem dX7_apart_39 : decode cX7_apart 39 = .ok (.iload_n 1, 1) := by decide +kernel
theorem dX7_apart_40 : decode cX7_apart 40 = .ok (.aaload, 1) := by decide +kernel
theorem dX7_apart_41 : decode cX7_apart 41 = .ok (.aload_n 0, 1) := by decide +kernel
theorem dX7_apart_42 : decode cX7_apart 42 = .ok (.getfield 18, 3) := by decide +kernel
theorem dX7_apart_45 : decode cX7_apart 45 = .ok (.iload_n 2, 1) := by decide +kernel
theorem dX7_apart_46 : decode cX7_apart 46 = .ok (.aaload, 1) := by decide +kernel
theorem dX7_apart_47 : decode cX7_apart 47 = .ok (.invokestatic 180, 3) := by decide +kernel
theorem dX7_apart_50 : decode cX7_apart 50 = .ok (.istore_n 3, 1) := by decide +kernel
theorem dX7_apart_51 : decode cX7_apart 51 = .ok (.iload_n 3, 1) := by decide +kernel
theorem dX7_apart_52 : decode cX7_apart 52 = .ok (.ifCond .ge 12, 3) := by decide +kernel
theorem dX7_apart_55 : decode cX7_apart 55 = .ok (.aload_n 0, 1) := by decide +kernel
theorem dX7_apart_56 : decode cX7_apart 56 = .ok (.ldc 184, 2) := by decide +kernel
theorem dX7_apart_58 : decode cX7_apart 58 = .ok (.invokevirtual 69, 3) := by decide +kernel
theorem dX7_apart_61 : decode cX7_apart 61 = .ok (.goto 6, 3) := by decide +kernel
theorem dX7_apart_64 : decode cX7_apart 64 = .ok (.iload_n 3, 1) := by decide +kernel
theorem dX7_apart_65 : decode cX7_apart 65 = .ok (.iconst 1, 1) := by decide +kernel
theorem dX7_apart_66 : decode cX7_apart 66 = .ok (.iadd, 1) := by decide +kernel
theorem dX7_apart_67 : decode cX7_apart 67 = .ok (.ireturn, 1) := by decide +kernel
theorem dX7_allApart_0 : decode cX7_allApart 0 = .ok (.iload_n 1, 1) := by decide +kernel
theorem dX7_allApart_1 : decode cX7_allApart 1 = .ok (.aload_n 0, 1) := by decide +kernel
theorem dX7_allApart_2 : decode cX7_allApart 2 = .ok (.invokevirtual 185, 3) := by decide +kernel
theorem dX7_allApart_5 : decode cX7_allApart 5 = .ok (.iconst (-1), 1) := by decide +kernel
theorem dX7_allApart_6 : decode cX7_allApart 6 = .ok (.ixor, 1) := by decide +kernel
theorem dX7_allApart_7 : decode cX7_allApart 7 = .ok (.iand, 1) := by decide +kernel
theorem dX7_allApart_8 : decode cX7_allApart 8 = .ok (.ifCond .eq 10, 3) := by decide +kernel
theorem dX7_allApart_11 : decode cX7_allApart 11 = .ok (.aload_n 0, 1) := by decide +kernel
theorem dX7_allApart_12 : decode cX7_allApart 12 = .ok (.ldc 68, 2) := by decide +kernel
theorem dX7_allApart_14 : decode cX7_allApart 14 = .ok (.invokevirtual 69, 3) := by decide +kernel
theorem dX7_allApart_17 : decode cX7_allApart 17 = .ok (.ireturn, 1) := by decide +kernel
theorem dX7_allApart_18 : decode cX7_allApart 18 = .ok (.iconst 0, 1) := by decide +kernel
theorem dX7_allApart_19 : decode cX7_allApart 19 = .ok (.istore_n 2, 1) := by decide +kernel
theorem dX7_allApart_20 : decode cX7_allApart 20 = .ok (.iconst 0, 1) := by decide +kernel
theorem dX7_allApart_21 : decode cX7_allApart 21 = .ok (.istore_n 3, 1) := by decide +kernel
theorem dX7_allApart_22 : decode cX7_allApart 22 = .ok (.iload_n 3, 1) := by decide +kernel
theorem dX7_allApart_23 : decode cX7_allApart 23 = .ok (.aload_n 0, 1) := by decide +kernel
theorem dX7_allApart_24 : decode cX7_allApart 24 = .ok (.getfield 89, 3) := by decide +kernel
theorem dX7_allApart_27 : decode cX7_allApart 27 = .ok (.if_icmp .ge 86, 3) := by decide +kernel
theorem dX7_allApart_30 : decode cX7_allApart 30 = .ok (.iload_n 3, 1) := by decide +kernel
theorem dX7_allApart_31 : decode cX7_allApart 31 = .ok (.iconst 1, 1) := by decide +kernel
theorem dX7_allApart_32 : decode cX7_allApart 32 = .ok (.iadd, 1) := by decide +kernel
theorem dX7_allApart_33 : decode cX7_allApart 33 = .ok (.istore 4, 2) := by decide +kernel
theorem dX7_allApart_35 : decode cX7_allApart 35 = .ok (.iload 4, 2) := by decide +kernel
theorem dX7_allApart_37 : decode cX7_allApart 37 = .ok (.aload_n 0, 1) := by decide +kernel
theorem dX7_allApart_38 : decode cX7_allApart 38 = .ok (.getfield 89, 3) := by decide +kernel
theorem dX7_allApart_41 : decode cX7_allApart 41 = .ok (.if_icmp .ge 66, 3) := by decide +kernel
theorem dX7_allApart_44 : decode cX7_allApart 44 = .ok (.iload_n 1, 1) := by decide +kernel
theorem dX7_allApart_45 : decode cX7_allApart 45 = .ok (.iload_n 3, 1) := by decide +kernel
theorem dX7_allApart_46 : decode cX7_allApart 46 = .ok (.ishr, 1) := by decide +kernel
theorem dX7_allApart_47 : decode cX7_allApart 47 = .ok (.iconst 1, 1) := by decide +kernel
theorem dX7_allApart_48 : decode cX7_allApart 48 = .ok (.iand, 1) := by decide +kernel
theorem dX7_allApart_49 : decode cX7_allApart 49 = .ok (.ifCond .eq 52, 3) := by decide +kernel
theorem dX7_allApart_52 : decode cX7_allApart 52 = .ok (.iload_n 1, 1) := by decide +kernel
theorem dX7_allApart_53 : decode cX7_allApart 53 = .ok (.iload 4, 2) := by decide +kernel
theorem dX7_allApart_55 : decode cX7_allApart 55 = .ok (.ishr, 1) := by decide +kernel
theorem dX7_allApart_56 : decode cX7_allApart 56 = .ok (.iconst 1, 1) := by decide +kernel
theorem dX7_allApart_57 : decode cX7_allApart 57 = .ok (.iand, 1) := by decide +kernel
theorem dX7_allApart_58 : decode cX7_allApart 58 = .ok (.ifCond .ne 6, 3) := by decide +kernel
theorem dX7_allApart_61 : decode cX7_allApart 61 = .ok (.goto 40, 3) := by decide +kernel
theorem dX7_allApart_64 : decode cX7_allApart 64 = .ok (.aload_n 0, 1) := by decide +kernel
theorem dX7_allApart_65 : decode cX7_allApart 65 = .ok (.getfield 18, 3) := by decide +kernel
theorem dX7_allApart_68 : decode cX7_allApart 68 = .ok (.iload_n 3, 1) := by decide +kernel
theorem dX7_allApart_69 : decode cX7_allApart 69 = .ok (.aaload, 1) := by decide +kernel
theorem dX7_allApart_70 : decode cX7_allApart 70 = .ok (.aload_n 0, 1) := by decide +kernel
theorem dX7_allApart_71 : decode cX7_allApart 71 = .ok (.getfield 18, 3) := by decide +kernel
theorem dX7_allApart_74 : decode cX7_allApart 74 = .ok (.iload 4, 2) := by decide +kernel
theorem dX7_allApart_76 : decode cX7_allApart 76 = .ok (.aaload, 1) := by decide +kernel
theorem dX7_allApart_77 : decode cX7_allApart 77 = .ok (.invokestatic 180, 3) := by decide +kernel
theorem dX7_allApart_80 : decode cX7_allApart 80 = .ok (.istore 5, 2) := by decide +kernel
theorem dX7_allApart_82 : decode cX7_allApart 82 = .ok (.iload 5, 2) := by decide +kernel
theorem dX7_allApart_84 : decode cX7_allApart 84 = .ok (.ifCond .ge 10, 3) := by decide +kernel
theorem dX7_allApart_87 : decode cX7_allApart 87 = .ok (.aload_n 0, 1) := by decide +kernel
theorem dX7_allApart_88 : decode cX7_allApart 88 = .ok (.ldc 184, 2) := by decide +kernel
theorem dX7_allApart_90 : decode cX7_allApart 90 = .ok (.invokevirtual 69, 3) := by decide +kernel
theorem dX7_allApart_93 : decode cX7_allApart 93 = .ok (.ireturn, 1) := by decide +kernel
theorem dX7_allApart_94 : decode cX7_allApart 94 = .ok (.iload_n 2, 1) := by decide +kernel
theorem dX7_allApart_95 : decode cX7_allApart 95 = .ok (.iload 5, 2) := by decide +kernel
theorem dX7_allApart_97 : decode cX7_allApart 97 = .ok (.invokestatic 188, 3) := by decide +kernel
theorem dX7_allApart_100 : decode cX7_allApart 100 = .ok (.istore_n 2, 1) := by decide +kernel
theorem dX7_allApart_101 : decode cX7_allApart 101 = .ok (.iinc 4 1, 3) := by decide +kernel
theorem dX7_allApart_104 : decode cX7_allApart 104 = .ok (.goto (-69), 3) := by decide +kernel
theorem dX7_allApart_107 : decode cX7_allApart 107 = .ok (.iinc 3 1, 3) := by decide +kernel
theorem dX7_allApart_110 : decode cX7_allApart 110 = .ok (.goto (-88), 3) := by decide +kernel
theorem dX7_allApart_113 : decode cX7_allApart 113 = .ok (.iload_n 2, 1) := by decide +kernel
theorem dX7_allApart_114 : decode cX7_allApart 114 = .ok (.iconst 1, 1) := by decide +kernel
theorem dX7_allApart_115 : decode cX7_allApart 115 = .ok (.iadd, 1) := by decide +kernel
theorem dX7_allApart_116 : decode cX7_allApart 116 = .ok (.ireturn, 1) := by decide +kernel
theorem dX7_fits_0 : decode cX7_fits 0 = .ok (.iload_n 1, 1) := by decide +kernel
theorem dX7_fits_1 : decode cX7_fits 1 = .ok (.invokestatic 193, 3) := by decide +kernel
theorem dX7_fits_4 : decode cX7_fits 4 = .ok (.ifCond .ne 10, 3) := by decide +kernel
theorem dX7_fits_7 : decode cX7_fits 7 = .ok (.aload_n 0, 1) := by decide +kernel
theorem dX7_fits_8 : decode cX7_fits 8 = .ok (.ldc 68, 2) := by decide +kernel
theorem dX7_fits_10 : decode cX7_fits 10 = .ok (.invokevirtual 69, 3) := by decide +kernel
theorem dX7_fits_13 : decode cX7_fits 13 = .ok (.ireturn, 1) := by decide +kernel
theorem dX7_fits_14 : decode cX7_fits 14 = .ok (.aload_n 0, 1) := by decide +kernel
theorem dX7_fits_15 : decode cX7_fits 15 = .ok (.getfield 55, 3) := by decide +kernel
theorem dX7_fits_18 : decode cX7_fits 18 = .ok (.iload_n 1, 1) := by decide +kernel
theorem dX7_fits_19 : decode cX7_fits 19 = .ok (.aaload, 1) := by decide +kernel
theorem dX7_fits_20 : decode cX7_fits 20 = .ok (.astore_n 2, 1) := by decide +kernel
theorem dX7_fits_21 : decode cX7_fits 21 = .ok (.aload_n 2, 1) := by decide +kernel
theorem dX7_fits_22 : decode cX7_fits 22 = .ok (.getfield 196, 3) := by decide +kernel
theorem dX7_fits_25 : decode cX7_fits 25 = .ok (.ifCond .ne 10, 3) := by decide +kernel
theorem dX7_fits_28 : decode cX7_fits 28 = .ok (.aload_n 0, 1) := by decide +kernel
theorem dX7_fits_29 : decode cX7_fits 29 = .ok (.ldc 199, 2) := by decide +kernel
theorem dX7_fits_31 : decode cX7_fits 31 = .ok (.invokevirtual 69, 3) := by decide +kernel
theorem dX7_fits_34 : decode cX7_fits 34 = .ok (.ireturn, 1) := by decide +kernel
theorem dX7_fits_35 : decode cX7_fits 35 = .ok (.aload_n 2, 1) := by decide +kernel
theorem dX7_fits_36 : decode cX7_fits 36 = .ok (.invokevirtual 200, 3) := by decide +kernel
theorem dX7_fits_39 : decode cX7_fits 39 = .ok (.lstore_n 3, 1) := by decide +kernel
theorem dX7_fits_40 : decode cX7_fits 40 = .ok (.iconst 0, 1) := by decide +kernel
theorem dX7_fits_41 : decode cX7_fits 41 = .ok (.istore 5, 2) := by decide +kernel
theorem dX7_fits_43 : decode cX7_fits 43 = .ok (.iconst 0, 1) := by decide +kernel
theorem dX7_fits_44 : decode cX7_fits 44 = .ok (.istore 6, 2) := by decide +kernel
theorem dX7_fits_46 : decode cX7_fits 46 = .ok (.iload 6, 2) := by decide +kernel
theorem dX7_fits_48 : decode cX7_fits 48 = .ok (.aload_n 0, 1) := by decide +kernel
theorem dX7_fits_49 : decode cX7_fits 49 = .ok (.getfield 89, 3) := by decide +kernel
theorem dX7_fits_52 : decode cX7_fits 52 = .ok (.if_icmp .ge 36, 3) := by decide +kernel
theorem dX7_fits_55 : decode cX7_fits 55 = .ok (.aload_n 0, 1) := by decide +kernel
theorem dX7_fits_56 : decode cX7_fits 56 = .ok (.getfield 18, 3) := by decide +kernel
theorem dX7_fits_59 : decode cX7_fits 59 = .ok (.iload 6, 2) := by decide +kernel
theorem dX7_fits_61 : decode cX7_fits 61 = .ok (.aaload, 1) := by decide +kernel
theorem dX7_fits_62 : decode cX7_fits 62 = .ok (.lload_n 3, 1) := by decide +kernel
theorem dX7_fits_63 : decode cX7_fits 63 = .ok (.aload_n 2, 1) := by decide +kernel
theorem dX7_fits_64 : decode cX7_fits 64 = .ok (.getfield 204, 3) := by decide +kernel
theorem dX7_fits_67 : decode cX7_fits 67 = .ok (.invokevirtual 207, 3) := by decide +kernel
theorem dX7_fits_70 : decode cX7_fits 70 = .ok (.ifCond .eq 12, 3) := by decide +kernel
theorem dX7_fits_73 : decode cX7_fits 73 = .ok (.iload 5, 2) := by decide +kernel
theorem dX7_fits_75 : decode cX7_fits 75 = .ok (.iconst 1, 1) := by decide +kernel
theorem dX7_fits_76 : decode cX7_fits 76 = .ok (.iload 6, 2) := by decide +kernel
theorem dX7_fits_78 : decode cX7_fits 78 = .ok (.ishl, 1) := by decide +kernel
theorem dX7_fits_79 : decode cX7_fits 79 = .ok (.ior, 1) := by decide +kernel
theorem dX7_fits_80 : decode cX7_fits 80 = .ok (.istore 5, 2) := by decide +kernel
theorem dX7_fits_82 : decode cX7_fits 82 = .ok (.iinc 6 1, 3) := by decide +kernel
theorem dX7_fits_85 : decode cX7_fits 85 = .ok (.goto (-39), 3) := by decide +kernel
theorem dX7_fits_88 : decode cX7_fits 88 = .ok (.iload 5, 2) := by decide +kernel
theorem dX7_fits_90 : decode cX7_fits 90 = .ok (.ireturn, 1) := by decide +kernel
theorem dX7_bearing_0 : decode cX7_bearing 0 = .ok (.aload_n 0, 1) := by decide +kernel
theorem dX7_bearing_1 : decode cX7_bearing 1 = .ok (.iload_n 1, 1) := by decide +kernel
theorem dX7_bearing_2 : decode cX7_bearing 2 = .ok (.invokevirtual 108, 3) := by decide +kernel
theorem dX7_bearing_5 : decode cX7_bearing 5 = .ok (.ifCond .eq 17, 3) := by decide +kernel
theorem dX7_bearing_8 : decode cX7_bearing 8 = .ok (.iload_n 2, 1) := by decide +kernel
theorem dX7_bearing_9 : decode cX7_bearing 9 = .ok (.invokestatic 150, 3) := by decide +kernel
theorem dX7_bearing_12 : decode cX7_bearing 12 = .ok (.ifCond .eq 10, 3) := by decide +kernel
theorem dX7_bearing_15 : decode cX7_bearing 15 = .ok (.iload_n 3, 1) := by decide +kernel
theorem dX7_bearing_16 : decode cX7_bearing 16 = .ok (.invokestatic 150, 3) := by decide +kernel
theorem dX7_bearing_19 : decode cX7_bearing 19 = .ok (.ifCond .ne 10, 3) := by decide +kernel
theorem dX7_bearing_22 : decode cX7_bearing 22 = .ok (.aload_n 0, 1) := by decide +kernel
theorem dX7_bearing_23 : decode cX7_bearing 23 = .ok (.ldc 68, 2) := by decide +kernel
theorem dX7_bearing_25 : decode cX7_bearing 25 = .ok (.invokevirtual 69, 3) := by decide +kernel
theorem dX7_bearing_28 : decode cX7_bearing 28 = .ok (.ireturn, 1) := by decide +kernel
theorem dX7_bearing_29 : decode cX7_bearing 29 = .ok (.aload_n 0, 1) := by decide +kernel
theorem dX7_bearing_30 : decode cX7_bearing 30 = .ok (.getfield 211, 3) := by decide +kernel
theorem dX7_bearing_33 : decode cX7_bearing 33 = .ok (.bipush 8, 2) := by decide +kernel
theorem dX7_bearing_35 : decode cX7_bearing 35 = .ok (.if_icmp .lt 10, 3) := by decide +kernel
theorem dX7_bearing_38 : decode cX7_bearing 38 = .ok (.aload_n 0, 1) := by decide +kernel
theorem dX7_bearing_39 : decode cX7_bearing 39 = .ok (.ldc 77, 2) := by decide +kernel
theorem dX7_bearing_41 : decode cX7_bearing 41 = .ok (.invokevirtual 69, 3) := by decide +kernel
theorem dX7_bearing_44 : decode cX7_bearing 44 = .ok (.ireturn, 1) := by decide +kernel
theorem dX7_bearing_45 : decode cX7_bearing 45 = .ok (.aload_n 0, 1) := by decide +kernel
theorem dX7_bearing_46 : decode cX7_bearing 46 = .ok (.iconst 5, 1) := by decide +kernel
theorem dX7_bearing_47 : decode cX7_bearing 47 = .ok (.iconst 0, 1) := by decide +kernel
theorem dX7_bearing_48 : decode cX7_bearing 48 = .ok (.iconst 0, 1) := by decide +kernel
theorem dX7_bearing_49 : decode cX7_bearing 49 = .ok (.invokevirtual 96, 3) := by decide +kernel
theorem dX7_bearing_52 : decode cX7_bearing 52 = .ok (.pop, 1) := by decide +kernel
theorem dX7_bearing_53 : decode cX7_bearing 53 = .ok (.aload_n 0, 1) := by decide +kernel
theorem dX7_bearing_54 : decode cX7_bearing 54 = .ok (.getfield 22, 3) := by decide +kernel
theorem dX7_bearing_57 : decode cX7_bearing 57 = .ok (.aload_n 0, 1) := by decide +kernel
theorem dX7_bearing_58 : decode cX7_bearing 58 = .ok (.getfield 211, 3) := by decide +kernel
theorem dX7_bearing_61 : decode cX7_bearing 61 = .ok (.iload_n 1, 1) := by decide +kernel
theorem dX7_bearing_62 : decode cX7_bearing 62 = .ok (.bipush 16, 2) := by decide +kernel
theorem dX7_bearing_64 : decode cX7_bearing 64 = .ok (.ishl, 1) := by decide +kernel
theorem dX7_bearing_65 : decode cX7_bearing 65 = .ok (.iload_n 2, 1) := by decide +kernel
theorem dX7_bearing_66 : decode cX7_bearing 66 = .ok (.iload_n 3, 1) := by decide +kernel
theorem dX7_bearing_67 : decode cX7_bearing 67 = .ok (.invokestatic 156, 3) := by decide +kernel
theorem dX7_bearing_70 : decode cX7_bearing 70 = .ok (.ior, 1) := by decide +kernel
theorem dX7_bearing_71 : decode cX7_bearing 71 = .ok (.iastore, 1) := by decide +kernel
theorem dX7_bearing_72 : decode cX7_bearing 72 = .ok (.aload_n 0, 1) := by decide +kernel
theorem dX7_bearing_73 : decode cX7_bearing 73 = .ok (.dup, 1) := by decide +kernel
theorem dX7_bearing_74 : decode cX7_bearing 74 = .ok (.getfield 211, 3) := by decide +kernel
theorem dX7_bearing_77 : decode cX7_bearing 77 = .ok (.iconst 1, 1) := by decide +kernel
theorem dX7_bearing_78 : decode cX7_bearing 78 = .ok (.iadd, 1) := by decide +kernel
theorem dX7_bearing_79 : decode cX7_bearing 79 = .ok (.putfield 211, 3) := by decide +kernel
theorem dX7_bearing_82 : decode cX7_bearing 82 = .ok (.aload_n 0, 1) := by decide +kernel
theorem dX7_bearing_83 : decode cX7_bearing 83 = .ok (.getfield 211, 3) := by decide +kernel
theorem dX7_bearing_86 : decode cX7_bearing 86 = .ok (.ireturn, 1) := by decide +kernel
theorem dX7_clear_0 : decode cX7_clear 0 = .ok (.aload_n 0, 1) := by decide +kernel
theorem dX7_clear_1 : decode cX7_clear 1 = .ok (.getfield 211, 3) := by decide +kernel
theorem dX7_clear_4 : decode cX7_clear 4 = .ok (.istore_n 1, 1) := by decide +kernel
theorem dX7_clear_5 : decode cX7_clear 5 = .ok (.aload_n 0, 1) := by decide +kernel
theorem dX7_clear_6 : decode cX7_clear 6 = .ok (.bipush 6, 2) := by decide +kernel
theorem dX7_clear_8 : decode cX7_clear 8 = .ok (.iconst 0, 1) := by decide +kernel
theorem dX7_clear_9 : decode cX7_clear 9 = .ok (.iload_n 1, 1) := by decide +kernel
theorem dX7_clear_10 : decode cX7_clear 10 = .ok (.invokevirtual 96, 3) := by decide +kernel
theorem dX7_clear_13 : decode cX7_clear 13 = .ok (.astore_n 2, 1) := by decide +kernel
theorem dX7_clear_14 : decode cX7_clear 14 = .ok (.aload_n 0, 1) := by decide +kernel
theorem dX7_clear_15 : decode cX7_clear 15 = .ok (.getfield 22, 3) := by decide +kernel
theorem dX7_clear_18 : decode cX7_clear 18 = .ok (.iconst 0, 1) := by decide +kernel
theorem dX7_clear_19 : decode cX7_clear 19 = .ok (.aload_n 2, 1) := by decide +kernel
theorem dX7_clear_20 : decode cX7_clear 20 = .ok (.getfield 214, 3) := by decide +kernel
theorem dX7_clear_23 : decode cX7_clear 23 = .ok (.iconst 0, 1) := by decide +kernel
theorem dX7_clear_24 : decode cX7_clear 24 = .ok (.iload_n 1, 1) := by decide +kernel
theorem dX7_clear_25 : decode cX7_clear 25 = .ok (.invokestatic 219, 3) := by decide +kernel
theorem dX7_clear_28 : decode cX7_clear 28 = .ok (.aload_n 0, 1) := by decide +kernel
theorem dX7_clear_29 : decode cX7_clear 29 = .ok (.iconst 0, 1) := by decide +kernel
theorem dX7_clear_30 : decode cX7_clear 30 = .ok (.putfield 211, 3) := by decide +kernel
theorem dX7_clear_33 : decode cX7_clear 33 = .ok (.iload_n 1, 1) := by decide +kernel
theorem dX7_clear_34 : decode cX7_clear 34 = .ok (.ireturn, 1) := by decide +kernel
theorem dX7_fix_0 : decode cX7_fix 0 = .ok (.aload_n 0, 1) := by decide +kernel
theorem dX7_fix_1 : decode cX7_fix 1 = .ok (.invokevirtual 225, 3) := by decide +kernel
theorem dX7_fix_4 : decode cX7_fix 4 = .ok (.iconst 0, 1) := by decide +kernel
theorem dX7_fix_5 : decode cX7_fix 5 = .ok (.istore_n 2, 1) := by decide +kernel
theorem dX7_fix_6 : decode cX7_fix 6 = .ok (.iconst 0, 1) := by decide +kernel
theorem dX7_fix_7 : decode cX7_fix 7 = .ok (.istore_n 3, 1) := by decide +kernel
theorem dX7_fix_8 : decode cX7_fix 8 = .ok (.iload_n 3, 1) := by decide +kernel
theorem dX7_fix_9 : decode cX7_fix 9 = .ok (.sipush 256, 3) := by decide +kernel
theorem dX7_fix_12 : decode cX7_fix 12 = .ok (.if_icmp .ge 27, 3) := by decide +kernel
theorem dX7_fix_15 : decode cX7_fix 15 = .ok (.aload_n 0, 1) := by decide +kernel
theorem dX7_fix_16 : decode cX7_fix 16 = .ok (.getfield 49, 3) := by decide +kernel
theorem dX7_fix_19 : decode cX7_fix 19 = .ok (.iload_n 3, 1) := by decide +kernel
theorem dX7_fix_20 : decode cX7_fix 20 = .ok (.baload, 1) := by decide +kernel
theorem dX7_fix_21 : decode cX7_fix 21 = .ok (.ifCond .eq 12, 3) := by decide +kernel
theorem dX7_fix_24 : decode cX7_fix 24 = .ok (.iload_n 1, 1) := by decide +kernel
theorem dX7_fix_25 : decode cX7_fix 25 = .ok (.ifCond .eq 5, 3) := by decide +kernel
theorem dX7_fix_28 : decode cX7_fix 28 = .ok (.iload_n 3, 1) := by decide +kernel
theorem dX7_fix_29 : decode cX7_fix 29 = .ok (.ireturn, 1) := by decide +kernel
theorem dX7_fix_30 : decode cX7_fix 30 = .ok (.iinc 2 1, 3) := by decide +kernel
theorem dX7_fix_33 : decode cX7_fix 33 = .ok (.iinc 3 1, 3) := by decide +kernel
theorem dX7_fix_36 : decode cX7_fix 36 = .ok (.goto (-28), 3) := by decide +kernel
theorem dX7_fix_39 : decode cX7_fix 39 = .ok (.iload_n 1, 1) := by decide +kernel
theorem dX7_fix_40 : decode cX7_fix 40 = .ok (.ifCond .eq 12, 3) := by decide +kernel
theorem dX7_fix_43 : decode cX7_fix 43 = .ok (.aload_n 0, 1) := by decide +kernel
theorem dX7_fix_44 : decode cX7_fix 44 = .ok (.ldc 184, 2) := by decide +kernel
theorem dX7_fix_46 : decode cX7_fix 46 = .ok (.invokevirtual 69, 3) := by decide +kernel
theorem dX7_fix_49 : decode cX7_fix 49 = .ok (.goto 4, 3) := by decide +kernel
theorem dX7_fix_52 : decode cX7_fix 52 = .ok (.iload_n 2, 1) := by decide +kernel
theorem dX7_fix_53 : decode cX7_fix 53 = .ok (.ireturn, 1) := by decide +kernel
theorem dX7_may_0 : decode cX7_may 0 = .ok (.iload_n 1, 1) := by decide +kernel
theorem dX7_may_1 : decode cX7_may 1 = .ok (.invokestatic 86, 3) := by decide +kernel
theorem dX7_may_4 : decode cX7_may 4 = .ok (.ifCond .ne 10, 3) := by decide +kernel
theorem dX7_may_7 : decode cX7_may 7 = .ok (.aload_n 0, 1) := by decide +kernel
theorem dX7_may_8 : decode cX7_may 8 = .ok (.ldc 68, 2) := by decide +kernel
theorem dX7_may_10 : decode cX7_may 10 = .ok (.invokevirtual 69, 3) := by decide +kernel
theorem dX7_may_13 : decode cX7_may 13 = .ok (.ireturn, 1) := by decide +kernel
theorem dX7_may_14 : decode cX7_may 14 = .ok (.aload_n 0, 1) := by decide +kernel
theorem dX7_may_15 : decode cX7_may 15 = .ok (.invokevirtual 225, 3) := by decide +kernel
theorem dX7_may_18 : decode cX7_may 18 = .ok (.aload_n 0, 1) := by decide +kernel
theorem dX7_may_19 : decode cX7_may 19 = .ok (.getfield 49, 3) := by decide +kernel
theorem dX7_may_22 : decode cX7_may 22 = .ok (.iload_n 1, 1) := by decide +kernel
theorem dX7_may_23 : decode cX7_may 23 = .ok (.baload, 1) := by decide +kernel
theorem dX7_may_24 : decode cX7_may 24 = .ok (.ifCond .eq 7, 3) := by decide +kernel
theorem dX7_may_27 : decode cX7_may 27 = .ok (.iconst 1, 1) := by decide +kernel
theorem dX7_may_28 : decode cX7_may 28 = .ok (.goto 4, 3) := by decide +kernel
theorem dX7_may_31 : decode cX7_may 31 = .ok (.iconst 0, 1) := by decide +kernel
theorem dX7_may_32 : decode cX7_may 32 = .ok (.ireturn, 1) := by decide +kernel
theorem dX7_fairway_0 : decode cX7_fairway 0 = .ok (.iload_n 1, 1) := by decide +kernel
theorem dX7_fairway_1 : decode cX7_fairway 1 = .ok (.invokestatic 86, 3) := by decide +kernel
theorem dX7_fairway_4 : decode cX7_fairway 4 = .ok (.ifCond .ne 10, 3) := by decide +kernel
theorem dX7_fairway_7 : decode cX7_fairway 7 = .ok (.aload_n 0, 1) := by decide +kernel
theorem dX7_fairway_8 : decode cX7_fairway 8 = .ok (.ldc 68, 2) := by decide +kernel
theorem dX7_fairway_10 : decode cX7_fairway 10 = .ok (.invokevirtual 69, 3) := by decide +kernel
theorem dX7_fairway_13 : decode cX7_fairway 13 = .ok (.ireturn, 1) := by decide +kernel
theorem dX7_fairway_14 : decode cX7_fairway 14 = .ok (.aload_n 0, 1) := by decide +kernel
theorem dX7_fairway_15 : decode cX7_fairway 15 = .ok (.iload_n 1, 1) := by decide +kernel
theorem dX7_fairway_16 : decode cX7_fairway 16 = .ok (.invokevirtual 228, 3) := by decide +kernel
theorem dX7_fairway_19 : decode cX7_fairway 19 = .ok (.ifCond .lt 7, 3) := by decide +kernel
theorem dX7_fairway_22 : decode cX7_fairway 22 = .ok (.iconst 1, 1) := by decide +kernel
theorem dX7_fairway_23 : decode cX7_fairway 23 = .ok (.goto 4, 3) := by decide +kernel
theorem dX7_fairway_26 : decode cX7_fairway 26 = .ok (.iconst 0, 1) := by decide +kernel
theorem dX7_fairway_27 : decode cX7_fairway 27 = .ok (.istore_n 3, 1) := by decide +kernel
theorem dX7_fairway_28 : decode cX7_fairway 28 = .ok (.iload_n 2, 1) := by decide +kernel
theorem dX7_fairway_29 : decode cX7_fairway 29 = .ok (.ifCond .eq 23, 3) := by decide +kernel
theorem dX7_fairway_32 : decode cX7_fairway 32 = .ok (.iload_n 3, 1) := by decide +kernel
theorem dX7_fairway_33 : decode cX7_fairway 33 = .ok (.ifCond .ne 19, 3) := by decide +kernel
theorem dX7_fairway_36 : decode cX7_fairway 36 = .ok (.aload_n 0, 1) := by decide +kernel
theorem dX7_fairway_37 : decode cX7_fairway 37 = .ok (.getfield 231, 3) := by decide +kernel
theorem dX7_fairway_40 : decode cX7_fairway 40 = .ok (.bipush 12, 2) := by decide +kernel
theorem dX7_fairway_42 : decode cX7_fairway 42 = .ok (.if_icmp .lt 10, 3) := by decide +kernel
theorem dX7_fairway_45 : decode cX7_fairway 45 = .ok (.aload_n 0, 1) := by decide +kernel
theorem dX7_fairway_46 : decode cX7_fairway 46 = .ok (.ldc 77, 2) := by decide +kernel
theorem dX7_fairway_48 : decode cX7_fairway 48 = .ok (.invokevirtual 69, 3) := by decide +kernel
theorem dX7_fairway_51 : decode cX7_fairway 51 = .ok (.ireturn, 1) := by decide +kernel
theorem dX7_fairway_52 : decode cX7_fairway 52 = .ok (.aload_n 0, 1) := by decide +kernel
theorem dX7_fairway_53 : decode cX7_fairway 53 = .ok (.bipush 7, 2) := by decide +kernel
theorem dX7_fairway_55 : decode cX7_fairway 55 = .ok (.iload_n 1, 1) := by decide +kernel
theorem dX7_fairway_56 : decode cX7_fairway 56 = .ok (.iload_n 3, 1) := by decide +kernel
theorem dX7_fairway_57 : decode cX7_fairway 57 = .ok (.ifCond .eq 7, 3) := by decide +kernel
theorem dX7_fairway_60 : decode cX7_fairway 60 = .ok (.iconst 1, 1) := by decide +kernel
theorem dX7_fairway_61 : decode cX7_fairway 61 = .ok (.goto 4, 3) := by decide +kernel
theorem dX7_fairway_64 : decode cX7_fairway 64 = .ok (.iconst 0, 1) := by decide +kernel
theorem dX7_fairway_65 : decode cX7_fairway 65 = .ok (.invokevirtual 96, 3) := by decide +kernel
theorem dX7_fairway_68 : decode cX7_fairway 68 = .ok (.pop, 1) := by decide +kernel
theorem dX7_fairway_69 : decode cX7_fairway 69 = .ok (.aload_n 0, 1) := by decide +kernel
theorem dX7_fairway_70 : decode cX7_fairway 70 = .ok (.iload_n 1, 1) := by decide +kernel
theorem dX7_fairway_71 : decode cX7_fairway 71 = .ok (.iload_n 2, 1) := by decide +kernel
theorem dX7_fairway_72 : decode cX7_fairway 72 = .ok (.invokevirtual 234, 3) := by decide +kernel
theorem dX7_fairway_75 : decode cX7_fairway 75 = .ok (.aload_n 0, 1) := by decide +kernel
theorem dX7_fairway_76 : decode cX7_fairway 76 = .ok (.getfield 231, 3) := by decide +kernel
theorem dX7_fairway_79 : decode cX7_fairway 79 = .ok (.ireturn, 1) := by decide +kernel
theorem dX7_kept_0 : decode cX7_kept 0 = .ok (.iconst 0, 1) := by decide +kernel
theorem dX7_kept_1 : decode cX7_kept 1 = .ok (.istore_n 1, 1) := by decide +kernel
theorem dX7_kept_2 : decode cX7_kept 2 = .ok (.iload_n 1, 1) := by decide +kernel
theorem dX7_kept_3 : decode cX7_kept 3 = .ok (.aload_n 0, 1) := by decide +kernel
theorem dX7_kept_4 : decode cX7_kept 4 = .ok (.getfield 231, 3) := by decide +kernel
theorem dX7_kept_7 : decode cX7_kept 7 = .ok (.if_icmp .ge 25, 3) := by decide +kernel
theorem dX7_kept_10 : decode cX7_kept 10 = .ok (.aload_n 0, 1) := by decide +kernel
theorem dX7_kept_11 : decode cX7_kept 11 = .ok (.getfield 29, 3) := by decide +kernel
theorem dX7_kept_14 : decode cX7_kept 14 = .ok (.iload_n 1, 1) := by decide +kernel
theorem dX7_kept_15 : decode cX7_kept 15 = .ok (.aload_n 0, 1) := by decide +kernel
theorem dX7_kept_16 : decode cX7_kept 16 = .ok (.aload_n 0, 1) := by decide +kernel
theorem dX7_kept_17 : decode cX7_kept 17 = .ok (.getfield 26, 3) := by decide +kernel
theorem dX7_kept_20 : decode cX7_kept 20 = .ok (.iload_n 1, 1) := by decide +kernel
theorem dX7_kept_21 : decode cX7_kept 21 = .ok (.iaload, 1) := by decide +kernel
theorem dX7_kept_22 : decode cX7_kept 22 = .ok (.invokevirtual 168, 3) := by decide +kernel
theorem dX7_kept_25 : decode cX7_kept 25 = .ok (.iastore, 1) := by decide +kernel
theorem dX7_kept_26 : decode cX7_kept 26 = .ok (.iinc 1 1, 3) := by decide +kernel
theorem dX7_kept_29 : decode cX7_kept 29 = .ok (.goto (-27), 3) := by decide +kernel
theorem dX7_kept_32 : decode cX7_kept 32 = .ok (.iconst (-1), 1) := by decide +kernel
theorem dX7_kept_33 : decode cX7_kept 33 = .ok (.istore_n 1, 1) := by decide +kernel
theorem dX7_kept_34 : decode cX7_kept 34 = .ok (.iconst 0, 1) := by decide +kernel
theorem dX7_kept_35 : decode cX7_kept 35 = .ok (.istore_n 2, 1) := by decide +kernel
theorem dX7_kept_36 : decode cX7_kept 36 = .ok (.iload_n 2, 1) := by decide +kernel
theorem dX7_kept_37 : decode cX7_kept 37 = .ok (.aload_n 0, 1) := by decide +kernel
theorem dX7_kept_38 : decode cX7_kept 38 = .ok (.invokevirtual 185, 3) := by decide +kernel
theorem dX7_kept_41 : decode cX7_kept 41 = .ok (.if_icmp .gt 44, 3) := by decide +kernel
theorem dX7_kept_44 : decode cX7_kept 44 = .ok (.iload_n 1, 1) := by decide +kernel
theorem dX7_kept_45 : decode cX7_kept 45 = .ok (.ifCond .lt 14, 3) := by decide +kernel
theorem dX7_kept_48 : decode cX7_kept 48 = .ok (.iload_n 2, 1) := by decide +kernel
theorem dX7_kept_49 : decode cX7_kept 49 = .ok (.invokestatic 238, 3) := by decide +kernel
theorem dX7_kept_52 : decode cX7_kept 52 = .ok (.iload_n 1, 1) := by decide +kernel
theorem dX7_kept_53 : decode cX7_kept 53 = .ok (.invokestatic 238, 3) := by decide +kernel
theorem dX7_kept_56 : decode cX7_kept 56 = .ok (.if_icmp .ge 7, 3) := by decide +kernel
theorem dX7_kept_59 : decode cX7_kept 59 = .ok (.iconst 1, 1) := by decide +kernel
theorem dX7_kept_60 : decode cX7_kept 60 = .ok (.goto 4, 3) := by decide +kernel
theorem dX7_kept_63 : decode cX7_kept 63 = .ok (.iconst 0, 1) := by decide +kernel
theorem dX7_kept_64 : decode cX7_kept 64 = .ok (.istore_n 3, 1) := by decide +kernel
theorem dX7_kept_65 : decode cX7_kept 65 = .ok (.iload_n 3, 1) := by decide +kernel
theorem dX7_kept_66 : decode cX7_kept 66 = .ok (.ifCond .eq 13, 3) := by decide +kernel
theorem dX7_kept_69 : decode cX7_kept 69 = .ok (.aload_n 0, 1) := by decide +kernel
theorem dX7_kept_70 : decode cX7_kept 70 = .ok (.iload_n 2, 1) := by decide +kernel
theorem dX7_kept_71 : decode cX7_kept 71 = .ok (.invokevirtual 242, 3) := by decide +kernel
theorem dX7_kept_74 : decode cX7_kept 74 = .ok (.ifCond .eq 5, 3) := by decide +kernel
theorem dX7_kept_77 : decode cX7_kept 77 = .ok (.iload_n 2, 1) := by decide +kernel
theorem dX7_kept_78 : decode cX7_kept 78 = .ok (.istore_n 1, 1) := by decide +kernel
theorem dX7_kept_79 : decode cX7_kept 79 = .ok (.iinc 2 1, 3) := by decide +kernel
theorem dX7_kept_82 : decode cX7_kept 82 = .ok (.goto (-46), 3) := by decide +kernel
theorem dX7_kept_85 : decode cX7_kept 85 = .ok (.iload_n 1, 1) := by decide +kernel
theorem dX7_kept_86 : decode cX7_kept 86 = .ok (.ifCond .ge 12, 3) := by decide +kernel
theorem dX7_kept_89 : decode cX7_kept 89 = .ok (.aload_n 0, 1) := by decide +kernel
theorem dX7_kept_90 : decode cX7_kept 90 = .ok (.ldc 184, 2) := by decide +kernel
theorem dX7_kept_92 : decode cX7_kept 92 = .ok (.invokevirtual 69, 3) := by decide +kernel
theorem dX7_kept_95 : decode cX7_kept 95 = .ok (.goto 4, 3) := by decide +kernel
theorem dX7_kept_98 : decode cX7_kept 98 = .ok (.iload_n 1, 1) := by decide +kernel
theorem dX7_kept_99 : decode cX7_kept 99 = .ok (.ireturn, 1) := by decide +kernel
theorem dX7_word_0 : decode cX7_word 0 = .ok (.aload_n 0, 1) := by decide +kernel
theorem dX7_word_1 : decode cX7_word 1 = .ok (.iload_n 1, 1) := by decide +kernel
theorem dX7_word_2 : decode cX7_word 2 = .ok (.invokevirtual 108, 3) := by decide +kernel
theorem dX7_word_5 : decode cX7_word 5 = .ok (.ifCond .eq 21, 3) := by decide +kernel
theorem dX7_word_8 : decode cX7_word 8 = .ok (.iload_n 2, 1) := by decide +kernel
theorem dX7_word_9 : decode cX7_word 9 = .ok (.ifCond .lt 17, 3) := by decide +kernel
theorem dX7_word_12 : decode cX7_word 12 = .ok (.iload_n 2, 1) := by decide +kernel
theorem dX7_word_13 : decode cX7_word 13 = .ok (.sipush 9999, 3) := by decide +kernel
theorem dX7_word_16 : decode cX7_word 16 = .ok (.if_icmp .gt 10, 3) := by decide +kernel
theorem dX7_word_19 : decode cX7_word 19 = .ok (.iload_n 3, 1) := by decide +kernel
theorem dX7_word_20 : decode cX7_word 20 = .ok (.invokestatic 245, 3) := by decide +kernel
theorem dX7_word_23 : decode cX7_word 23 = .ok (.ifCond .ne 10, 3) := by decide +kernel
theorem dX7_word_26 : decode cX7_word 26 = .ok (.aload_n 0, 1) := by decide +kernel
theorem dX7_word_27 : decode cX7_word 27 = .ok (.ldc 68, 2) := by decide +kernel
theorem dX7_word_29 : decode cX7_word 29 = .ok (.invokevirtual 69, 3) := by decide +kernel
theorem dX7_word_32 : decode cX7_word 32 = .ok (.ireturn, 1) := by decide +kernel
theorem dX7_word_33 : decode cX7_word 33 = .ok (.iload_n 2, 1) := by decide +kernel
theorem dX7_word_34 : decode cX7_word 34 = .ok (.bipush 100, 2) := by decide +kernel
theorem dX7_word_36 : decode cX7_word 36 = .ok (.idiv, 1) := by decide +kernel
theorem dX7_word_37 : decode cX7_word 37 = .ok (.istore 5, 2) := by decide +kernel
theorem dX7_word_39 : decode cX7_word 39 = .ok (.iload_n 2, 1) := by decide +kernel
theorem dX7_word_40 : decode cX7_word 40 = .ok (.bipush 100, 2) := by decide +kernel
theorem dX7_word_42 : decode cX7_word 42 = .ok (.irem, 1) := by decide +kernel
theorem dX7_word_43 : decode cX7_word 43 = .ok (.istore 6, 2) := by decide +kernel
theorem dX7_word_45 : decode cX7_word 45 = .ok (.iload 5, 2) := by decide +kernel
theorem dX7_word_47 : decode cX7_word 47 = .ok (.iload 6, 2) := by decide +kernel
theorem dX7_word_49 : decode cX7_word 49 = .ok (.if_icmp .gt 14, 3) := by decide +kernel
theorem dX7_word_52 : decode cX7_word 52 = .ok (.iload_n 3, 1) := by decide +kernel
theorem dX7_word_53 : decode cX7_word 53 = .ok (.aload_n 0, 1) := by decide +kernel
theorem dX7_word_54 : decode cX7_word 54 = .ok (.getfield 35, 3) := by decide +kernel
theorem dX7_word_57 : decode cX7_word 57 = .ok (.invokevirtual 248, 3) := by decide +kernel
theorem dX7_word_60 : decode cX7_word 60 = .ok (.if_icmp .ge 10, 3) := by decide +kernel
theorem dX7_word_63 : decode cX7_word 63 = .ok (.aload_n 0, 1) := by decide +kernel
theorem dX7_word_64 : decode cX7_word 64 = .ok (.ldc 160, 2) := by decide +kernel
theorem dX7_word_66 : decode cX7_word 66 = .ok (.invokevirtual 69, 3) := by decide +kernel
theorem dX7_word_69 : decode cX7_word 69 = .ok (.ireturn, 1) := by decide +kernel
theorem dX7_word_70 : decode cX7_word 70 = .ok (.aload_n 0, 1) := by decide +kernel
theorem dX7_word_71 : decode cX7_word 71 = .ok (.getfield 35, 3) := by decide +kernel
theorem dX7_word_74 : decode cX7_word 74 = .ok (.getfield 251, 3) := by decide +kernel
theorem dX7_word_77 : decode cX7_word 77 = .ok (.bipush 20, 2) := by decide +kernel
theorem dX7_word_79 : decode cX7_word 79 = .ok (.if_icmp .lt 10, 3) := by decide +kernel
theorem dX7_word_82 : decode cX7_word 82 = .ok (.aload_n 0, 1) := by decide +kernel
theorem dX7_word_83 : decode cX7_word 83 = .ok (.ldc 77, 2) := by decide +kernel
theorem dX7_word_85 : decode cX7_word 85 = .ok (.invokevirtual 69, 3) := by decide +kernel
theorem dX7_word_88 : decode cX7_word 88 = .ok (.ireturn, 1) := by decide +kernel
theorem dX7_word_89 : decode cX7_word 89 = .ok (.aload_n 0, 1) := by decide +kernel
theorem dX7_word_90 : decode cX7_word 90 = .ok (.bipush 8, 2) := by decide +kernel
theorem dX7_word_92 : decode cX7_word 92 = .ok (.iconst 0, 1) := by decide +kernel
theorem dX7_word_93 : decode cX7_word 93 = .ok (.iconst 0, 1) := by decide +kernel
theorem dX7_word_94 : decode cX7_word 94 = .ok (.invokevirtual 96, 3) := by decide +kernel
theorem dX7_word_97 : decode cX7_word 97 = .ok (.pop, 1) := by decide +kernel
theorem dX7_word_98 : decode cX7_word 98 = .ok (.aload_n 0, 1) := by decide +kernel
theorem dX7_word_99 : decode cX7_word 99 = .ok (.getfield 35, 3) := by decide +kernel
theorem dX7_word_102 : decode cX7_word 102 = .ok (.iload_n 1, 1) := by decide +kernel
theorem dX7_word_103 : decode cX7_word 103 = .ok (.iload 5, 2) := by decide +kernel
theorem dX7_word_105 : decode cX7_word 105 = .ok (.iload 6, 2) := by decide +kernel
theorem dX7_word_107 : decode cX7_word 107 = .ok (.iload_n 3, 1) := by decide +kernel
theorem dX7_word_108 : decode cX7_word 108 = .ok (.iload 4, 2) := by decide +kernel
theorem dX7_word_110 : decode cX7_word 110 = .ok (.invokevirtual 252, 3) := by decide +kernel
theorem dX7_word_113 : decode cX7_word 113 = .ok (.aload_n 0, 1) := by decide +kernel
theorem dX7_word_114 : decode cX7_word 114 = .ok (.getfield 35, 3) := by decide +kernel
theorem dX7_word_117 : decode cX7_word 117 = .ok (.getfield 251, 3) := by decide +kernel
theorem dX7_word_120 : decode cX7_word 120 = .ok (.ireturn, 1) := by decide +kernel
theorem dX7_out_0 : decode cX7_out 0 = .ok (.aload_n 0, 1) := by decide +kernel
theorem dX7_out_1 : decode cX7_out 1 = .ok (.iload_n 1, 1) := by decide +kernel
theorem dX7_out_2 : decode cX7_out 2 = .ok (.invokevirtual 108, 3) := by decide +kernel
theorem dX7_out_5 : decode cX7_out 5 = .ok (.ifCond .eq 20, 3) := by decide +kernel
theorem dX7_out_8 : decode cX7_out 8 = .ok (.iload_n 2, 1) := by decide +kernel
theorem dX7_out_9 : decode cX7_out 9 = .ok (.ifCond .lt 16, 3) := by decide +kernel
theorem dX7_out_12 : decode cX7_out 12 = .ok (.iload_n 2, 1) := by decide +kernel
theorem dX7_out_13 : decode cX7_out 13 = .ok (.bipush 99, 2) := by decide +kernel
theorem dX7_out_15 : decode cX7_out 15 = .ok (.if_icmp .gt 10, 3) := by decide +kernel
theorem dX7_out_18 : decode cX7_out 18 = .ok (.iload_n 3, 1) := by decide +kernel
theorem dX7_out_19 : decode cX7_out 19 = .ok (.invokestatic 245, 3) := by decide +kernel
theorem dX7_out_22 : decode cX7_out 22 = .ok (.ifCond .ne 10, 3) := by decide +kernel
theorem dX7_out_25 : decode cX7_out 25 = .ok (.aload_n 0, 1) := by decide +kernel
theorem dX7_out_26 : decode cX7_out 26 = .ok (.ldc 68, 2) := by decide +kernel
theorem dX7_out_28 : decode cX7_out 28 = .ok (.invokevirtual 69, 3) := by decide +kernel
theorem dX7_out_31 : decode cX7_out 31 = .ok (.ireturn, 1) := by decide +kernel
theorem dX7_out_32 : decode cX7_out 32 = .ok (.aload_n 0, 1) := by decide +kernel
theorem dX7_out_33 : decode cX7_out 33 = .ok (.getfield 35, 3) := by decide +kernel
theorem dX7_out_36 : decode cX7_out 36 = .ok (.iload_n 1, 1) := by decide +kernel
theorem dX7_out_37 : decode cX7_out 37 = .ok (.iload_n 2, 1) := by decide +kernel
theorem dX7_out_38 : decode cX7_out 38 = .ok (.iload_n 3, 1) := by decide +kernel
theorem dX7_out_39 : decode cX7_out 39 = .ok (.invokevirtual 255, 3) := by decide +kernel
theorem dX7_out_42 : decode cX7_out 42 = .ok (.ifCond .eq 7, 3) := by decide +kernel
theorem dX7_out_45 : decode cX7_out 45 = .ok (.iconst 1, 1) := by decide +kernel
theorem dX7_out_46 : decode cX7_out 46 = .ok (.goto 4, 3) := by decide +kernel
theorem dX7_out_49 : decode cX7_out 49 = .ok (.iconst 0, 1) := by decide +kernel
theorem dX7_out_50 : decode cX7_out 50 = .ok (.ireturn, 1) := by decide +kernel
theorem dX7_keeper_0 : decode cX7_keeper 0 = .ok (.aload_n 0, 1) := by decide +kernel
theorem dX7_keeper_1 : decode cX7_keeper 1 = .ok (.iload_n 1, 1) := by decide +kernel
theorem dX7_keeper_2 : decode cX7_keeper 2 = .ok (.invokevirtual 108, 3) := by decide +kernel
theorem dX7_keeper_5 : decode cX7_keeper 5 = .ok (.ifCond .eq 10, 3) := by decide +kernel
theorem dX7_keeper_8 : decode cX7_keeper 8 = .ok (.iload_n 2, 1) := by decide +kernel
theorem dX7_keeper_9 : decode cX7_keeper 9 = .ok (.invokestatic 174, 3) := by decide +kernel
theorem dX7_keeper_12 : decode cX7_keeper 12 = .ok (.ifCond .ne 10, 3) := by decide +kernel
theorem dX7_keeper_15 : decode cX7_keeper 15 = .ok (.aload_n 0, 1) := by decide +kernel
theorem dX7_keeper_16 : decode cX7_keeper 16 = .ok (.ldc 68, 2) := by decide +kernel
theorem dX7_keeper_18 : decode cX7_keeper 18 = .ok (.invokevirtual 69, 3) := by decide +kernel
theorem dX7_keeper_21 : decode cX7_keeper 21 = .ok (.ireturn, 1) := by decide +kernel
theorem dX7_keeper_22 : decode cX7_keeper 22 = .ok (.aload_n 0, 1) := by decide +kernel
theorem dX7_keeper_23 : decode cX7_keeper 23 = .ok (.getfield 18, 3) := by decide +kernel
theorem dX7_keeper_26 : decode cX7_keeper 26 = .ok (.iload_n 1, 1) := by decide +kernel
theorem dX7_keeper_27 : decode cX7_keeper 27 = .ok (.aaload, 1) := by decide +kernel
theorem dX7_keeper_28 : decode cX7_keeper 28 = .ok (.astore_n 3, 1) := by decide +kernel
theorem dX7_keeper_29 : decode cX7_keeper 29 = .ok (.aload_n 3, 1) := by decide +kernel
theorem dX7_keeper_30 : decode cX7_keeper 30 = .ok (.invokevirtual 259, 3) := by decide +kernel
theorem dX7_keeper_33 : decode cX7_keeper 33 = .ok (.ifCond .ne 10, 3) := by decide +kernel
theorem dX7_keeper_36 : decode cX7_keeper 36 = .ok (.aload_n 0, 1) := by decide +kernel
theorem dX7_keeper_37 : decode cX7_keeper 37 = .ok (.ldc 118, 2) := by decide +kernel
theorem dX7_keeper_39 : decode cX7_keeper 39 = .ok (.invokevirtual 69, 3) := by decide +kernel
theorem dX7_keeper_42 : decode cX7_keeper 42 = .ok (.ireturn, 1) := by decide +kernel
theorem dX7_keeper_43 : decode cX7_keeper 43 = .ok (.aload_n 3, 1) := by decide +kernel
theorem dX7_keeper_44 : decode cX7_keeper 44 = .ok (.getfield 263, 3) := by decide +kernel
theorem dX7_keeper_47 : decode cX7_keeper 47 = .ok (.istore 4, 2) := by decide +kernel
theorem dX7_keeper_49 : decode cX7_keeper 49 = .ok (.aload_n 0, 1) := by decide +kernel
theorem dX7_keeper_50 : decode cX7_keeper 50 = .ok (.bipush 9, 2) := by decide +kernel
theorem dX7_keeper_52 : decode cX7_keeper 52 = .ok (.iload_n 1, 1) := by decide +kernel
theorem dX7_keeper_53 : decode cX7_keeper 53 = .ok (.iload 4, 2) := by decide +kernel
theorem dX7_keeper_55 : decode cX7_keeper 55 = .ok (.invokevirtual 96, 3) := by decide +kernel
theorem dX7_keeper_58 : decode cX7_keeper 58 = .ok (.pop, 1) := by decide +kernel
theorem dX7_keeper_59 : decode cX7_keeper 59 = .ok (.aload_n 3, 1) := by decide +kernel
theorem dX7_keeper_60 : decode cX7_keeper 60 = .ok (.iload_n 2, 1) := by decide +kernel
theorem dX7_keeper_61 : decode cX7_keeper 61 = .ok (.putfield 263, 3) := by decide +kernel
theorem dX7_keeper_64 : decode cX7_keeper 64 = .ok (.iload 4, 2) := by decide +kernel
theorem dX7_keeper_66 : decode cX7_keeper 66 = .ok (.ireturn, 1) := by decide +kernel
theorem dX7_limit_0 : decode cX7_limit 0 = .ok (.aload_n 0, 1) := by decide +kernel
theorem dX7_limit_1 : decode cX7_limit 1 = .ok (.iload_n 1, 1) := by decide +kernel
theorem dX7_limit_2 : decode cX7_limit 2 = .ok (.invokevirtual 108, 3) := by decide +kernel
theorem dX7_limit_5 : decode cX7_limit 5 = .ok (.ifCond .eq 13, 3) := by decide +kernel
theorem dX7_limit_8 : decode cX7_limit 8 = .ok (.iload_n 2, 1) := by decide +kernel
theorem dX7_limit_9 : decode cX7_limit 9 = .ok (.ifCond .lt 9, 3) := by decide +kernel
theorem dX7_limit_12 : decode cX7_limit 12 = .ok (.iload_n 2, 1) := by decide +kernel
theorem dX7_limit_13 : decode cX7_limit 13 = .ok (.bipush 9, 2) := by decide +kernel
theorem dX7_limit_15 : decode cX7_limit 15 = .ok (.if_icmp .le 10, 3) := by decide +kernel
theorem dX7_limit_18 : decode cX7_limit 18 = .ok (.aload_n 0, 1) := by decide +kernel
theorem dX7_limit_19 : decode cX7_limit 19 = .ok (.ldc 68, 2) := by decide +kernel
theorem dX7_limit_21 : decode cX7_limit 21 = .ok (.invokevirtual 69, 3) := by decide +kernel
theorem dX7_limit_24 : decode cX7_limit 24 = .ok (.ireturn, 1) := by decide +kernel
theorem dX7_limit_25 : decode cX7_limit 25 = .ok (.aload_n 0, 1) := by decide +kernel
theorem dX7_limit_26 : decode cX7_limit 26 = .ok (.getfield 18, 3) := by decide +kernel
theorem dX7_limit_29 : decode cX7_limit 29 = .ok (.iload_n 1, 1) := by decide +kernel
theorem dX7_limit_30 : decode cX7_limit 30 = .ok (.aaload, 1) := by decide +kernel
theorem dX7_limit_31 : decode cX7_limit 31 = .ok (.astore_n 3, 1) := by decide +kernel
theorem dX7_limit_32 : decode cX7_limit 32 = .ok (.aload_n 3, 1) := by decide +kernel
theorem dX7_limit_33 : decode cX7_limit 33 = .ok (.invokevirtual 259, 3) := by decide +kernel
theorem dX7_limit_36 : decode cX7_limit 36 = .ok (.ifCond .ne 10, 3) := by decide +kernel
theorem dX7_limit_39 : decode cX7_limit 39 = .ok (.aload_n 0, 1) := by decide +kernel
theorem dX7_limit_40 : decode cX7_limit 40 = .ok (.ldc 118, 2) := by decide +kernel
theorem dX7_limit_42 : decode cX7_limit 42 = .ok (.invokevirtual 69, 3) := by decide +kernel
theorem dX7_limit_45 : decode cX7_limit 45 = .ok (.ireturn, 1) := by decide +kernel
theorem dX7_limit_46 : decode cX7_limit 46 = .ok (.aload_n 3, 1) := by decide +kernel
theorem dX7_limit_47 : decode cX7_limit 47 = .ok (.getfield 266, 3) := by decide +kernel
theorem dX7_limit_50 : decode cX7_limit 50 = .ok (.istore 4, 2) := by decide +kernel
theorem dX7_limit_52 : decode cX7_limit 52 = .ok (.aload_n 0, 1) := by decide +kernel
theorem dX7_limit_53 : decode cX7_limit 53 = .ok (.bipush 10, 2) := by decide +kernel
theorem dX7_limit_55 : decode cX7_limit 55 = .ok (.iload_n 1, 1) := by decide +kernel
theorem dX7_limit_56 : decode cX7_limit 56 = .ok (.iload 4, 2) := by decide +kernel
theorem dX7_limit_58 : decode cX7_limit 58 = .ok (.invokevirtual 96, 3) := by decide +kernel
theorem dX7_limit_61 : decode cX7_limit 61 = .ok (.pop, 1) := by decide +kernel
theorem dX7_limit_62 : decode cX7_limit 62 = .ok (.aload_n 3, 1) := by decide +kernel
theorem dX7_limit_63 : decode cX7_limit 63 = .ok (.iload_n 2, 1) := by decide +kernel
theorem dX7_limit_64 : decode cX7_limit 64 = .ok (.putfield 266, 3) := by decide +kernel
theorem dX7_limit_67 : decode cX7_limit 67 = .ok (.iload 4, 2) := by decide +kernel
theorem dX7_limit_69 : decode cX7_limit 69 = .ok (.ireturn, 1) := by decide +kernel
theorem dX7_seas_0 : decode cX7_seas 0 = .ok (.iload_n 1, 1) := by decide +kernel
theorem dX7_seas_1 : decode cX7_seas 1 = .ok (.invokestatic 193, 3) := by decide +kernel
theorem dX7_seas_4 : decode cX7_seas 4 = .ok (.ifCond .ne 10, 3) := by decide +kernel
theorem dX7_seas_7 : decode cX7_seas 7 = .ok (.aload_n 0, 1) := by decide +kernel
theorem dX7_seas_8 : decode cX7_seas 8 = .ok (.ldc 68, 2) := by decide +kernel
theorem dX7_seas_10 : decode cX7_seas 10 = .ok (.invokevirtual 69, 3) := by decide +kernel
theorem dX7_seas_13 : decode cX7_seas 13 = .ok (.ireturn, 1) := by decide +kernel
theorem dX7_seas_14 : decode cX7_seas 14 = .ok (.aload_n 0, 1) := by decide +kernel
theorem dX7_seas_15 : decode cX7_seas 15 = .ok (.getfield 55, 3) := by decide +kernel
theorem dX7_seas_18 : decode cX7_seas 18 = .ok (.iload_n 1, 1) := by decide +kernel
theorem dX7_seas_19 : decode cX7_seas 19 = .ok (.aaload, 1) := by decide +kernel
theorem dX7_seas_20 : decode cX7_seas 20 = .ok (.astore_n 2, 1) := by decide +kernel
theorem dX7_seas_21 : decode cX7_seas 21 = .ok (.aload_n 2, 1) := by decide +kernel
theorem dX7_seas_22 : decode cX7_seas 22 = .ok (.getfield 196, 3) := by decide +kernel
theorem dX7_seas_25 : decode cX7_seas 25 = .ok (.ifCond .ne 10, 3) := by decide +kernel
theorem dX7_seas_28 : decode cX7_seas 28 = .ok (.aload_n 0, 1) := by decide +kernel
theorem dX7_seas_29 : decode cX7_seas 29 = .ok (.ldc 199, 2) := by decide +kernel
theorem dX7_seas_31 : decode cX7_seas 31 = .ok (.invokevirtual 69, 3) := by decide +kernel
theorem dX7_seas_34 : decode cX7_seas 34 = .ok (.ireturn, 1) := by decide +kernel
theorem dX7_seas_35 : decode cX7_seas 35 = .ok (.aload_n 0, 1) := by decide +kernel
theorem dX7_seas_36 : decode cX7_seas 36 = .ok (.bipush 11, 2) := by decide +kernel
theorem dX7_seas_38 : decode cX7_seas 38 = .ok (.iconst 0, 1) := by decide +kernel
theorem dX7_seas_39 : decode cX7_seas 39 = .ok (.iconst 0, 1) := by decide +kernel
theorem dX7_seas_40 : decode cX7_seas 40 = .ok (.invokevirtual 96, 3) := by decide +kernel
theorem dX7_seas_43 : decode cX7_seas 43 = .ok (.astore_n 3, 1) := by decide +kernel
theorem dX7_seas_44 : decode cX7_seas 44 = .ok (.aload_n 0, 1) := by decide +kernel
theorem dX7_seas_45 : decode cX7_seas 45 = .ok (.getfield 39, 3) := by decide +kernel
theorem dX7_seas_48 : decode cX7_seas 48 = .ok (.iconst 0, 1) := by decide +kernel
theorem dX7_seas_49 : decode cX7_seas 49 = .ok (.aload_n 3, 1) := by decide +kernel
theorem dX7_seas_50 : decode cX7_seas 50 = .ok (.getfield 214, 3) := by decide +kernel
theorem dX7_seas_53 : decode cX7_seas 53 = .ok (.iconst 0, 1) := by decide +kernel
theorem dX7_seas_54 : decode cX7_seas 54 = .ok (.bipush 20, 2) := by decide +kernel
theorem dX7_seas_56 : decode cX7_seas 56 = .ok (.invokestatic 219, 3) := by decide +kernel
theorem dX7_seas_59 : decode cX7_seas 59 = .ok (.iconst 0, 1) := by decide +kernel
theorem dX7_seas_60 : decode cX7_seas 60 = .ok (.istore 4, 2) := by decide +kernel
theorem dX7_seas_62 : decode cX7_seas 62 = .ok (.iconst 0, 1) := by decide +kernel
theorem dX7_seas_63 : decode cX7_seas 63 = .ok (.istore 5, 2) := by decide +kernel
theorem dX7_seas_65 : decode cX7_seas 65 = .ok (.iload 5, 2) := by decide +kernel
theorem dX7_seas_67 : decode cX7_seas 67 = .ok (.aload_n 2, 1) := by decide +kernel
theorem dX7_seas_68 : decode cX7_seas 68 = .ok (.getfield 204, 3) := by decide +kernel
theorem dX7_seas_71 : decode cX7_seas 71 = .ok (.if_icmp .ge 49, 3) := by decide +kernel
theorem dX7_seas_74 : decode cX7_seas 74 = .ok (.iload 5, 2) := by decide +kernel
theorem dX7_seas_76 : decode cX7_seas 76 = .ok (.bipush 20, 2) := by decide +kernel
theorem dX7_seas_78 : decode cX7_seas 78 = .ok (.if_icmp .ge 42, 3) := by decide +kernel
theorem dX7_seas_81 : decode cX7_seas 81 = .ok (.aload_n 2, 1) := by decide +kernel
theorem dX7_seas_82 : decode cX7_seas 82 = .ok (.getfield 269, 3) := by decide +kernel
theorem dX7_seas_85 : decode cX7_seas 85 = .ok (.iload 5, 2) := by decide +kernel
theorem dX7_seas_87 : decode cX7_seas 87 = .ok (.iaload, 1) := by decide +kernel
theorem dX7_seas_88 : decode cX7_seas 88 = .ok (.istore 6, 2) := by decide +kernel
theorem dX7_seas_90 : decode cX7_seas 90 = .ok (.iload 6, 2) := by decide +kernel
theorem dX7_seas_92 : decode cX7_seas 92 = .ok (.ifCond .lt 22, 3) := by decide +kernel
theorem dX7_seas_95 : decode cX7_seas 95 = .ok (.iload 6, 2) := by decide +kernel
theorem dX7_seas_97 : decode cX7_seas 97 = .ok (.bipush 9, 2) := by decide +kernel
theorem dX7_seas_99 : decode cX7_seas 99 = .ok (.if_icmp .gt 15, 3) := by decide +kernel
theorem dX7_seas_102 : decode cX7_seas 102 = .ok (.aload_n 0, 1) := by decide +kernel
theorem dX7_seas_103 : decode cX7_seas 103 = .ok (.getfield 39, 3) := by decide +kernel
theorem dX7_seas_106 : decode cX7_seas 106 = .ok (.iload 5, 2) := by decide +kernel
theorem dX7_seas_108 : decode cX7_seas 108 = .ok (.iload 6, 2) := by decide +kernel
theorem dX7_seas_110 : decode cX7_seas 110 = .ok (.iastore, 1) := by decide +kernel
theorem dX7_seas_111 : decode cX7_seas 111 = .ok (.iinc 4 1, 3) := by decide +kernel
theorem dX7_seas_114 : decode cX7_seas 114 = .ok (.iinc 5 1, 3) := by decide +kernel
theorem dX7_seas_117 : decode cX7_seas 117 = .ok (.goto (-52), 3) := by decide +kernel
theorem dX7_seas_120 : decode cX7_seas 120 = .ok (.iload 4, 2) := by decide +kernel
theorem dX7_seas_122 : decode cX7_seas 122 = .ok (.ireturn, 1) := by decide +kernel
theorem dX7_overdue_0 : decode cX7_overdue 0 = .ok (.aload_n 0, 1) := by decide +kernel
theorem dX7_overdue_1 : decode cX7_overdue 1 = .ok (.invokevirtual 272, 3) := by decide +kernel
theorem dX7_overdue_4 : decode cX7_overdue 4 = .ok (.aload_n 0, 1) := by decide +kernel
theorem dX7_overdue_5 : decode cX7_overdue 5 = .ok (.getfield 45, 3) := by decide +kernel
theorem dX7_overdue_8 : decode cX7_overdue 8 = .ok (.getfield 275, 3) := by decide +kernel
theorem dX7_overdue_11 : decode cX7_overdue 11 = .ok (.ireturn, 1) := by decide +kernel
theorem dX7_landing_0 : decode cX7_landing 0 = .ok (.iload_n 1, 1) := by decide +kernel
theorem dX7_landing_1 : decode cX7_landing 1 = .ok (.invokestatic 174, 3) := by decide +kernel
theorem dX7_landing_4 : decode cX7_landing 4 = .ok (.ifCond .ne 10, 3) := by decide +kernel
theorem dX7_landing_7 : decode cX7_landing 7 = .ok (.aload_n 0, 1) := by decide +kernel
theorem dX7_landing_8 : decode cX7_landing 8 = .ok (.ldc 68, 2) := by decide +kernel
theorem dX7_landing_10 : decode cX7_landing 10 = .ok (.invokevirtual 69, 3) := by decide +kernel
theorem dX7_landing_13 : decode cX7_landing 13 = .ok (.ireturn, 1) := by decide +kernel
theorem dX7_landing_14 : decode cX7_landing 14 = .ok (.iload_n 1, 1) := by decide +kernel
theorem dX7_landing_15 : decode cX7_landing 15 = .ok (.aload_n 0, 1) := by decide +kernel
theorem dX7_landing_16 : decode cX7_landing 16 = .ok (.getfield 177, 3) := by decide +kernel
theorem dX7_landing_19 : decode cX7_landing 19 = .ok (.if_icmp .ge 10, 3) := by decide +kernel
theorem dX7_landing_22 : decode cX7_landing 22 = .ok (.aload_n 0, 1) := by decide +kernel
theorem dX7_landing_23 : decode cX7_landing 23 = .ok (.ldc 184, 2) := by decide +kernel
theorem dX7_landing_25 : decode cX7_landing 25 = .ok (.invokevirtual 69, 3) := by decide +kernel
theorem dX7_landing_28 : decode cX7_landing 28 = .ok (.ireturn, 1) := by decide +kernel
theorem dX7_landing_29 : decode cX7_landing 29 = .ok (.aload_n 0, 1) := by decide +kernel
theorem dX7_landing_30 : decode cX7_landing 30 = .ok (.invokevirtual 272, 3) := by decide +kernel
theorem dX7_landing_33 : decode cX7_landing 33 = .ok (.aload_n 0, 1) := by decide +kernel
theorem dX7_landing_34 : decode cX7_landing 34 = .ok (.getfield 45, 3) := by decide +kernel
theorem dX7_landing_37 : decode cX7_landing 37 = .ok (.getfield 278, 3) := by decide +kernel
theorem dX7_landing_40 : decode cX7_landing 40 = .ok (.iload_n 1, 1) := by decide +kernel
theorem dX7_landing_41 : decode cX7_landing 41 = .ok (.iaload, 1) := by decide +kernel
theorem dX7_landing_42 : decode cX7_landing 42 = .ok (.istore_n 2, 1) := by decide +kernel
theorem dX7_landing_43 : decode cX7_landing 43 = .ok (.iload_n 2, 1) := by decide +kernel
theorem dX7_landing_44 : decode cX7_landing 44 = .ok (.ifCond .ge 12, 3) := by decide +kernel
theorem dX7_landing_47 : decode cX7_landing 47 = .ok (.aload_n 0, 1) := by decide +kernel
theorem dX7_landing_48 : decode cX7_landing 48 = .ok (.ldc 184, 2) := by decide +kernel
theorem dX7_landing_50 : decode cX7_landing 50 = .ok (.invokevirtual 69, 3) := by decide +kernel
theorem dX7_landing_53 : decode cX7_landing 53 = .ok (.goto 4, 3) := by decide +kernel
theorem dX7_landing_56 : decode cX7_landing 56 = .ok (.iload_n 2, 1) := by decide +kernel
theorem dX7_landing_57 : decode cX7_landing 57 = .ok (.ireturn, 1) := by decide +kernel
theorem dX7_proves_0 : decode cX7_proves 0 = .ok (.iload_n 1, 1) := by decide +kernel
theorem dX7_proves_1 : decode cX7_proves 1 = .ok (.invokestatic 193, 3) := by decide +kernel
theorem dX7_proves_4 : decode cX7_proves 4 = .ok (.ifCond .ne 10, 3) := by decide +kernel
theorem dX7_proves_7 : decode cX7_proves 7 = .ok (.aload_n 0, 1) := by decide +kernel
theorem dX7_proves_8 : decode cX7_proves 8 = .ok (.ldc 68, 2) := by decide +kernel
theorem dX7_proves_10 : decode cX7_proves 10 = .ok (.invokevirtual 69, 3) := by decide +kernel
theorem dX7_proves_13 : decode cX7_proves 13 = .ok (.ireturn, 1) := by decide +kernel
theorem dX7_proves_14 : decode cX7_proves 14 = .ok (.aload_n 0, 1) := by decide +kernel
theorem dX7_proves_15 : decode cX7_proves 15 = .ok (.getfield 55, 3) := by decide +kernel
theorem dX7_proves_18 : decode cX7_proves 18 = .ok (.iload_n 1, 1) := by decide +kernel
theorem dX7_proves_19 : decode cX7_proves 19 = .ok (.aaload, 1) := by decide +kernel
theorem dX7_proves_20 : decode cX7_proves 20 = .ok (.astore_n 2, 1) := by decide +kernel
theorem dX7_proves_21 : decode cX7_proves 21 = .ok (.aload_n 2, 1) := by decide +kernel
theorem dX7_proves_22 : decode cX7_proves 22 = .ok (.getfield 196, 3) := by decide +kernel
theorem dX7_proves_25 : decode cX7_proves 25 = .ok (.ifCond .ne 10, 3) := by decide +kernel
theorem dX7_proves_28 : decode cX7_proves 28 = .ok (.aload_n 0, 1) := by decide +kernel
theorem dX7_proves_29 : decode cX7_proves 29 = .ok (.ldc 199, 2) := by decide +kernel
theorem dX7_proves_31 : decode cX7_proves 31 = .ok (.invokevirtual 69, 3) := by decide +kernel
theorem dX7_proves_34 : decode cX7_proves 34 = .ok (.ireturn, 1) := by decide +kernel
theorem dX7_proves_35 : decode cX7_proves 35 = .ok (.aload_n 2, 1) := by decide +kernel
theorem dX7_proves_36 : decode cX7_proves 36 = .ok (.getfield 204, 3) := by decide +kernel
theorem dX7_proves_39 : decode cX7_proves 39 = .ok (.bipush 20, 2) := by decide +kernel
theorem dX7_proves_41 : decode cX7_proves 41 = .ok (.aload_n 0, 1) := by decide +kernel
theorem dX7_proves_42 : decode cX7_proves 42 = .ok (.getfield 177, 3) := by decide +kernel
theorem dX7_proves_45 : decode cX7_proves 45 = .ok (.isub, 1) := by decide +kernel
theorem dX7_proves_46 : decode cX7_proves 46 = .ok (.if_icmp .eq 10, 3) := by decide +kernel
theorem dX7_proves_49 : decode cX7_proves 49 = .ok (.aload_n 0, 1) := by decide +kernel
theorem dX7_proves_50 : decode cX7_proves 50 = .ok (.ldc 160, 2) := by decide +kernel
theorem dX7_proves_52 : decode cX7_proves 52 = .ok (.invokevirtual 69, 3) := by decide +kernel
theorem dX7_proves_55 : decode cX7_proves 55 = .ok (.ireturn, 1) := by decide +kernel
theorem dX7_proves_56 : decode cX7_proves 56 = .ok (.aload_n 0, 1) := by decide +kernel
theorem dX7_proves_57 : decode cX7_proves 57 = .ok (.invokevirtual 272, 3) := by decide +kernel
theorem dX7_proves_60 : decode cX7_proves 60 = .ok (.aload_n 0, 1) := by decide +kernel
theorem dX7_proves_61 : decode cX7_proves 61 = .ok (.aload_n 2, 1) := by decide +kernel
theorem dX7_proves_62 : decode cX7_proves 62 = .ok (.invokevirtual 281, 3) := by decide +kernel
theorem dX7_proves_65 : decode cX7_proves 65 = .ok (.ireturn, 1) := by decide +kernel
theorem dX7_sheet_0 : decode cX7_sheet 0 = .ok (.iload_n 2, 1) := by decide +kernel
theorem dX7_sheet_1 : decode cX7_sheet 1 = .ok (.ifCond .eq 21, 3) := by decide +kernel
theorem dX7_sheet_4 : decode cX7_sheet 4 = .ok (.iload_n 2, 1) := by decide +kernel
theorem dX7_sheet_5 : decode cX7_sheet 5 = .ok (.bipush 8, 2) := by decide +kernel
theorem dX7_sheet_7 : decode cX7_sheet 7 = .ok (.if_icmp .eq 15, 3) := by decide +kernel
theorem dX7_sheet_10 : decode cX7_sheet 10 = .ok (.iload_n 2, 1) := by decide +kernel
theorem dX7_sheet_11 : decode cX7_sheet 11 = .ok (.bipush 16, 2) := by decide +kernel
theorem dX7_sheet_13 : decode cX7_sheet 13 = .ok (.if_icmp .eq 9, 3) := by decide +kernel
theorem dX7_sheet_16 : decode cX7_sheet 16 = .ok (.iload_n 2, 1) := by decide +kernel
theorem dX7_sheet_17 : decode cX7_sheet 17 = .ok (.bipush 32, 2) := by decide +kernel
theorem dX7_sheet_19 : decode cX7_sheet 19 = .ok (.if_icmp .ne 7, 3) := by decide +kernel
theorem dX7_sheet_22 : decode cX7_sheet 22 = .ok (.iconst 1, 1) := by decide +kernel
theorem dX7_sheet_23 : decode cX7_sheet 23 = .ok (.goto 4, 3) := by decide +kernel
theorem dX7_sheet_26 : decode cX7_sheet 26 = .ok (.iconst 0, 1) := by decide +kernel
theorem dX7_sheet_27 : decode cX7_sheet 27 = .ok (.istore 4, 2) := by decide +kernel
theorem dX7_sheet_29 : decode cX7_sheet 29 = .ok (.iload_n 1, 1) := by decide +kernel
theorem dX7_sheet_30 : decode cX7_sheet 30 = .ok (.invokestatic 193, 3) := by decide +kernel
theorem dX7_sheet_33 : decode cX7_sheet 33 = .ok (.ifCond .eq 8, 3) := by decide +kernel
theorem dX7_sheet_36 : decode cX7_sheet 36 = .ok (.iload 4, 2) := by decide +kernel
theorem dX7_sheet_38 : decode cX7_sheet 38 = .ok (.ifCond .ne 10, 3) := by decide +kernel
theorem dX7_sheet_41 : decode cX7_sheet 41 = .ok (.aload_n 0, 1) := by decide +kernel
theorem dX7_sheet_42 : decode cX7_sheet 42 = .ok (.ldc 68, 2) := by decide +kernel
theorem dX7_sheet_44 : decode cX7_sheet 44 = .ok (.invokevirtual 69, 3) := by decide +kernel
theorem dX7_sheet_47 : decode cX7_sheet 47 = .ok (.ireturn, 1) := by decide +kernel
theorem dX7_sheet_48 : decode cX7_sheet 48 = .ok (.iload_n 3, 1) := by decide +kernel
theorem dX7_sheet_49 : decode cX7_sheet 49 = .ok (.ifCond .ge 10, 3) := by decide +kernel
theorem dX7_sheet_52 : decode cX7_sheet 52 = .ok (.aload_n 0, 1) := by decide +kernel
theorem dX7_sheet_53 : decode cX7_sheet 53 = .ok (.ldc 160, 2) := by decide +kernel
theorem dX7_sheet_55 : decode cX7_sheet 55 = .ok (.invokevirtual 69, 3) := by decide +kernel
theorem dX7_sheet_58 : decode cX7_sheet 58 = .ok (.ireturn, 1) := by decide +kernel
theorem dX7_sheet_59 : decode cX7_sheet 59 = .ok (.iload_n 3, 1) := by decide +kernel
theorem dX7_sheet_60 : decode cX7_sheet 60 = .ok (.bipush 30, 2) := by decide +kernel
theorem dX7_sheet_62 : decode cX7_sheet 62 = .ok (.if_icmp .le 10, 3) := by decide +kernel
theorem dX7_sheet_65 : decode cX7_sheet 65 = .ok (.aload_n 0, 1) := by decide +kernel
theorem dX7_sheet_66 : decode cX7_sheet 66 = .ok (.ldc 68, 2) := by decide +kernel
theorem dX7_sheet_68 : decode cX7_sheet 68 = .ok (.invokevirtual 69, 3) := by decide +kernel
theorem dX7_sheet_71 : decode cX7_sheet 71 = .ok (.ireturn, 1) := by decide +kernel
theorem dX7_sheet_72 : decode cX7_sheet 72 = .ok (.aload_n 0, 1) := by decide +kernel
theorem dX7_sheet_73 : decode cX7_sheet 73 = .ok (.getfield 55, 3) := by decide +kernel
theorem dX7_sheet_76 : decode cX7_sheet 76 = .ok (.iload_n 1, 1) := by decide +kernel
theorem dX7_sheet_77 : decode cX7_sheet 77 = .ok (.aaload, 1) := by decide +kernel
theorem dX7_sheet_78 : decode cX7_sheet 78 = .ok (.iload_n 2, 1) := by decide +kernel
theorem dX7_sheet_79 : decode cX7_sheet 79 = .ok (.iload_n 2, 1) := by decide +kernel
theorem dX7_sheet_80 : decode cX7_sheet 80 = .ok (.ifCond .ne 7, 3) := by decide +kernel
theorem dX7_sheet_83 : decode cX7_sheet 83 = .ok (.iconst 0, 1) := by decide +kernel
theorem dX7_sheet_84 : decode cX7_sheet 84 = .ok (.goto 4, 3) := by decide +kernel
theorem dX7_sheet_87 : decode cX7_sheet 87 = .ok (.iload_n 3, 1) := by decide +kernel
theorem dX7_sheet_88 : decode cX7_sheet 88 = .ok (.invokevirtual 285, 3) := by decide +kernel
theorem dX7_sheet_91 : decode cX7_sheet 91 = .ok (.aload_n 0, 1) := by decide +kernel
theorem dX7_sheet_92 : decode cX7_sheet 92 = .ok (.getfield 55, 3) := by decide +kernel
theorem dX7_sheet_95 : decode cX7_sheet 95 = .ok (.iload_n 1, 1) := by decide +kernel
theorem dX7_sheet_96 : decode cX7_sheet 96 = .ok (.aaload, 1) := by decide +kernel
theorem dX7_sheet_97 : decode cX7_sheet 97 = .ok (.getfield 204, 3) := by decide +kernel
theorem dX7_sheet_100 : decode cX7_sheet 100 = .ok (.ireturn, 1) := by decide +kernel
theorem dX7_put_0 : decode cX7_put 0 = .ok (.iload_n 1, 1) := by decide +kernel
theorem dX7_put_1 : decode cX7_put 1 = .ok (.invokestatic 193, 3) := by decide +kernel
theorem dX7_put_4 : decode cX7_put 4 = .ok (.ifCond .ne 10, 3) := by decide +kernel
theorem dX7_put_7 : decode cX7_put 7 = .ok (.aload_n 0, 1) := by decide +kernel
theorem dX7_put_8 : decode cX7_put 8 = .ok (.ldc 68, 2) := by decide +kernel
end
section
theorem dX7_put_10 : decode cX7_put 10 = .ok (.invokevirtual 69, 3) := by decide +kernel
theorem dX7_put_13 : decode cX7_put 13 = .ok (.ireturn, 1) := by decide +kernel
theorem dX7_put_14 : decode cX7_put 14 = .ok (.aload_n 0, 1) := by decide +kernel
theorem dX7_put_15 : decode cX7_put 15 = .ok (.getfield 55, 3) := by decide +kernel
theorem dX7_put_18 : decode cX7_put 18 = .ok (.iload_n 1, 1) := by decide +kernel
theorem dX7_put_19 : decode cX7_put 19 = .ok (.aaload, 1) := by decide +kernel
theorem dX7_put_20 : decode cX7_put 20 = .ok (.astore 4, 2) := by decide +kernel
theorem dX7_put_22 : decode cX7_put 22 = .ok (.aload 4, 2) := by decide +kernel
theorem dX7_put_24 : decode cX7_put 24 = .ok (.getfield 196, 3) := by decide +kernel
theorem dX7_put_27 : decode cX7_put 27 = .ok (.ifCond .ne 10, 3) := by decide +kernel
theorem dX7_put_30 : decode cX7_put 30 = .ok (.aload_n 0, 1) := by decide +kernel
theorem dX7_put_31 : decode cX7_put 31 = .ok (.ldc 199, 2) := by decide +kernel
theorem dX7_put_33 : decode cX7_put 33 = .ok (.invokevirtual 69, 3) := by decide +kernel
theorem dX7_put_36 : decode cX7_put 36 = .ok (.ireturn, 1) := by decide +kernel
theorem dX7_put_37 : decode cX7_put 37 = .ok (.iload_n 2, 1) := by decide +kernel
theorem dX7_put_38 : decode cX7_put 38 = .ok (.ifCond .lt 12, 3) := by decide +kernel
theorem dX7_put_41 : decode cX7_put 41 = .ok (.iload_n 2, 1) := by decide +kernel
theorem dX7_put_42 : decode cX7_put 42 = .ok (.aload 4, 2) := by decide +kernel
theorem dX7_put_44 : decode cX7_put 44 = .ok (.getfield 204, 3) := by decide +kernel
theorem dX7_put_47 : decode cX7_put 47 = .ok (.if_icmp .lt 10, 3) := by decide +kernel
theorem dX7_put_50 : decode cX7_put 50 = .ok (.aload_n 0, 1) := by decide +kernel
theorem dX7_put_51 : decode cX7_put 51 = .ok (.ldc 68, 2) := by decide +kernel
theorem dX7_put_53 : decode cX7_put 53 = .ok (.invokevirtual 69, 3) := by decide +kernel
theorem dX7_put_56 : decode cX7_put 56 = .ok (.ireturn, 1) := by decide +kernel
theorem dX7_put_57 : decode cX7_put 57 = .ok (.aload 4, 2) := by decide +kernel
theorem dX7_put_59 : decode cX7_put 59 = .ok (.getfield 269, 3) := by decide +kernel
theorem dX7_put_62 : decode cX7_put 62 = .ok (.iload_n 2, 1) := by decide +kernel
theorem dX7_put_63 : decode cX7_put 63 = .ok (.aload 4, 2) := by decide +kernel
theorem dX7_put_65 : decode cX7_put 65 = .ok (.iload_n 3, 1) := by decide +kernel
theorem dX7_put_66 : decode cX7_put 66 = .ok (.invokevirtual 289, 3) := by decide +kernel
theorem dX7_put_69 : decode cX7_put 69 = .ok (.iastore, 1) := by decide +kernel
theorem dX7_put_70 : decode cX7_put 70 = .ok (.iconst 0, 1) := by decide +kernel
theorem dX7_put_71 : decode cX7_put 71 = .ok (.ireturn, 1) := by decide +kernel
theorem dX7_copy_0 : decode cX7_copy 0 = .ok (.iload_n 1, 1) := by decide +kernel
theorem dX7_copy_1 : decode cX7_copy 1 = .ok (.invokestatic 193, 3) := by decide +kernel
theorem dX7_copy_4 : decode cX7_copy 4 = .ok (.ifCond .eq 10, 3) := by decide +kernel
theorem dX7_copy_7 : decode cX7_copy 7 = .ok (.iload_n 3, 1) := by decide +kernel
theorem dX7_copy_8 : decode cX7_copy 8 = .ok (.invokestatic 193, 3) := by decide +kernel
theorem dX7_copy_11 : decode cX7_copy 11 = .ok (.ifCond .ne 10, 3) := by decide +kernel
theorem dX7_copy_14 : decode cX7_copy 14 = .ok (.aload_n 0, 1) := by decide +kernel
theorem dX7_copy_15 : decode cX7_copy 15 = .ok (.ldc 68, 2) := by decide +kernel
theorem dX7_copy_17 : decode cX7_copy 17 = .ok (.invokevirtual 69, 3) := by decide +kernel
theorem dX7_copy_20 : decode cX7_copy 20 = .ok (.ireturn, 1) := by decide +kernel
theorem dX7_copy_21 : decode cX7_copy 21 = .ok (.aload_n 0, 1) := by decide +kernel
theorem dX7_copy_22 : decode cX7_copy 22 = .ok (.getfield 55, 3) := by decide +kernel
theorem dX7_copy_25 : decode cX7_copy 25 = .ok (.iload_n 1, 1) := by decide +kernel
theorem dX7_copy_26 : decode cX7_copy 26 = .ok (.aaload, 1) := by decide +kernel
theorem dX7_copy_27 : decode cX7_copy 27 = .ok (.astore 6, 2) := by decide +kernel
theorem dX7_copy_29 : decode cX7_copy 29 = .ok (.aload_n 0, 1) := by decide +kernel
theorem dX7_copy_30 : decode cX7_copy 30 = .ok (.getfield 55, 3) := by decide +kernel
theorem dX7_copy_33 : decode cX7_copy 33 = .ok (.iload_n 3, 1) := by decide +kernel
theorem dX7_copy_34 : decode cX7_copy 34 = .ok (.aaload, 1) := by decide +kernel
theorem dX7_copy_35 : decode cX7_copy 35 = .ok (.astore 7, 2) := by decide +kernel
theorem dX7_copy_37 : decode cX7_copy 37 = .ok (.aload 6, 2) := by decide +kernel
theorem dX7_copy_39 : decode cX7_copy 39 = .ok (.getfield 196, 3) := by decide +kernel
theorem dX7_copy_42 : decode cX7_copy 42 = .ok (.ifCond .eq 11, 3) := by decide +kernel
theorem dX7_copy_45 : decode cX7_copy 45 = .ok (.aload 7, 2) := by decide +kernel
theorem dX7_copy_47 : decode cX7_copy 47 = .ok (.getfield 196, 3) := by decide +kernel
theorem dX7_copy_50 : decode cX7_copy 50 = .ok (.ifCond .ne 10, 3) := by decide +kernel
theorem dX7_copy_53 : decode cX7_copy 53 = .ok (.aload_n 0, 1) := by decide +kernel
theorem dX7_copy_54 : decode cX7_copy 54 = .ok (.ldc 199, 2) := by decide +kernel
theorem dX7_copy_56 : decode cX7_copy 56 = .ok (.invokevirtual 69, 3) := by decide +kernel
theorem dX7_copy_59 : decode cX7_copy 59 = .ok (.ireturn, 1) := by decide +kernel
theorem dX7_copy_60 : decode cX7_copy 60 = .ok (.aload 6, 2) := by decide +kernel
theorem dX7_copy_62 : decode cX7_copy 62 = .ok (.getfield 196, 3) := by decide +kernel
theorem dX7_copy_65 : decode cX7_copy 65 = .ok (.aload 7, 2) := by decide +kernel
theorem dX7_copy_67 : decode cX7_copy 67 = .ok (.getfield 196, 3) := by decide +kernel
theorem dX7_copy_70 : decode cX7_copy 70 = .ok (.if_icmp .eq 10, 3) := by decide +kernel
theorem dX7_copy_73 : decode cX7_copy 73 = .ok (.aload_n 0, 1) := by decide +kernel
theorem dX7_copy_74 : decode cX7_copy 74 = .ok (.ldc 118, 2) := by decide +kernel
theorem dX7_copy_76 : decode cX7_copy 76 = .ok (.invokevirtual 69, 3) := by decide +kernel
theorem dX7_copy_79 : decode cX7_copy 79 = .ok (.ireturn, 1) := by decide +kernel
theorem dX7_copy_80 : decode cX7_copy 80 = .ok (.aload 6, 2) := by decide +kernel
theorem dX7_copy_82 : decode cX7_copy 82 = .ok (.iload_n 2, 1) := by decide +kernel
theorem dX7_copy_83 : decode cX7_copy 83 = .ok (.iload 5, 2) := by decide +kernel
theorem dX7_copy_85 : decode cX7_copy 85 = .ok (.invokevirtual 292, 3) := by decide +kernel
theorem dX7_copy_88 : decode cX7_copy 88 = .ok (.ifCond .eq 15, 3) := by decide +kernel
theorem dX7_copy_91 : decode cX7_copy 91 = .ok (.aload 7, 2) := by decide +kernel
theorem dX7_copy_93 : decode cX7_copy 93 = .ok (.iload 4, 2) := by decide +kernel
theorem dX7_copy_95 : decode cX7_copy 95 = .ok (.iload 5, 2) := by decide +kernel
theorem dX7_copy_97 : decode cX7_copy 97 = .ok (.invokevirtual 292, 3) := by decide +kernel
theorem dX7_copy_100 : decode cX7_copy 100 = .ok (.ifCond .ne 10, 3) := by decide +kernel
theorem dX7_copy_103 : decode cX7_copy 103 = .ok (.aload_n 0, 1) := by decide +kernel
theorem dX7_copy_104 : decode cX7_copy 104 = .ok (.ldc 68, 2) := by decide +kernel
theorem dX7_copy_106 : decode cX7_copy 106 = .ok (.invokevirtual 69, 3) := by decide +kernel
theorem dX7_copy_109 : decode cX7_copy 109 = .ok (.ireturn, 1) := by decide +kernel
theorem dX7_copy_110 : decode cX7_copy 110 = .ok (.aload 6, 2) := by decide +kernel
theorem dX7_copy_112 : decode cX7_copy 112 = .ok (.getfield 269, 3) := by decide +kernel
theorem dX7_copy_115 : decode cX7_copy 115 = .ok (.iload_n 2, 1) := by decide +kernel
theorem dX7_copy_116 : decode cX7_copy 116 = .ok (.aload 7, 2) := by decide +kernel
theorem dX7_copy_118 : decode cX7_copy 118 = .ok (.getfield 269, 3) := by decide +kernel
theorem dX7_copy_121 : decode cX7_copy 121 = .ok (.iload 4, 2) := by decide +kernel
theorem dX7_copy_123 : decode cX7_copy 123 = .ok (.iload 5, 2) := by decide +kernel
theorem dX7_copy_125 : decode cX7_copy 125 = .ok (.invokestatic 219, 3) := by decide +kernel
theorem dX7_copy_128 : decode cX7_copy 128 = .ok (.iload 5, 2) := by decide +kernel
theorem dX7_copy_130 : decode cX7_copy 130 = .ok (.ireturn, 1) := by decide +kernel
theorem dX7_undo_0 : decode cX7_undo 0 = .ok (.aload_n 0, 1) := by decide +kernel
theorem dX7_undo_1 : decode cX7_undo 1 = .ok (.getfield 62, 3) := by decide +kernel
theorem dX7_undo_4 : decode cX7_undo 4 = .ok (.invokevirtual 295, 3) := by decide +kernel
theorem dX7_undo_7 : decode cX7_undo 7 = .ok (.astore_n 1, 1) := by decide +kernel
theorem dX7_undo_8 : decode cX7_undo 8 = .ok (.aload_n 1, 1) := by decide +kernel
theorem dX7_undo_9 : decode cX7_undo 9 = .ok (.ifnonnull 10, 3) := by decide +kernel
theorem dX7_undo_12 : decode cX7_undo 12 = .ok (.aload_n 0, 1) := by decide +kernel
theorem dX7_undo_13 : decode cX7_undo 13 = .ok (.ldc 184, 2) := by decide +kernel
theorem dX7_undo_15 : decode cX7_undo 15 = .ok (.invokevirtual 69, 3) := by decide +kernel
theorem dX7_undo_18 : decode cX7_undo 18 = .ok (.ireturn, 1) := by decide +kernel
theorem dX7_undo_19 : decode cX7_undo 19 = .ok (.aload_n 0, 1) := by decide +kernel
theorem dX7_undo_20 : decode cX7_undo 20 = .ok (.aload_n 1, 1) := by decide +kernel
theorem dX7_undo_21 : decode cX7_undo 21 = .ok (.invokevirtual 299, 3) := by decide +kernel
theorem dX7_undo_24 : decode cX7_undo 24 = .ok (.aload_n 0, 1) := by decide +kernel
theorem dX7_undo_25 : decode cX7_undo 25 = .ok (.invokevirtual 303, 3) := by decide +kernel
theorem dX7_undo_28 : decode cX7_undo 28 = .ok (.aload_n 0, 1) := by decide +kernel
theorem dX7_undo_29 : decode cX7_undo 29 = .ok (.getfield 62, 3) := by decide +kernel
theorem dX7_undo_32 : decode cX7_undo 32 = .ok (.getfield 306, 3) := by decide +kernel
theorem dX7_undo_35 : decode cX7_undo 35 = .ok (.ireturn, 1) := by decide +kernel
theorem dX7_all_0 : decode cX7_all 0 = .ok (.iload_n 1, 1) := by decide +kernel
theorem dX7_all_1 : decode cX7_all 1 = .ok (.tableswitch 84 0 6 #[43, 48, 53, 58, 63, 71, 79], 43) := by decide +kernel
theorem dX7_all_44 : decode cX7_all 44 = .ok (.aload_n 0, 1) := by decide +kernel
theorem dX7_all_45 : decode cX7_all 45 = .ok (.getfield 89, 3) := by decide +kernel
theorem dX7_all_48 : decode cX7_all 48 = .ok (.ireturn, 1) := by decide +kernel
theorem dX7_all_49 : decode cX7_all 49 = .ok (.aload_n 0, 1) := by decide +kernel
theorem dX7_all_50 : decode cX7_all 50 = .ok (.invokevirtual 307, 3) := by decide +kernel
theorem dX7_all_53 : decode cX7_all 53 = .ok (.ireturn, 1) := by decide +kernel
theorem dX7_all_54 : decode cX7_all 54 = .ok (.aload_n 0, 1) := by decide +kernel
theorem dX7_all_55 : decode cX7_all 55 = .ok (.getfield 211, 3) := by decide +kernel
theorem dX7_all_58 : decode cX7_all 58 = .ok (.ireturn, 1) := by decide +kernel
theorem dX7_all_59 : decode cX7_all 59 = .ok (.aload_n 0, 1) := by decide +kernel
theorem dX7_all_60 : decode cX7_all 60 = .ok (.getfield 231, 3) := by decide +kernel
theorem dX7_all_63 : decode cX7_all 63 = .ok (.ireturn, 1) := by decide +kernel
theorem dX7_all_64 : decode cX7_all 64 = .ok (.aload_n 0, 1) := by decide +kernel
theorem dX7_all_65 : decode cX7_all 65 = .ok (.getfield 35, 3) := by decide +kernel
theorem dX7_all_68 : decode cX7_all 68 = .ok (.getfield 251, 3) := by decide +kernel
theorem dX7_all_71 : decode cX7_all 71 = .ok (.ireturn, 1) := by decide +kernel
theorem dX7_all_72 : decode cX7_all 72 = .ok (.aload_n 0, 1) := by decide +kernel
theorem dX7_all_73 : decode cX7_all 73 = .ok (.getfield 10, 3) := by decide +kernel
theorem dX7_all_76 : decode cX7_all 76 = .ok (.getfield 73, 3) := by decide +kernel
theorem dX7_all_79 : decode cX7_all 79 = .ok (.ireturn, 1) := by decide +kernel
theorem dX7_all_80 : decode cX7_all 80 = .ok (.aload_n 0, 1) := by decide +kernel
theorem dX7_all_81 : decode cX7_all 81 = .ok (.getfield 310, 3) := by decide +kernel
theorem dX7_all_84 : decode cX7_all 84 = .ok (.ireturn, 1) := by decide +kernel
theorem dX7_all_85 : decode cX7_all 85 = .ok (.aload_n 0, 1) := by decide +kernel
theorem dX7_all_86 : decode cX7_all 86 = .ok (.ldc 68, 2) := by decide +kernel
theorem dX7_all_88 : decode cX7_all 88 = .ok (.invokevirtual 69, 3) := by decide +kernel
theorem dX7_all_91 : decode cX7_all 91 = .ok (.ireturn, 1) := by decide +kernel
theorem dX7_refuse_0 : decode cX7_refuse 0 = .ok (.aload_n 0, 1) := by decide +kernel
theorem dX7_refuse_1 : decode cX7_refuse 1 = .ok (.dup, 1) := by decide +kernel
theorem dX7_refuse_2 : decode cX7_refuse 2 = .ok (.getfield 310, 3) := by decide +kernel
theorem dX7_refuse_5 : decode cX7_refuse 5 = .ok (.iconst 1, 1) := by decide +kernel
theorem dX7_refuse_6 : decode cX7_refuse 6 = .ok (.iadd, 1) := by decide +kernel
theorem dX7_refuse_7 : decode cX7_refuse 7 = .ok (.putfield 310, 3) := by decide +kernel
theorem dX7_refuse_10 : decode cX7_refuse 10 = .ok (.iload_n 1, 1) := by decide +kernel
theorem dX7_refuse_11 : decode cX7_refuse 11 = .ok (.ireturn, 1) := by decide +kernel
theorem dX7_isLight_0 : decode cX7_isLight 0 = .ok (.iload_n 1, 1) := by decide +kernel
theorem dX7_isLight_1 : decode cX7_isLight 1 = .ok (.ifCond .lt 15, 3) := by decide +kernel
theorem dX7_isLight_4 : decode cX7_isLight 4 = .ok (.iload_n 1, 1) := by decide +kernel
theorem dX7_isLight_5 : decode cX7_isLight 5 = .ok (.aload_n 0, 1) := by decide +kernel
theorem dX7_isLight_6 : decode cX7_isLight 6 = .ok (.getfield 89, 3) := by decide +kernel
theorem dX7_isLight_9 : decode cX7_isLight 9 = .ok (.if_icmp .ge 7, 3) := by decide +kernel
theorem dX7_isLight_12 : decode cX7_isLight 12 = .ok (.iconst 1, 1) := by decide +kernel
theorem dX7_isLight_13 : decode cX7_isLight 13 = .ok (.goto 4, 3) := by decide +kernel
theorem dX7_isLight_16 : decode cX7_isLight 16 = .ok (.iconst 0, 1) := by decide +kernel
theorem dX7_isLight_17 : decode cX7_isLight 17 = .ok (.ireturn, 1) := by decide +kernel
theorem dX7_isKind_0 : decode cX7_isKind 0 = .ok (.iload_n 0, 1) := by decide +kernel
theorem dX7_isKind_1 : decode cX7_isKind 1 = .ok (.ifCond .lt 12, 3) := by decide +kernel
theorem dX7_isKind_4 : decode cX7_isKind 4 = .ok (.iload_n 0, 1) := by decide +kernel
theorem dX7_isKind_5 : decode cX7_isKind 5 = .ok (.iconst 3, 1) := by decide +kernel
theorem dX7_isKind_6 : decode cX7_isKind 6 = .ok (.if_icmp .gt 7, 3) := by decide +kernel
theorem dX7_isKind_9 : decode cX7_isKind 9 = .ok (.iconst 1, 1) := by decide +kernel
theorem dX7_isKind_10 : decode cX7_isKind 10 = .ok (.goto 4, 3) := by decide +kernel
theorem dX7_isKind_13 : decode cX7_isKind 13 = .ok (.iconst 0, 1) := by decide +kernel
theorem dX7_isKind_14 : decode cX7_isKind 14 = .ok (.ireturn, 1) := by decide +kernel
theorem dX7_isCell_0 : decode cX7_isCell 0 = .ok (.iload_n 0, 1) := by decide +kernel
theorem dX7_isCell_1 : decode cX7_isCell 1 = .ok (.ifCond .lt 14, 3) := by decide +kernel
theorem dX7_isCell_4 : decode cX7_isCell 4 = .ok (.iload_n 0, 1) := by decide +kernel
theorem dX7_isCell_5 : decode cX7_isCell 5 = .ok (.sipush 256, 3) := by decide +kernel
theorem dX7_isCell_8 : decode cX7_isCell 8 = .ok (.if_icmp .ge 7, 3) := by decide +kernel
theorem dX7_isCell_11 : decode cX7_isCell 11 = .ok (.iconst 1, 1) := by decide +kernel
theorem dX7_isCell_12 : decode cX7_isCell 12 = .ok (.goto 4, 3) := by decide +kernel
theorem dX7_isCell_15 : decode cX7_isCell 15 = .ok (.iconst 0, 1) := by decide +kernel
theorem dX7_isCell_16 : decode cX7_isCell 16 = .ok (.ireturn, 1) := by decide +kernel
theorem dX7_isDirection_0 : decode cX7_isDirection 0 = .ok (.iload_n 0, 1) := by decide +kernel
theorem dX7_isDirection_1 : decode cX7_isDirection 1 = .ok (.ifCond .lt 13, 3) := by decide +kernel
theorem dX7_isDirection_4 : decode cX7_isDirection 4 = .ok (.iload_n 0, 1) := by decide +kernel
theorem dX7_isDirection_5 : decode cX7_isDirection 5 = .ok (.bipush 15, 2) := by decide +kernel
theorem dX7_isDirection_7 : decode cX7_isDirection 7 = .ok (.if_icmp .gt 7, 3) := by decide +kernel
theorem dX7_isDirection_10 : decode cX7_isDirection 10 = .ok (.iconst 1, 1) := by decide +kernel
theorem dX7_isDirection_11 : decode cX7_isDirection 11 = .ok (.goto 4, 3) := by decide +kernel
theorem dX7_isDirection_14 : decode cX7_isDirection 14 = .ok (.iconst 0, 1) := by decide +kernel
theorem dX7_isDirection_15 : decode cX7_isDirection 15 = .ok (.ireturn, 1) := by decide +kernel
theorem dX7_isDay_0 : decode cX7_isDay 0 = .ok (.iload_n 0, 1) := by decide +kernel
theorem dX7_isDay_1 : decode cX7_isDay 1 = .ok (.ifCond .lt 13, 3) := by decide +kernel
theorem dX7_isDay_4 : decode cX7_isDay 4 = .ok (.iload_n 0, 1) := by decide +kernel
theorem dX7_isDay_5 : decode cX7_isDay 5 = .ok (.bipush 20, 2) := by decide +kernel
theorem dX7_isDay_7 : decode cX7_isDay 7 = .ok (.if_icmp .ge 7, 3) := by decide +kernel
theorem dX7_isDay_10 : decode cX7_isDay 10 = .ok (.iconst 1, 1) := by decide +kernel
theorem dX7_isDay_11 : decode cX7_isDay 11 = .ok (.goto 4, 3) := by decide +kernel
theorem dX7_isDay_14 : decode cX7_isDay 14 = .ok (.iconst 0, 1) := by decide +kernel
theorem dX7_isDay_15 : decode cX7_isDay 15 = .ok (.ireturn, 1) := by decide +kernel
theorem dX7_isHour_0 : decode cX7_isHour 0 = .ok (.iload_n 0, 1) := by decide +kernel
theorem dX7_isHour_1 : decode cX7_isHour 1 = .ok (.ifCond .lt 14, 3) := by decide +kernel
theorem dX7_isHour_4 : decode cX7_isHour 4 = .ok (.iload_n 0, 1) := by decide +kernel
theorem dX7_isHour_5 : decode cX7_isHour 5 = .ok (.sipush 999, 3) := by decide +kernel
theorem dX7_isHour_8 : decode cX7_isHour 8 = .ok (.if_icmp .gt 7, 3) := by decide +kernel
theorem dX7_isHour_11 : decode cX7_isHour 11 = .ok (.iconst 1, 1) := by decide +kernel
theorem dX7_isHour_12 : decode cX7_isHour 12 = .ok (.goto 4, 3) := by decide +kernel
theorem dX7_isHour_15 : decode cX7_isHour 15 = .ok (.iconst 0, 1) := by decide +kernel
theorem dX7_isHour_16 : decode cX7_isHour 16 = .ok (.ireturn, 1) := by decide +kernel
theorem dX7_isSheet_0 : decode cX7_isSheet 0 = .ok (.iload_n 0, 1) := by decide +kernel
theorem dX7_isSheet_1 : decode cX7_isSheet 1 = .ok (.ifCond .lt 12, 3) := by decide +kernel
theorem dX7_isSheet_4 : decode cX7_isSheet 4 = .ok (.iload_n 0, 1) := by decide +kernel
theorem dX7_isSheet_5 : decode cX7_isSheet 5 = .ok (.iconst 4, 1) := by decide +kernel
theorem dX7_isSheet_6 : decode cX7_isSheet 6 = .ok (.if_icmp .ge 7, 3) := by decide +kernel
theorem dX7_isSheet_9 : decode cX7_isSheet 9 = .ok (.iconst 1, 1) := by decide +kernel
theorem dX7_isSheet_10 : decode cX7_isSheet 10 = .ok (.goto 4, 3) := by decide +kernel
theorem dX7_isSheet_13 : decode cX7_isSheet 13 = .ok (.iconst 0, 1) := by decide +kernel
theorem dX7_isSheet_14 : decode cX7_isSheet 14 = .ok (.ireturn, 1) := by decide +kernel
theorem dX7_allLights_0 : decode cX7_allLights 0 = .ok (.iconst 1, 1) := by decide +kernel
theorem dX7_allLights_1 : decode cX7_allLights 1 = .ok (.aload_n 0, 1) := by decide +kernel
theorem dX7_allLights_2 : decode cX7_allLights 2 = .ok (.getfield 89, 3) := by decide +kernel
theorem dX7_allLights_5 : decode cX7_allLights 5 = .ok (.ishl, 1) := by decide +kernel
theorem dX7_allLights_6 : decode cX7_allLights 6 = .ok (.iconst 1, 1) := by decide +kernel
theorem dX7_allLights_7 : decode cX7_allLights 7 = .ok (.isub, 1) := by decide +kernel
theorem dX7_allLights_8 : decode cX7_allLights 8 = .ok (.ireturn, 1) := by decide +kernel
theorem dX7_countRocks_0 : decode cX7_countRocks 0 = .ok (.iconst 0, 1) := by decide +kernel
theorem dX7_countRocks_1 : decode cX7_countRocks 1 = .ok (.istore_n 1, 1) := by decide +kernel
theorem dX7_countRocks_2 : decode cX7_countRocks 2 = .ok (.iconst 0, 1) := by decide +kernel
theorem dX7_countRocks_3 : decode cX7_countRocks 3 = .ok (.istore_n 2, 1) := by decide +kernel
theorem dX7_countRocks_4 : decode cX7_countRocks 4 = .ok (.iload_n 2, 1) := by decide +kernel
theorem dX7_countRocks_5 : decode cX7_countRocks 5 = .ok (.aload_n 0, 1) := by decide +kernel
theorem dX7_countRocks_6 : decode cX7_countRocks 6 = .ok (.getfield 89, 3) := by decide +kernel
theorem dX7_countRocks_9 : decode cX7_countRocks 9 = .ok (.if_icmp .ge 24, 3) := by decide +kernel
theorem dX7_countRocks_12 : decode cX7_countRocks 12 = .ok (.aload_n 0, 1) := by decide +kernel
theorem dX7_countRocks_13 : decode cX7_countRocks 13 = .ok (.getfield 18, 3) := by decide +kernel
theorem dX7_countRocks_16 : decode cX7_countRocks 16 = .ok (.iload_n 2, 1) := by decide +kernel
theorem dX7_countRocks_17 : decode cX7_countRocks 17 = .ok (.aaload, 1) := by decide +kernel
theorem dX7_countRocks_18 : decode cX7_countRocks 18 = .ok (.invokevirtual 259, 3) := by decide +kernel
theorem dX7_countRocks_21 : decode cX7_countRocks 21 = .ok (.ifCond .eq 6, 3) := by decide +kernel
theorem dX7_countRocks_24 : decode cX7_countRocks 24 = .ok (.iinc 1 1, 3) := by decide +kernel
theorem dX7_countRocks_27 : decode cX7_countRocks 27 = .ok (.iinc 2 1, 3) := by decide +kernel
theorem dX7_countRocks_30 : decode cX7_countRocks 30 = .ok (.goto (-26), 3) := by decide +kernel
theorem dX7_countRocks_33 : decode cX7_countRocks 33 = .ok (.iload_n 1, 1) := by decide +kernel
theorem dX7_countRocks_34 : decode cX7_countRocks 34 = .ok (.ireturn, 1) := by decide +kernel
theorem dX7_isUnder_0 : decode cX7_isUnder 0 = .ok (.iload_n 0, 1) := by decide +kernel
theorem dX7_isUnder_1 : decode cX7_isUnder 1 = .ok (.istore_n 2, 1) := by decide +kernel
theorem dX7_isUnder_2 : decode cX7_isUnder 2 = .ok (.iconst 0, 1) := by decide +kernel
theorem dX7_isUnder_3 : decode cX7_isUnder 3 = .ok (.istore_n 3, 1) := by decide +kernel
theorem dX7_isUnder_4 : decode cX7_isUnder 4 = .ok (.iload_n 3, 1) := by decide +kernel
theorem dX7_isUnder_5 : decode cX7_isUnder 5 = .ok (.getstatic 313, 3) := by decide +kernel
theorem dX7_isUnder_8 : decode cX7_isUnder 8 = .ok (.arraylength, 1) := by decide +kernel
theorem dX7_isUnder_9 : decode cX7_isUnder 9 = .ok (.if_icmp .ge 26, 3) := by decide +kernel
theorem dX7_isUnder_12 : decode cX7_isUnder 12 = .ok (.iload_n 2, 1) := by decide +kernel
theorem dX7_isUnder_13 : decode cX7_isUnder 13 = .ok (.ifCond .lt 22, 3) := by decide +kernel
theorem dX7_isUnder_16 : decode cX7_isUnder 16 = .ok (.iload_n 2, 1) := by decide +kernel
theorem dX7_isUnder_17 : decode cX7_isUnder 17 = .ok (.iload_n 1, 1) := by decide +kernel
theorem dX7_isUnder_18 : decode cX7_isUnder 18 = .ok (.if_icmp .ne 5, 3) := by decide +kernel
theorem dX7_isUnder_21 : decode cX7_isUnder 21 = .ok (.iconst 1, 1) := by decide +kernel
theorem dX7_isUnder_22 : decode cX7_isUnder 22 = .ok (.ireturn, 1) := by decide +kernel
theorem dX7_isUnder_23 : decode cX7_isUnder 23 = .ok (.getstatic 313, 3) := by decide +kernel
theorem dX7_isUnder_26 : decode cX7_isUnder 26 = .ok (.iload_n 2, 1) := by decide +kernel
theorem dX7_isUnder_27 : decode cX7_isUnder 27 = .ok (.iaload, 1) := by decide +kernel
theorem dX7_isUnder_28 : decode cX7_isUnder 28 = .ok (.istore_n 2, 1) := by decide +kernel
theorem dX7_isUnder_29 : decode cX7_isUnder 29 = .ok (.iinc 3 1, 3) := by decide +kernel
theorem dX7_isUnder_32 : decode cX7_isUnder 32 = .ok (.goto (-28), 3) := by decide +kernel
theorem dX7_isUnder_35 : decode cX7_isUnder 35 = .ok (.iconst 0, 1) := by decide +kernel
theorem dX7_isUnder_36 : decode cX7_isUnder 36 = .ok (.ireturn, 1) := by decide +kernel
theorem dX7_turnedOver_0 : decode cX7_turnedOver 0 = .ok (.iload_n 1, 1) := by decide +kernel
theorem dX7_turnedOver_1 : decode cX7_turnedOver 1 = .ok (.iload_n 0, 1) := by decide +kernel
theorem dX7_turnedOver_2 : decode cX7_turnedOver 2 = .ok (.isub, 1) := by decide +kernel
theorem dX7_turnedOver_3 : decode cX7_turnedOver 3 = .ok (.bipush 15, 2) := by decide +kernel
theorem dX7_turnedOver_5 : decode cX7_turnedOver 5 = .ok (.iand, 1) := by decide +kernel
theorem dX7_turnedOver_6 : decode cX7_turnedOver 6 = .ok (.istore_n 2, 1) := by decide +kernel
theorem dX7_turnedOver_7 : decode cX7_turnedOver 7 = .ok (.iconst 0, 1) := by decide +kernel
theorem dX7_turnedOver_8 : decode cX7_turnedOver 8 = .ok (.istore_n 3, 1) := by decide +kernel
theorem dX7_turnedOver_9 : decode cX7_turnedOver 9 = .ok (.iconst 0, 1) := by decide +kernel
theorem dX7_turnedOver_10 : decode cX7_turnedOver 10 = .ok (.istore 4, 2) := by decide +kernel
theorem dX7_turnedOver_12 : decode cX7_turnedOver 12 = .ok (.iload 4, 2) := by decide +kernel
theorem dX7_turnedOver_14 : decode cX7_turnedOver 14 = .ok (.iload_n 2, 1) := by decide +kernel
theorem dX7_turnedOver_15 : decode cX7_turnedOver 15 = .ok (.if_icmp .gt 21, 3) := by decide +kernel
theorem dX7_turnedOver_18 : decode cX7_turnedOver 18 = .ok (.iload_n 3, 1) := by decide +kernel
theorem dX7_turnedOver_19 : decode cX7_turnedOver 19 = .ok (.iconst 1, 1) := by decide +kernel
theorem dX7_turnedOver_20 : decode cX7_turnedOver 20 = .ok (.iload_n 0, 1) := by decide +kernel
theorem dX7_turnedOver_21 : decode cX7_turnedOver 21 = .ok (.iload 4, 2) := by decide +kernel
theorem dX7_turnedOver_23 : decode cX7_turnedOver 23 = .ok (.iadd, 1) := by decide +kernel
theorem dX7_turnedOver_24 : decode cX7_turnedOver 24 = .ok (.bipush 15, 2) := by decide +kernel
theorem dX7_turnedOver_26 : decode cX7_turnedOver 26 = .ok (.iand, 1) := by decide +kernel
theorem dX7_turnedOver_27 : decode cX7_turnedOver 27 = .ok (.ishl, 1) := by decide +kernel
theorem dX7_turnedOver_28 : decode cX7_turnedOver 28 = .ok (.ior, 1) := by decide +kernel
theorem dX7_turnedOver_29 : decode cX7_turnedOver 29 = .ok (.istore_n 3, 1) := by decide +kernel
theorem dX7_turnedOver_30 : decode cX7_turnedOver 30 = .ok (.iinc 4 1, 3) := by decide +kernel
theorem dX7_turnedOver_33 : decode cX7_turnedOver 33 = .ok (.goto (-21), 3) := by decide +kernel
theorem dX7_turnedOver_36 : decode cX7_turnedOver 36 = .ok (.iload_n 3, 1) := by decide +kernel
theorem dX7_turnedOver_37 : decode cX7_turnedOver 37 = .ok (.ireturn, 1) := by decide +kernel
theorem dX7_directionOf_0 : decode cX7_directionOf 0 = .ok (.iload_n 1, 1) := by decide +kernel
theorem dX7_directionOf_1 : decode cX7_directionOf 1 = .ok (.bipush 15, 2) := by decide +kernel
theorem dX7_directionOf_3 : decode cX7_directionOf 3 = .ok (.iand, 1) := by decide +kernel
theorem dX7_directionOf_4 : decode cX7_directionOf 4 = .ok (.iload_n 0, 1) := by decide +kernel
theorem dX7_directionOf_5 : decode cX7_directionOf 5 = .ok (.bipush 15, 2) := by decide +kernel
theorem dX7_directionOf_7 : decode cX7_directionOf 7 = .ok (.iand, 1) := by decide +kernel
theorem dX7_directionOf_8 : decode cX7_directionOf 8 = .ok (.isub, 1) := by decide +kernel
theorem dX7_directionOf_9 : decode cX7_directionOf 9 = .ok (.istore_n 2, 1) := by decide +kernel
theorem dX7_directionOf_10 : decode cX7_directionOf 10 = .ok (.iload_n 1, 1) := by decide +kernel
theorem dX7_directionOf_11 : decode cX7_directionOf 11 = .ok (.iconst 4, 1) := by decide +kernel
theorem dX7_directionOf_12 : decode cX7_directionOf 12 = .ok (.ishr, 1) := by decide +kernel
theorem dX7_directionOf_13 : decode cX7_directionOf 13 = .ok (.iload_n 0, 1) := by decide +kernel
theorem dX7_directionOf_14 : decode cX7_directionOf 14 = .ok (.iconst 4, 1) := by decide +kernel
theorem dX7_directionOf_15 : decode cX7_directionOf 15 = .ok (.ishr, 1) := by decide +kernel
theorem dX7_directionOf_16 : decode cX7_directionOf 16 = .ok (.isub, 1) := by decide +kernel
theorem dX7_directionOf_17 : decode cX7_directionOf 17 = .ok (.istore_n 3, 1) := by decide +kernel
theorem dX7_directionOf_18 : decode cX7_directionOf 18 = .ok (.iload_n 2, 1) := by decide +kernel
theorem dX7_directionOf_19 : decode cX7_directionOf 19 = .ok (.ifCond .gt 11, 3) := by decide +kernel
theorem dX7_directionOf_22 : decode cX7_directionOf 22 = .ok (.iload_n 2, 1) := by decide +kernel
theorem dX7_directionOf_23 : decode cX7_directionOf 23 = .ok (.ifCond .ne 11, 3) := by decide +kernel
theorem dX7_directionOf_26 : decode cX7_directionOf 26 = .ok (.iload_n 3, 1) := by decide +kernel
theorem dX7_directionOf_27 : decode cX7_directionOf 27 = .ok (.ifCond .le 7, 3) := by decide +kernel
theorem dX7_directionOf_30 : decode cX7_directionOf 30 = .ok (.iconst 1, 1) := by decide +kernel
theorem dX7_directionOf_31 : decode cX7_directionOf 31 = .ok (.goto 4, 3) := by decide +kernel
theorem dX7_directionOf_34 : decode cX7_directionOf 34 = .ok (.iconst 0, 1) := by decide +kernel
theorem dX7_directionOf_35 : decode cX7_directionOf 35 = .ok (.istore 4, 2) := by decide +kernel
theorem dX7_directionOf_37 : decode cX7_directionOf 37 = .ok (.iload 4, 2) := by decide +kernel
theorem dX7_directionOf_39 : decode cX7_directionOf 39 = .ok (.ifCond .ne 9, 3) := by decide +kernel
theorem dX7_directionOf_42 : decode cX7_directionOf 42 = .ok (.iload_n 2, 1) := by decide +kernel
theorem dX7_directionOf_43 : decode cX7_directionOf 43 = .ok (.ineg, 1) := by decide +kernel
theorem dX7_directionOf_44 : decode cX7_directionOf 44 = .ok (.istore_n 2, 1) := by decide +kernel
theorem dX7_directionOf_45 : decode cX7_directionOf 45 = .ok (.iload_n 3, 1) := by decide +kernel
theorem dX7_directionOf_46 : decode cX7_directionOf 46 = .ok (.ineg, 1) := by decide +kernel
theorem dX7_directionOf_47 : decode cX7_directionOf 47 = .ok (.istore_n 3, 1) := by decide +kernel
theorem dX7_directionOf_48 : decode cX7_directionOf 48 = .ok (.iconst 0, 1) := by decide +kernel
theorem dX7_directionOf_49 : decode cX7_directionOf 49 = .ok (.istore 5, 2) := by decide +kernel
theorem dX7_directionOf_51 : decode cX7_directionOf 51 = .ok (.iconst 1, 1) := by decide +kernel
theorem dX7_directionOf_52 : decode cX7_directionOf 52 = .ok (.istore 6, 2) := by decide +kernel
theorem dX7_directionOf_54 : decode cX7_directionOf 54 = .ok (.iload 6, 2) := by decide +kernel
theorem dX7_directionOf_56 : decode cX7_directionOf 56 = .ok (.getstatic 316, 3) := by decide +kernel
theorem dX7_directionOf_59 : decode cX7_directionOf 59 = .ok (.arraylength, 1) := by decide +kernel
theorem dX7_directionOf_60 : decode cX7_directionOf 60 = .ok (.if_icmp .ge 32, 3) := by decide +kernel
theorem dX7_directionOf_63 : decode cX7_directionOf 63 = .ok (.getstatic 316, 3) := by decide +kernel
theorem dX7_directionOf_66 : decode cX7_directionOf 66 = .ok (.iload 6, 2) := by decide +kernel
theorem dX7_directionOf_68 : decode cX7_directionOf 68 = .ok (.iaload, 1) := by decide +kernel
theorem dX7_directionOf_69 : decode cX7_directionOf 69 = .ok (.iload_n 3, 1) := by decide +kernel
theorem dX7_directionOf_70 : decode cX7_directionOf 70 = .ok (.imul, 1) := by decide +kernel
theorem dX7_directionOf_71 : decode cX7_directionOf 71 = .ok (.getstatic 319, 3) := by decide +kernel
theorem dX7_directionOf_74 : decode cX7_directionOf 74 = .ok (.iload 6, 2) := by decide +kernel
theorem dX7_directionOf_76 : decode cX7_directionOf 76 = .ok (.iaload, 1) := by decide +kernel
theorem dX7_directionOf_77 : decode cX7_directionOf 77 = .ok (.iload_n 2, 1) := by decide +kernel
theorem dX7_directionOf_78 : decode cX7_directionOf 78 = .ok (.imul, 1) := by decide +kernel
theorem dX7_directionOf_79 : decode cX7_directionOf 79 = .ok (.if_icmp .gt 7, 3) := by decide +kernel
theorem dX7_directionOf_82 : decode cX7_directionOf 82 = .ok (.iload 6, 2) := by decide +kernel
theorem dX7_directionOf_84 : decode cX7_directionOf 84 = .ok (.istore 5, 2) := by decide +kernel
theorem dX7_directionOf_86 : decode cX7_directionOf 86 = .ok (.iinc 6 1, 3) := by decide +kernel
theorem dX7_directionOf_89 : decode cX7_directionOf 89 = .ok (.goto (-35), 3) := by decide +kernel
theorem dX7_directionOf_92 : decode cX7_directionOf 92 = .ok (.iload 4, 2) := by decide +kernel
theorem dX7_directionOf_94 : decode cX7_directionOf 94 = .ok (.ifCond .eq 8, 3) := by decide +kernel
theorem dX7_directionOf_97 : decode cX7_directionOf 97 = .ok (.iload 5, 2) := by decide +kernel
theorem dX7_directionOf_99 : decode cX7_directionOf 99 = .ok (.goto 8, 3) := by decide +kernel
theorem dX7_directionOf_102 : decode cX7_directionOf 102 = .ok (.iload 5, 2) := by decide +kernel
theorem dX7_directionOf_104 : decode cX7_directionOf 104 = .ok (.bipush 8, 2) := by decide +kernel
theorem dX7_directionOf_106 : decode cX7_directionOf 106 = .ok (.iadd, 1) := by decide +kernel
theorem dX7_directionOf_107 : decode cX7_directionOf 107 = .ok (.ireturn, 1) := by decide +kernel
theorem dX7_reachOf_0 : decode cX7_reachOf 0 = .ok (.iconst 0, 1) := by decide +kernel
theorem dX7_reachOf_1 : decode cX7_reachOf 1 = .ok (.aload_n 1, 1) := by decide +kernel
theorem dX7_reachOf_2 : decode cX7_reachOf 2 = .ok (.getfield 122, 3) := by decide +kernel
theorem dX7_reachOf_5 : decode cX7_reachOf 5 = .ok (.aload_n 0, 1) := by decide +kernel
theorem dX7_reachOf_6 : decode cX7_reachOf 6 = .ok (.getfield 171, 3) := by decide +kernel
theorem dX7_reachOf_9 : decode cX7_reachOf 9 = .ok (.isub, 1) := by decide +kernel
theorem dX7_reachOf_10 : decode cX7_reachOf 10 = .ok (.invokestatic 188, 3) := by decide +kernel
theorem dX7_reachOf_13 : decode cX7_reachOf 13 = .ok (.ireturn, 1) := by decide +kernel
theorem dX7_isWithin_0 : decode cX7_isWithin 0 = .ok (.iload_n 1, 1) := by decide +kernel
theorem dX7_isWithin_1 : decode cX7_isWithin 1 = .ok (.bipush 15, 2) := by decide +kernel
theorem dX7_isWithin_3 : decode cX7_isWithin 3 = .ok (.iand, 1) := by decide +kernel
theorem dX7_isWithin_4 : decode cX7_isWithin 4 = .ok (.iload_n 2, 1) := by decide +kernel
theorem dX7_isWithin_5 : decode cX7_isWithin 5 = .ok (.bipush 15, 2) := by decide +kernel
theorem dX7_isWithin_7 : decode cX7_isWithin 7 = .ok (.iand, 1) := by decide +kernel
theorem dX7_isWithin_8 : decode cX7_isWithin 8 = .ok (.isub, 1) := by decide +kernel
theorem dX7_isWithin_9 : decode cX7_isWithin 9 = .ok (.istore_n 3, 1) := by decide +kernel
theorem dX7_isWithin_10 : decode cX7_isWithin 10 = .ok (.iload_n 1, 1) := by decide +kernel
theorem dX7_isWithin_11 : decode cX7_isWithin 11 = .ok (.iconst 4, 1) := by decide +kernel
theorem dX7_isWithin_12 : decode cX7_isWithin 12 = .ok (.ishr, 1) := by decide +kernel
theorem dX7_isWithin_13 : decode cX7_isWithin 13 = .ok (.iload_n 2, 1) := by decide +kernel
theorem dX7_isWithin_14 : decode cX7_isWithin 14 = .ok (.iconst 4, 1) := by decide +kernel
theorem dX7_isWithin_15 : decode cX7_isWithin 15 = .ok (.ishr, 1) := by decide +kernel
theorem dX7_isWithin_16 : decode cX7_isWithin 16 = .ok (.isub, 1) := by decide +kernel
theorem dX7_isWithin_17 : decode cX7_isWithin 17 = .ok (.istore 4, 2) := by decide +kernel
theorem dX7_isWithin_19 : decode cX7_isWithin 19 = .ok (.iload_n 3, 1) := by decide +kernel
theorem dX7_isWithin_20 : decode cX7_isWithin 20 = .ok (.iload_n 3, 1) := by decide +kernel
theorem dX7_isWithin_21 : decode cX7_isWithin 21 = .ok (.imul, 1) := by decide +kernel
theorem dX7_isWithin_22 : decode cX7_isWithin 22 = .ok (.iload 4, 2) := by decide +kernel
theorem dX7_isWithin_24 : decode cX7_isWithin 24 = .ok (.iload 4, 2) := by decide +kernel
theorem dX7_isWithin_26 : decode cX7_isWithin 26 = .ok (.imul, 1) := by decide +kernel
theorem dX7_isWithin_27 : decode cX7_isWithin 27 = .ok (.iadd, 1) := by decide +kernel
theorem dX7_isWithin_28 : decode cX7_isWithin 28 = .ok (.iload_n 0, 1) := by decide +kernel
theorem dX7_isWithin_29 : decode cX7_isWithin 29 = .ok (.iload_n 0, 1) := by decide +kernel
theorem dX7_isWithin_30 : decode cX7_isWithin 30 = .ok (.imul, 1) := by decide +kernel
theorem dX7_isWithin_31 : decode cX7_isWithin 31 = .ok (.if_icmp .gt 7, 3) := by decide +kernel
theorem dX7_isWithin_34 : decode cX7_isWithin 34 = .ok (.iconst 1, 1) := by decide +kernel
theorem dX7_isWithin_35 : decode cX7_isWithin 35 = .ok (.goto 4, 3) := by decide +kernel
theorem dX7_isWithin_38 : decode cX7_isWithin 38 = .ok (.iconst 0, 1) := by decide +kernel
theorem dX7_isWithin_39 : decode cX7_isWithin 39 = .ok (.ireturn, 1) := by decide +kernel
theorem dX7_colourIn_0 : decode cX7_colourIn 0 = .ok (.iload_n 1, 1) := by decide +kernel
theorem dX7_colourIn_1 : decode cX7_colourIn 1 = .ok (.aload_n 0, 1) := by decide +kernel
theorem dX7_colourIn_2 : decode cX7_colourIn 2 = .ok (.getfield 119, 3) := by decide +kernel
theorem dX7_colourIn_5 : decode cX7_colourIn 5 = .ok (.if_icmp .ne 8, 3) := by decide +kernel
theorem dX7_colourIn_8 : decode cX7_colourIn 8 = .ok (.aload_n 0, 1) := by decide +kernel
theorem dX7_colourIn_9 : decode cX7_colourIn 9 = .ok (.getfield 125, 3) := by decide +kernel
theorem dX7_colourIn_12 : decode cX7_colourIn 12 = .ok (.ireturn, 1) := by decide +kernel
theorem dX7_colourIn_13 : decode cX7_colourIn 13 = .ok (.aload_n 0, 1) := by decide +kernel
theorem dX7_colourIn_14 : decode cX7_colourIn 14 = .ok (.aload_n 0, 1) := by decide +kernel
theorem dX7_colourIn_15 : decode cX7_colourIn 15 = .ok (.getfield 119, 3) := by decide +kernel
theorem dX7_colourIn_18 : decode cX7_colourIn 18 = .ok (.iload_n 1, 1) := by decide +kernel
theorem dX7_colourIn_19 : decode cX7_colourIn 19 = .ok (.invokestatic 161, 3) := by decide +kernel
theorem dX7_colourIn_22 : decode cX7_colourIn 22 = .ok (.invokevirtual 322, 3) := by decide +kernel
theorem dX7_colourIn_25 : decode cX7_colourIn 25 = .ok (.ireturn, 1) := by decide +kernel
theorem dX7_seenFrom_0 : decode cX7_seenFrom 0 = .ok (.iconst 0, 1) := by decide +kernel
theorem dX7_seenFrom_1 : decode cX7_seenFrom 1 = .ok (.istore_n 2, 1) := by decide +kernel
theorem dX7_seenFrom_2 : decode cX7_seenFrom 2 = .ok (.iconst 0, 1) := by decide +kernel
theorem dX7_seenFrom_3 : decode cX7_seenFrom 3 = .ok (.istore_n 3, 1) := by decide +kernel
theorem dX7_seenFrom_4 : decode cX7_seenFrom 4 = .ok (.iload_n 3, 1) := by decide +kernel
theorem dX7_seenFrom_5 : decode cX7_seenFrom 5 = .ok (.aload_n 0, 1) := by decide +kernel
theorem dX7_seenFrom_6 : decode cX7_seenFrom 6 = .ok (.getfield 89, 3) := by decide +kernel
theorem dX7_seenFrom_9 : decode cX7_seenFrom 9 = .ok (.if_icmp .ge 69, 3) := by decide +kernel
theorem dX7_seenFrom_12 : decode cX7_seenFrom 12 = .ok (.aload_n 0, 1) := by decide +kernel
theorem dX7_seenFrom_13 : decode cX7_seenFrom 13 = .ok (.getfield 18, 3) := by decide +kernel
theorem dX7_seenFrom_16 : decode cX7_seenFrom 16 = .ok (.iload_n 3, 1) := by decide +kernel
theorem dX7_seenFrom_17 : decode cX7_seenFrom 17 = .ok (.aaload, 1) := by decide +kernel
theorem dX7_seenFrom_18 : decode cX7_seenFrom 18 = .ok (.astore 4, 2) := by decide +kernel
theorem dX7_seenFrom_20 : decode cX7_seenFrom 20 = .ok (.aload_n 0, 1) := by decide +kernel
theorem dX7_seenFrom_21 : decode cX7_seenFrom 21 = .ok (.aload 4, 2) := by decide +kernel
theorem dX7_seenFrom_23 : decode cX7_seenFrom 23 = .ok (.invokevirtual 325, 3) := by decide +kernel
theorem dX7_seenFrom_26 : decode cX7_seenFrom 26 = .ok (.iload_n 1, 1) := by decide +kernel
theorem dX7_seenFrom_27 : decode cX7_seenFrom 27 = .ok (.aload 4, 2) := by decide +kernel
theorem dX7_seenFrom_29 : decode cX7_seenFrom 29 = .ok (.getfield 119, 3) := by decide +kernel
theorem dX7_seenFrom_32 : decode cX7_seenFrom 32 = .ok (.invokestatic 329, 3) := by decide +kernel
theorem dX7_seenFrom_35 : decode cX7_seenFrom 35 = .ok (.ifCond .eq 37, 3) := by decide +kernel
theorem dX7_seenFrom_38 : decode cX7_seenFrom 38 = .ok (.aload 4, 2) := by decide +kernel
theorem dX7_seenFrom_40 : decode cX7_seenFrom 40 = .ok (.iload_n 1, 1) := by decide +kernel
theorem dX7_seenFrom_41 : decode cX7_seenFrom 41 = .ok (.invokestatic 164, 3) := by decide +kernel
theorem dX7_seenFrom_44 : decode cX7_seenFrom 44 = .ok (.iconst 3, 1) := by decide +kernel
theorem dX7_seenFrom_45 : decode cX7_seenFrom 45 = .ok (.if_icmp .eq 27, 3) := by decide +kernel
theorem dX7_seenFrom_48 : decode cX7_seenFrom 48 = .ok (.aload_n 0, 1) := by decide +kernel
theorem dX7_seenFrom_49 : decode cX7_seenFrom 49 = .ok (.getfield 35, 3) := by decide +kernel
theorem dX7_seenFrom_52 : decode cX7_seenFrom 52 = .ok (.iload_n 3, 1) := by decide +kernel
theorem dX7_seenFrom_53 : decode cX7_seenFrom 53 = .ok (.aload_n 0, 1) := by decide +kernel
theorem dX7_seenFrom_54 : decode cX7_seenFrom 54 = .ok (.getfield 177, 3) := by decide +kernel
theorem dX7_seenFrom_57 : decode cX7_seenFrom 57 = .ok (.sipush 999, 3) := by decide +kernel
theorem dX7_seenFrom_60 : decode cX7_seenFrom 60 = .ok (.invokevirtual 255, 3) := by decide +kernel
theorem dX7_seenFrom_63 : decode cX7_seenFrom 63 = .ok (.ifCond .ne 9, 3) := by decide +kernel
theorem dX7_seenFrom_66 : decode cX7_seenFrom 66 = .ok (.iload_n 2, 1) := by decide +kernel
theorem dX7_seenFrom_67 : decode cX7_seenFrom 67 = .ok (.iconst 1, 1) := by decide +kernel
theorem dX7_seenFrom_68 : decode cX7_seenFrom 68 = .ok (.iload_n 3, 1) := by decide +kernel
theorem dX7_seenFrom_69 : decode cX7_seenFrom 69 = .ok (.ishl, 1) := by decide +kernel
theorem dX7_seenFrom_70 : decode cX7_seenFrom 70 = .ok (.ior, 1) := by decide +kernel
theorem dX7_seenFrom_71 : decode cX7_seenFrom 71 = .ok (.istore_n 2, 1) := by decide +kernel
theorem dX7_seenFrom_72 : decode cX7_seenFrom 72 = .ok (.iinc 3 1, 3) := by decide +kernel
theorem dX7_seenFrom_75 : decode cX7_seenFrom 75 = .ok (.goto (-71), 3) := by decide +kernel
theorem dX7_seenFrom_78 : decode cX7_seenFrom 78 = .ok (.iload_n 2, 1) := by decide +kernel
theorem dX7_seenFrom_79 : decode cX7_seenFrom 79 = .ok (.ireturn, 1) := by decide +kernel
theorem dX7_mostAlike_0 : decode cX7_mostAlike 0 = .ok (.iconst 0, 1) := by decide +kernel
theorem dX7_mostAlike_1 : decode cX7_mostAlike 1 = .ok (.istore_n 2, 1) := by decide +kernel
theorem dX7_mostAlike_2 : decode cX7_mostAlike 2 = .ok (.iconst 0, 1) := by decide +kernel
theorem dX7_mostAlike_3 : decode cX7_mostAlike 3 = .ok (.istore_n 3, 1) := by decide +kernel
theorem dX7_mostAlike_4 : decode cX7_mostAlike 4 = .ok (.iload_n 3, 1) := by decide +kernel
theorem dX7_mostAlike_5 : decode cX7_mostAlike 5 = .ok (.aload_n 0, 1) := by decide +kernel
theorem dX7_mostAlike_6 : decode cX7_mostAlike 6 = .ok (.getfield 128, 3) := by decide +kernel
theorem dX7_mostAlike_9 : decode cX7_mostAlike 9 = .ok (.if_icmp .ge 68, 3) := by decide +kernel
theorem dX7_mostAlike_12 : decode cX7_mostAlike 12 = .ok (.iconst 0, 1) := by decide +kernel
theorem dX7_mostAlike_13 : decode cX7_mostAlike 13 = .ok (.istore 4, 2) := by decide +kernel
theorem dX7_mostAlike_15 : decode cX7_mostAlike 15 = .ok (.iload 4, 2) := by decide +kernel
theorem dX7_mostAlike_17 : decode cX7_mostAlike 17 = .ok (.aload_n 1, 1) := by decide +kernel
theorem dX7_mostAlike_18 : decode cX7_mostAlike 18 = .ok (.getfield 128, 3) := by decide +kernel
theorem dX7_mostAlike_21 : decode cX7_mostAlike 21 = .ok (.if_icmp .ge 50, 3) := by decide +kernel
theorem dX7_mostAlike_24 : decode cX7_mostAlike 24 = .ok (.aload_n 0, 1) := by decide +kernel
theorem dX7_mostAlike_25 : decode cX7_mostAlike 25 = .ok (.getfield 332, 3) := by decide +kernel
theorem dX7_mostAlike_28 : decode cX7_mostAlike 28 = .ok (.iload_n 3, 1) := by decide +kernel
theorem dX7_mostAlike_29 : decode cX7_mostAlike 29 = .ok (.laload, 1) := by decide +kernel
theorem dX7_mostAlike_30 : decode cX7_mostAlike 30 = .ok (.aload_n 1, 1) := by decide +kernel
theorem dX7_mostAlike_31 : decode cX7_mostAlike 31 = .ok (.getfield 332, 3) := by decide +kernel
theorem dX7_mostAlike_34 : decode cX7_mostAlike 34 = .ok (.iload 4, 2) := by decide +kernel
theorem dX7_mostAlike_36 : decode cX7_mostAlike 36 = .ok (.laload, 1) := by decide +kernel
theorem dX7_mostAlike_37 : decode cX7_mostAlike 37 = .ok (.lxor, 1) := by decide +kernel
theorem dX7_mostAlike_38 : decode cX7_mostAlike 38 = .ok (.lstore 5, 2) := by decide +kernel
theorem dX7_mostAlike_40 : decode cX7_mostAlike 40 = .ok (.lload 5, 2) := by decide +kernel
theorem dX7_mostAlike_42 : decode cX7_mostAlike 42 = .ok (.lconst 0, 1) := by decide +kernel
theorem dX7_mostAlike_43 : decode cX7_mostAlike 43 = .ok (.lcmp, 1) := by decide +kernel
theorem dX7_mostAlike_44 : decode cX7_mostAlike 44 = .ok (.ifCond .ne 5, 3) := by decide +kernel
theorem dX7_mostAlike_47 : decode cX7_mostAlike 47 = .ok (.iconst (-1), 1) := by decide +kernel
theorem dX7_mostAlike_48 : decode cX7_mostAlike 48 = .ok (.ireturn, 1) := by decide +kernel
theorem dX7_mostAlike_49 : decode cX7_mostAlike 49 = .ok (.iload_n 2, 1) := by decide +kernel
theorem dX7_mostAlike_50 : decode cX7_mostAlike 50 = .ok (.lload 5, 2) := by decide +kernel
theorem dX7_mostAlike_52 : decode cX7_mostAlike 52 = .ok (.lload 5, 2) := by decide +kernel
theorem dX7_mostAlike_54 : decode cX7_mostAlike 54 = .ok (.lneg, 1) := by decide +kernel
theorem dX7_mostAlike_55 : decode cX7_mostAlike 55 = .ok (.land, 1) := by decide +kernel
theorem dX7_mostAlike_56 : decode cX7_mostAlike 56 = .ok (.lconst 1, 1) := by decide +kernel
theorem dX7_mostAlike_57 : decode cX7_mostAlike 57 = .ok (.lsub, 1) := by decide +kernel
theorem dX7_mostAlike_58 : decode cX7_mostAlike 58 = .ok (.invokestatic 135, 3) := by decide +kernel
theorem dX7_mostAlike_61 : decode cX7_mostAlike 61 = .ok (.invokestatic 188, 3) := by decide +kernel
theorem dX7_mostAlike_64 : decode cX7_mostAlike 64 = .ok (.istore_n 2, 1) := by decide +kernel
theorem dX7_mostAlike_65 : decode cX7_mostAlike 65 = .ok (.iinc 4 1, 3) := by decide +kernel
theorem dX7_mostAlike_68 : decode cX7_mostAlike 68 = .ok (.goto (-53), 3) := by decide +kernel
theorem dX7_mostAlike_71 : decode cX7_mostAlike 71 = .ok (.iinc 3 1, 3) := by decide +kernel
theorem dX7_mostAlike_74 : decode cX7_mostAlike 74 = .ok (.goto (-70), 3) := by decide +kernel
theorem dX7_mostAlike_77 : decode cX7_mostAlike 77 = .ok (.iload_n 2, 1) := by decide +kernel
theorem dX7_mostAlike_78 : decode cX7_mostAlike 78 = .ok (.ireturn, 1) := by decide +kernel
theorem dX7_findFix_0 : decode cX7_findFix 0 = .ok (.aload_n 0, 1) := by decide +kernel
theorem dX7_findFix_1 : decode cX7_findFix 1 = .ok (.getfield 336, 3) := by decide +kernel
theorem dX7_findFix_4 : decode cX7_findFix 4 = .ok (.ifCond .eq 4, 3) := by decide +kernel
theorem dX7_findFix_7 : decode cX7_findFix 7 = .ok (.return_, 1) := by decide +kernel
theorem dX7_findFix_8 : decode cX7_findFix 8 = .ok (.iconst 0, 1) := by decide +kernel
theorem dX7_findFix_9 : decode cX7_findFix 9 = .ok (.istore_n 1, 1) := by decide +kernel
theorem dX7_findFix_10 : decode cX7_findFix 10 = .ok (.iload_n 1, 1) := by decide +kernel
theorem dX7_findFix_11 : decode cX7_findFix 11 = .ok (.sipush 256, 3) := by decide +kernel
theorem dX7_findFix_14 : decode cX7_findFix 14 = .ok (.if_icmp .ge 20, 3) := by decide +kernel
theorem dX7_findFix_17 : decode cX7_findFix 17 = .ok (.aload_n 0, 1) := by decide +kernel
theorem dX7_findFix_18 : decode cX7_findFix 18 = .ok (.getfield 49, 3) := by decide +kernel
theorem dX7_findFix_21 : decode cX7_findFix 21 = .ok (.iload_n 1, 1) := by decide +kernel
theorem dX7_findFix_22 : decode cX7_findFix 22 = .ok (.aload_n 0, 1) := by decide +kernel
theorem dX7_findFix_23 : decode cX7_findFix 23 = .ok (.iload_n 1, 1) := by decide +kernel
theorem dX7_findFix_24 : decode cX7_findFix 24 = .ok (.invokevirtual 340, 3) := by decide +kernel
theorem dX7_findFix_27 : decode cX7_findFix 27 = .ok (.bastore, 1) := by decide +kernel
theorem dX7_findFix_28 : decode cX7_findFix 28 = .ok (.iinc 1 1, 3) := by decide +kernel
theorem dX7_findFix_31 : decode cX7_findFix 31 = .ok (.goto (-21), 3) := by decide +kernel
theorem dX7_findFix_34 : decode cX7_findFix 34 = .ok (.aload_n 0, 1) := by decide +kernel
theorem dX7_findFix_35 : decode cX7_findFix 35 = .ok (.iconst 1, 1) := by decide +kernel
theorem dX7_findFix_36 : decode cX7_findFix 36 = .ok (.putfield 336, 3) := by decide +kernel
theorem dX7_findFix_39 : decode cX7_findFix 39 = .ok (.return_, 1) := by decide +kernel
theorem dX7_holdsForAll_0 : decode cX7_holdsForAll 0 = .ok (.iconst 0, 1) := by decide +kernel
theorem dX7_holdsForAll_1 : decode cX7_holdsForAll 1 = .ok (.istore_n 2, 1) := by decide +kernel
theorem dX7_holdsForAll_2 : decode cX7_holdsForAll 2 = .ok (.iload_n 2, 1) := by decide +kernel
theorem dX7_holdsForAll_3 : decode cX7_holdsForAll 3 = .ok (.aload_n 0, 1) := by decide +kernel
theorem dX7_holdsForAll_4 : decode cX7_holdsForAll 4 = .ok (.getfield 211, 3) := by decide +kernel
theorem dX7_holdsForAll_7 : decode cX7_holdsForAll 7 = .ok (.if_icmp .ge 43, 3) := by decide +kernel
theorem dX7_holdsForAll_10 : decode cX7_holdsForAll 10 = .ok (.aload_n 0, 1) := by decide +kernel
theorem dX7_holdsForAll_11 : decode cX7_holdsForAll 11 = .ok (.iload_n 1, 1) := by decide +kernel
theorem dX7_holdsForAll_12 : decode cX7_holdsForAll 12 = .ok (.aload_n 0, 1) := by decide +kernel
theorem dX7_holdsForAll_13 : decode cX7_holdsForAll 13 = .ok (.getfield 18, 3) := by decide +kernel
theorem dX7_holdsForAll_16 : decode cX7_holdsForAll 16 = .ok (.aload_n 0, 1) := by decide +kernel
theorem dX7_holdsForAll_17 : decode cX7_holdsForAll 17 = .ok (.getfield 22, 3) := by decide +kernel
theorem dX7_holdsForAll_20 : decode cX7_holdsForAll 20 = .ok (.iload_n 2, 1) := by decide +kernel
theorem dX7_holdsForAll_21 : decode cX7_holdsForAll 21 = .ok (.iaload, 1) := by decide +kernel
theorem dX7_holdsForAll_22 : decode cX7_holdsForAll 22 = .ok (.bipush 16, 2) := by decide +kernel
theorem dX7_holdsForAll_24 : decode cX7_holdsForAll 24 = .ok (.ishr, 1) := by decide +kernel
theorem dX7_holdsForAll_25 : decode cX7_holdsForAll 25 = .ok (.aaload, 1) := by decide +kernel
theorem dX7_holdsForAll_26 : decode cX7_holdsForAll 26 = .ok (.aload_n 0, 1) := by decide +kernel
theorem dX7_holdsForAll_27 : decode cX7_holdsForAll 27 = .ok (.getfield 22, 3) := by decide +kernel
theorem dX7_holdsForAll_30 : decode cX7_holdsForAll 30 = .ok (.iload_n 2, 1) := by decide +kernel
theorem dX7_holdsForAll_31 : decode cX7_holdsForAll 31 = .ok (.iaload, 1) := by decide +kernel
theorem dX7_holdsForAll_32 : decode cX7_holdsForAll 32 = .ok (.ldc_w 343, 3) := by decide +kernel
theorem dX7_holdsForAll_35 : decode cX7_holdsForAll 35 = .ok (.iand, 1) := by decide +kernel
theorem dX7_holdsForAll_36 : decode cX7_holdsForAll 36 = .ok (.invokevirtual 344, 3) := by decide +kernel
theorem dX7_holdsForAll_39 : decode cX7_holdsForAll 39 = .ok (.ifCond .ne 5, 3) := by decide +kernel
theorem dX7_holdsForAll_42 : decode cX7_holdsForAll 42 = .ok (.iconst 0, 1) := by decide +kernel
theorem dX7_holdsForAll_43 : decode cX7_holdsForAll 43 = .ok (.ireturn, 1) := by decide +kernel
theorem dX7_holdsForAll_44 : decode cX7_holdsForAll 44 = .ok (.iinc 2 1, 3) := by decide +kernel
theorem dX7_holdsForAll_47 : decode cX7_holdsForAll 47 = .ok (.goto (-45), 3) := by decide +kernel
theorem dX7_holdsForAll_50 : decode cX7_holdsForAll 50 = .ok (.iconst 1, 1) := by decide +kernel
theorem dX7_holdsForAll_51 : decode cX7_holdsForAll 51 = .ok (.ireturn, 1) := by decide +kernel
theorem dX7_holdsFor_0 : decode cX7_holdsFor 0 = .ok (.aload_n 0, 1) := by decide +kernel
theorem dX7_holdsFor_1 : decode cX7_holdsFor 1 = .ok (.aload_n 2, 1) := by decide +kernel
theorem dX7_holdsFor_2 : decode cX7_holdsFor 2 = .ok (.invokevirtual 325, 3) := by decide +kernel
theorem dX7_holdsFor_5 : decode cX7_holdsFor 5 = .ok (.istore 4, 2) := by decide +kernel
theorem dX7_holdsFor_7 : decode cX7_holdsFor 7 = .ok (.aload_n 2, 1) := by decide +kernel
theorem dX7_holdsFor_8 : decode cX7_holdsFor 8 = .ok (.getfield 119, 3) := by decide +kernel
theorem dX7_holdsFor_11 : decode cX7_holdsFor 11 = .ok (.bipush 15, 2) := by decide +kernel
theorem dX7_holdsFor_13 : decode cX7_holdsFor 13 = .ok (.iand, 1) := by decide +kernel
theorem dX7_holdsFor_14 : decode cX7_holdsFor 14 = .ok (.istore 5, 2) := by decide +kernel
theorem dX7_holdsFor_16 : decode cX7_holdsFor 16 = .ok (.aload_n 2, 1) := by decide +kernel
theorem dX7_holdsFor_17 : decode cX7_holdsFor 17 = .ok (.getfield 119, 3) := by decide +kernel
theorem dX7_holdsFor_20 : decode cX7_holdsFor 20 = .ok (.iconst 4, 1) := by decide +kernel
theorem dX7_holdsFor_21 : decode cX7_holdsFor 21 = .ok (.ishr, 1) := by decide +kernel
theorem dX7_holdsFor_22 : decode cX7_holdsFor 22 = .ok (.istore 6, 2) := by decide +kernel
theorem dX7_holdsFor_24 : decode cX7_holdsFor 24 = .ok (.bipush 15, 2) := by decide +kernel
theorem dX7_holdsFor_26 : decode cX7_holdsFor 26 = .ok (.iload 5, 2) := by decide +kernel
theorem dX7_holdsFor_28 : decode cX7_holdsFor 28 = .ok (.aload_n 2, 1) := by decide +kernel
theorem dX7_holdsFor_29 : decode cX7_holdsFor 29 = .ok (.getfield 144, 3) := by decide +kernel
theorem dX7_holdsFor_32 : decode cX7_holdsFor 32 = .ok (.iadd, 1) := by decide +kernel
theorem dX7_holdsFor_33 : decode cX7_holdsFor 33 = .ok (.invokestatic 348, 3) := by decide +kernel
theorem dX7_holdsFor_36 : decode cX7_holdsFor 36 = .ok (.istore 7, 2) := by decide +kernel
theorem dX7_holdsFor_38 : decode cX7_holdsFor 38 = .ok (.bipush 15, 2) := by decide +kernel
theorem dX7_holdsFor_40 : decode cX7_holdsFor 40 = .ok (.iload 6, 2) := by decide +kernel
theorem dX7_holdsFor_42 : decode cX7_holdsFor 42 = .ok (.aload_n 2, 1) := by decide +kernel
theorem dX7_holdsFor_43 : decode cX7_holdsFor 43 = .ok (.getfield 144, 3) := by decide +kernel
theorem dX7_holdsFor_46 : decode cX7_holdsFor 46 = .ok (.iadd, 1) := by decide +kernel
theorem dX7_holdsFor_47 : decode cX7_holdsFor 47 = .ok (.invokestatic 348, 3) := by decide +kernel
theorem dX7_holdsFor_50 : decode cX7_holdsFor 50 = .ok (.istore 8, 2) := by decide +kernel
theorem dX7_holdsFor_52 : decode cX7_holdsFor 52 = .ok (.iconst 0, 1) := by decide +kernel
theorem dX7_holdsFor_53 : decode cX7_holdsFor 53 = .ok (.iload 6, 2) := by decide +kernel
theorem dX7_holdsFor_55 : decode cX7_holdsFor 55 = .ok (.aload_n 2, 1) := by decide +kernel
theorem dX7_holdsFor_56 : decode cX7_holdsFor 56 = .ok (.getfield 144, 3) := by decide +kernel
theorem dX7_holdsFor_59 : decode cX7_holdsFor 59 = .ok (.isub, 1) := by decide +kernel
theorem dX7_holdsFor_60 : decode cX7_holdsFor 60 = .ok (.invokestatic 188, 3) := by decide +kernel
theorem dX7_holdsFor_63 : decode cX7_holdsFor 63 = .ok (.istore 9, 2) := by decide +kernel
theorem dX7_holdsFor_65 : decode cX7_holdsFor 65 = .ok (.iload 9, 2) := by decide +kernel
theorem dX7_holdsFor_67 : decode cX7_holdsFor 67 = .ok (.iload 8, 2) := by decide +kernel
theorem dX7_holdsFor_69 : decode cX7_holdsFor 69 = .ok (.if_icmp .gt 68, 3) := by decide +kernel
theorem dX7_holdsFor_72 : decode cX7_holdsFor 72 = .ok (.iconst 0, 1) := by decide +kernel
theorem dX7_holdsFor_73 : decode cX7_holdsFor 73 = .ok (.iload 5, 2) := by decide +kernel
theorem dX7_holdsFor_75 : decode cX7_holdsFor 75 = .ok (.aload_n 2, 1) := by decide +kernel
theorem dX7_holdsFor_76 : decode cX7_holdsFor 76 = .ok (.getfield 144, 3) := by decide +kernel
theorem dX7_holdsFor_79 : decode cX7_holdsFor 79 = .ok (.isub, 1) := by decide +kernel
theorem dX7_holdsFor_80 : decode cX7_holdsFor 80 = .ok (.invokestatic 188, 3) := by decide +kernel
theorem dX7_holdsFor_83 : decode cX7_holdsFor 83 = .ok (.istore 10, 2) := by decide +kernel
theorem dX7_holdsFor_85 : decode cX7_holdsFor 85 = .ok (.iload 10, 2) := by decide +kernel
theorem dX7_holdsFor_87 : decode cX7_holdsFor 87 = .ok (.iload 7, 2) := by decide +kernel
theorem dX7_holdsFor_89 : decode cX7_holdsFor 89 = .ok (.if_icmp .gt 42, 3) := by decide +kernel
theorem dX7_holdsFor_92 : decode cX7_holdsFor 92 = .ok (.iload 9, 2) := by decide +kernel
theorem dX7_holdsFor_94 : decode cX7_holdsFor 94 = .ok (.bipush 16, 2) := by decide +kernel
theorem dX7_holdsFor_96 : decode cX7_holdsFor 96 = .ok (.imul, 1) := by decide +kernel
theorem dX7_holdsFor_97 : decode cX7_holdsFor 97 = .ok (.iload 10, 2) := by decide +kernel
theorem dX7_holdsFor_99 : decode cX7_holdsFor 99 = .ok (.iadd, 1) := by decide +kernel
theorem dX7_holdsFor_100 : decode cX7_holdsFor 100 = .ok (.istore 11, 2) := by decide +kernel
theorem dX7_holdsFor_102 : decode cX7_holdsFor 102 = .ok (.iload 4, 2) := by decide +kernel
theorem dX7_holdsFor_104 : decode cX7_holdsFor 104 = .ok (.iload_n 1, 1) := by decide +kernel
theorem dX7_holdsFor_105 : decode cX7_holdsFor 105 = .ok (.iload 11, 2) := by decide +kernel
theorem dX7_holdsFor_107 : decode cX7_holdsFor 107 = .ok (.invokestatic 329, 3) := by decide +kernel
theorem dX7_holdsFor_110 : decode cX7_holdsFor 110 = .ok (.ifCond .eq 15, 3) := by decide +kernel
theorem dX7_holdsFor_113 : decode cX7_holdsFor 113 = .ok (.iload_n 3, 1) := by decide +kernel
theorem dX7_holdsFor_114 : decode cX7_holdsFor 114 = .ok (.iload_n 1, 1) := by decide +kernel
theorem dX7_holdsFor_115 : decode cX7_holdsFor 115 = .ok (.iload 11, 2) := by decide +kernel
theorem dX7_holdsFor_117 : decode cX7_holdsFor 117 = .ok (.invokestatic 351, 3) := by decide +kernel
theorem dX7_holdsFor_120 : decode cX7_holdsFor 120 = .ok (.ifCond .eq 5, 3) := by decide +kernel
theorem dX7_holdsFor_123 : decode cX7_holdsFor 123 = .ok (.iconst 1, 1) := by decide +kernel
theorem dX7_holdsFor_124 : decode cX7_holdsFor 124 = .ok (.ireturn, 1) := by decide +kernel
theorem dX7_holdsFor_125 : decode cX7_holdsFor 125 = .ok (.iinc 10 1, 3) := by decide +kernel
theorem dX7_holdsFor_128 : decode cX7_holdsFor 128 = .ok (.goto (-43), 3) := by decide +kernel
theorem dX7_holdsFor_131 : decode cX7_holdsFor 131 = .ok (.iinc 9 1, 3) := by decide +kernel
theorem dX7_holdsFor_134 : decode cX7_holdsFor 134 = .ok (.goto (-69), 3) := by decide +kernel
theorem dX7_holdsFor_137 : decode cX7_holdsFor 137 = .ok (.iconst 0, 1) := by decide +kernel
theorem dX7_holdsFor_138 : decode cX7_holdsFor 138 = .ok (.ireturn, 1) := by decide +kernel
theorem dX7_liesIn_0 : decode cX7_liesIn 0 = .ok (.iload_n 1, 1) := by decide +kernel
theorem dX7_liesIn_1 : decode cX7_liesIn 1 = .ok (.iload_n 2, 1) := by decide +kernel
theorem dX7_liesIn_2 : decode cX7_liesIn 2 = .ok (.if_icmp .eq 16, 3) := by decide +kernel
theorem dX7_liesIn_5 : decode cX7_liesIn 5 = .ok (.iload_n 0, 1) := by decide +kernel
theorem dX7_liesIn_6 : decode cX7_liesIn 6 = .ok (.iload_n 1, 1) := by decide +kernel
theorem dX7_liesIn_7 : decode cX7_liesIn 7 = .ok (.iload_n 2, 1) := by decide +kernel
theorem dX7_liesIn_8 : decode cX7_liesIn 8 = .ok (.invokestatic 161, 3) := by decide +kernel
theorem dX7_liesIn_11 : decode cX7_liesIn 11 = .ok (.ishr, 1) := by decide +kernel
theorem dX7_liesIn_12 : decode cX7_liesIn 12 = .ok (.iconst 1, 1) := by decide +kernel
theorem dX7_liesIn_13 : decode cX7_liesIn 13 = .ok (.iand, 1) := by decide +kernel
theorem dX7_liesIn_14 : decode cX7_liesIn 14 = .ok (.iconst 1, 1) := by decide +kernel
theorem dX7_liesIn_15 : decode cX7_liesIn 15 = .ok (.if_icmp .ne 7, 3) := by decide +kernel
theorem dX7_liesIn_18 : decode cX7_liesIn 18 = .ok (.iconst 1, 1) := by decide +kernel
theorem dX7_liesIn_19 : decode cX7_liesIn 19 = .ok (.goto 4, 3) := by decide +kernel
theorem dX7_liesIn_22 : decode cX7_liesIn 22 = .ok (.iconst 0, 1) := by decide +kernel
theorem dX7_liesIn_23 : decode cX7_liesIn 23 = .ok (.ireturn, 1) := by decide +kernel
theorem dX7_placeInFairway_0 : decode cX7_placeInFairway 0 = .ok (.iconst 0, 1) := by decide +kernel
theorem dX7_placeInFairway_1 : decode cX7_placeInFairway 1 = .ok (.istore_n 2, 1) := by decide +kernel
theorem dX7_placeInFairway_2 : decode cX7_placeInFairway 2 = .ok (.iload_n 2, 1) := by decide +kernel
theorem dX7_placeInFairway_3 : decode cX7_placeInFairway 3 = .ok (.aload_n 0, 1) := by decide +kernel
theorem dX7_placeInFairway_4 : decode cX7_placeInFairway 4 = .ok (.getfield 231, 3) := by decide +kernel
theorem dX7_placeInFairway_7 : decode cX7_placeInFairway 7 = .ok (.if_icmp .ge 21, 3) := by decide +kernel
theorem dX7_placeInFairway_10 : decode cX7_placeInFairway 10 = .ok (.aload_n 0, 1) := by decide +kernel
theorem dX7_placeInFairway_11 : decode cX7_placeInFairway 11 = .ok (.getfield 26, 3) := by decide +kernel
theorem dX7_placeInFairway_14 : decode cX7_placeInFairway 14 = .ok (.iload_n 2, 1) := by decide +kernel
theorem dX7_placeInFairway_15 : decode cX7_placeInFairway 15 = .ok (.iaload, 1) := by decide +kernel
theorem dX7_placeInFairway_16 : decode cX7_placeInFairway 16 = .ok (.iload_n 1, 1) := by decide +kernel
theorem dX7_placeInFairway_17 : decode cX7_placeInFairway 17 = .ok (.if_icmp .ne 5, 3) := by decide +kernel
theorem dX7_placeInFairway_20 : decode cX7_placeInFairway 20 = .ok (.iload_n 2, 1) := by decide +kernel
theorem dX7_placeInFairway_21 : decode cX7_placeInFairway 21 = .ok (.ireturn, 1) := by decide +kernel
theorem dX7_placeInFairway_22 : decode cX7_placeInFairway 22 = .ok (.iinc 2 1, 3) := by decide +kernel
theorem dX7_placeInFairway_25 : decode cX7_placeInFairway 25 = .ok (.goto (-23), 3) := by decide +kernel
theorem dX7_placeInFairway_28 : decode cX7_placeInFairway 28 = .ok (.iconst (-1), 1) := by decide +kernel
theorem dX7_placeInFairway_29 : decode cX7_placeInFairway 29 = .ok (.ireturn, 1) := by decide +kernel
theorem dX7_setFairway_0 : decode cX7_setFairway 0 = .ok (.aload_n 0, 1) := by decide +kernel
theorem dX7_setFairway_1 : decode cX7_setFairway 1 = .ok (.iload_n 1, 1) := by decide +kernel
theorem dX7_setFairway_2 : decode cX7_setFairway 2 = .ok (.invokevirtual 228, 3) := by decide +kernel
theorem dX7_setFairway_5 : decode cX7_setFairway 5 = .ok (.istore_n 3, 1) := by decide +kernel
theorem dX7_setFairway_6 : decode cX7_setFairway 6 = .ok (.iload_n 2, 1) := by decide +kernel
theorem dX7_setFairway_7 : decode cX7_setFairway 7 = .ok (.ifCond .eq 36, 3) := by decide +kernel
theorem dX7_setFairway_10 : decode cX7_setFairway 10 = .ok (.iload_n 3, 1) := by decide +kernel
theorem dX7_setFairway_11 : decode cX7_setFairway 11 = .ok (.ifCond .ge 32, 3) := by decide +kernel
theorem dX7_setFairway_14 : decode cX7_setFairway 14 = .ok (.aload_n 0, 1) := by decide +kernel
theorem dX7_setFairway_15 : decode cX7_setFairway 15 = .ok (.getfield 231, 3) := by decide +kernel
theorem dX7_setFairway_18 : decode cX7_setFairway 18 = .ok (.bipush 12, 2) := by decide +kernel
theorem dX7_setFairway_20 : decode cX7_setFairway 20 = .ok (.if_icmp .ge 23, 3) := by decide +kernel
theorem dX7_setFairway_23 : decode cX7_setFairway 23 = .ok (.aload_n 0, 1) := by decide +kernel
theorem dX7_setFairway_24 : decode cX7_setFairway 24 = .ok (.getfield 26, 3) := by decide +kernel
theorem dX7_setFairway_27 : decode cX7_setFairway 27 = .ok (.aload_n 0, 1) := by decide +kernel
theorem dX7_setFairway_28 : decode cX7_setFairway 28 = .ok (.getfield 231, 3) := by decide +kernel
theorem dX7_setFairway_31 : decode cX7_setFairway 31 = .ok (.iload_n 1, 1) := by decide +kernel
theorem dX7_setFairway_32 : decode cX7_setFairway 32 = .ok (.iastore, 1) := by decide +kernel
theorem dX7_setFairway_33 : decode cX7_setFairway 33 = .ok (.aload_n 0, 1) := by decide +kernel
theorem dX7_setFairway_34 : decode cX7_setFairway 34 = .ok (.dup, 1) := by decide +kernel
theorem dX7_setFairway_35 : decode cX7_setFairway 35 = .ok (.getfield 231, 3) := by decide +kernel
theorem dX7_setFairway_38 : decode cX7_setFairway 38 = .ok (.iconst 1, 1) := by decide +kernel
theorem dX7_setFairway_39 : decode cX7_setFairway 39 = .ok (.iadd, 1) := by decide +kernel
theorem dX7_setFairway_40 : decode cX7_setFairway 40 = .ok (.putfield 231, 3) := by decide +kernel
theorem dX7_setFairway_43 : decode cX7_setFairway 43 = .ok (.iload_n 2, 1) := by decide +kernel
theorem dX7_setFairway_44 : decode cX7_setFairway 44 = .ok (.ifCond .ne 32, 3) := by decide +kernel
theorem dX7_setFairway_47 : decode cX7_setFairway 47 = .ok (.iload_n 3, 1) := by decide +kernel
theorem dX7_setFairway_48 : decode cX7_setFairway 48 = .ok (.ifCond .lt 28, 3) := by decide +kernel
theorem dX7_setFairway_51 : decode cX7_setFairway 51 = .ok (.aload_n 0, 1) := by decide +kernel
theorem dX7_setFairway_52 : decode cX7_setFairway 52 = .ok (.dup, 1) := by decide +kernel
theorem dX7_setFairway_53 : decode cX7_setFairway 53 = .ok (.getfield 231, 3) := by decide +kernel
theorem dX7_setFairway_56 : decode cX7_setFairway 56 = .ok (.iconst 1, 1) := by decide +kernel
theorem dX7_setFairway_57 : decode cX7_setFairway 57 = .ok (.isub, 1) := by decide +kernel
theorem dX7_setFairway_58 : decode cX7_setFairway 58 = .ok (.putfield 231, 3) := by decide +kernel
theorem dX7_setFairway_61 : decode cX7_setFairway 61 = .ok (.aload_n 0, 1) := by decide +kernel
theorem dX7_setFairway_62 : decode cX7_setFairway 62 = .ok (.getfield 26, 3) := by decide +kernel
theorem dX7_setFairway_65 : decode cX7_setFairway 65 = .ok (.iload_n 3, 1) := by decide +kernel
theorem dX7_setFairway_66 : decode cX7_setFairway 66 = .ok (.aload_n 0, 1) := by decide +kernel
theorem dX7_setFairway_67 : decode cX7_setFairway 67 = .ok (.getfield 26, 3) := by decide +kernel
theorem dX7_setFairway_70 : decode cX7_setFairway 70 = .ok (.aload_n 0, 1) := by decide +kernel
theorem dX7_setFairway_71 : decode cX7_setFairway 71 = .ok (.getfield 231, 3) := by decide +kernel
theorem dX7_setFairway_74 : decode cX7_setFairway 74 = .ok (.iaload, 1) := by decide +kernel
theorem dX7_setFairway_75 : decode cX7_setFairway 75 = .ok (.iastore, 1) := by decide +kernel
theorem dX7_setFairway_76 : decode cX7_setFairway 76 = .ok (.return_, 1) := by decide +kernel
theorem dX7_lightsFairway_0 : decode cX7_lightsFairway 0 = .ok (.iconst 0, 1) := by decide +kernel
theorem dX7_lightsFairway_1 : decode cX7_lightsFairway 1 = .ok (.istore_n 2, 1) := by decide +kernel
theorem dX7_lightsFairway_2 : decode cX7_lightsFairway 2 = .ok (.iload_n 2, 1) := by decide +kernel
theorem dX7_lightsFairway_3 : decode cX7_lightsFairway 3 = .ok (.aload_n 0, 1) := by decide +kernel
theorem dX7_lightsFairway_4 : decode cX7_lightsFairway 4 = .ok (.getfield 231, 3) := by decide +kernel
theorem dX7_lightsFairway_7 : decode cX7_lightsFairway 7 = .ok (.if_icmp .ge 26, 3) := by decide +kernel
theorem dX7_lightsFairway_10 : decode cX7_lightsFairway 10 = .ok (.iload_n 1, 1) := by decide +kernel
theorem dX7_lightsFairway_11 : decode cX7_lightsFairway 11 = .ok (.aload_n 0, 1) := by decide +kernel
theorem dX7_lightsFairway_12 : decode cX7_lightsFairway 12 = .ok (.getfield 29, 3) := by decide +kernel
theorem dX7_lightsFairway_15 : decode cX7_lightsFairway 15 = .ok (.iload_n 2, 1) := by decide +kernel
theorem dX7_lightsFairway_16 : decode cX7_lightsFairway 16 = .ok (.iaload, 1) := by decide +kernel
theorem dX7_lightsFairway_17 : decode cX7_lightsFairway 17 = .ok (.iand, 1) := by decide +kernel
theorem dX7_lightsFairway_18 : decode cX7_lightsFairway 18 = .ok (.invokestatic 238, 3) := by decide +kernel
theorem dX7_lightsFairway_21 : decode cX7_lightsFairway 21 = .ok (.iconst 2, 1) := by decide +kernel
theorem dX7_lightsFairway_22 : decode cX7_lightsFairway 22 = .ok (.if_icmp .ge 5, 3) := by decide +kernel
theorem dX7_lightsFairway_25 : decode cX7_lightsFairway 25 = .ok (.iconst 0, 1) := by decide +kernel
theorem dX7_lightsFairway_26 : decode cX7_lightsFairway 26 = .ok (.ireturn, 1) := by decide +kernel
theorem dX7_lightsFairway_27 : decode cX7_lightsFairway 27 = .ok (.iinc 2 1, 3) := by decide +kernel
theorem dX7_lightsFairway_30 : decode cX7_lightsFairway 30 = .ok (.goto (-28), 3) := by decide +kernel
theorem dX7_lightsFairway_33 : decode cX7_lightsFairway 33 = .ok (.iconst 1, 1) := by decide +kernel
theorem dX7_lightsFairway_34 : decode cX7_lightsFairway 34 = .ok (.ireturn, 1) := by decide +kernel
theorem dX7_findLandings_0 : decode cX7_findLandings 0 = .ok (.aload_n 0, 1) := by decide +kernel
theorem dX7_findLandings_1 : decode cX7_findLandings 1 = .ok (.getfield 354, 3) := by decide +kernel
theorem dX7_findLandings_4 : decode cX7_findLandings 4 = .ok (.ifCond .ne 31, 3) := by decide +kernel
theorem dX7_findLandings_7 : decode cX7_findLandings 7 = .ok (.aload_n 0, 1) := by decide +kernel
theorem dX7_findLandings_8 : decode cX7_findLandings 8 = .ok (.getfield 45, 3) := by decide +kernel
theorem dX7_findLandings_11 : decode cX7_findLandings 11 = .ok (.aload_n 0, 1) := by decide +kernel
theorem dX7_findLandings_12 : decode cX7_findLandings 12 = .ok (.getfield 18, 3) := by decide +kernel
theorem dX7_findLandings_15 : decode cX7_findLandings 15 = .ok (.aload_n 0, 1) := by decide +kernel
theorem dX7_findLandings_16 : decode cX7_findLandings 16 = .ok (.getfield 89, 3) := by decide +kernel
theorem dX7_findLandings_19 : decode cX7_findLandings 19 = .ok (.aload_n 0, 1) := by decide +kernel
theorem dX7_findLandings_20 : decode cX7_findLandings 20 = .ok (.getfield 39, 3) := by decide +kernel
theorem dX7_findLandings_23 : decode cX7_findLandings 23 = .ok (.aload_n 0, 1) := by decide +kernel
theorem dX7_findLandings_24 : decode cX7_findLandings 24 = .ok (.getfield 177, 3) := by decide +kernel
theorem dX7_findLandings_27 : decode cX7_findLandings 27 = .ok (.invokevirtual 357, 3) := by decide +kernel
theorem dX7_findLandings_30 : decode cX7_findLandings 30 = .ok (.aload_n 0, 1) := by decide +kernel
theorem dX7_findLandings_31 : decode cX7_findLandings 31 = .ok (.iconst 1, 1) := by decide +kernel
theorem dX7_findLandings_32 : decode cX7_findLandings 32 = .ok (.putfield 354, 3) := by decide +kernel
theorem dX7_findLandings_35 : decode cX7_findLandings 35 = .ok (.return_, 1) := by decide +kernel
theorem dX7_firstWrong_0 : decode cX7_firstWrong 0 = .ok (.iconst 0, 1) := by decide +kernel
theorem dX7_firstWrong_1 : decode cX7_firstWrong 1 = .ok (.istore_n 2, 1) := by decide +kernel
theorem dX7_firstWrong_2 : decode cX7_firstWrong 2 = .ok (.iconst 0, 1) := by decide +kernel
theorem dX7_firstWrong_3 : decode cX7_firstWrong 3 = .ok (.istore_n 3, 1) := by decide +kernel
theorem dX7_firstWrong_4 : decode cX7_firstWrong 4 = .ok (.iconst 0, 1) := by decide +kernel
theorem dX7_firstWrong_5 : decode cX7_firstWrong 5 = .ok (.istore 4, 2) := by decide +kernel
theorem dX7_firstWrong_7 : decode cX7_firstWrong 7 = .ok (.iload 4, 2) := by decide +kernel
theorem dX7_firstWrong_9 : decode cX7_firstWrong 9 = .ok (.aload_n 1, 1) := by decide +kernel
theorem dX7_firstWrong_10 : decode cX7_firstWrong 10 = .ok (.getfield 204, 3) := by decide +kernel
theorem dX7_firstWrong_13 : decode cX7_firstWrong 13 = .ok (.if_icmp .ge 138, 3) := by decide +kernel
theorem dX7_firstWrong_16 : decode cX7_firstWrong 16 = .ok (.aload_n 0, 1) := by decide +kernel
theorem dX7_firstWrong_17 : decode cX7_firstWrong 17 = .ok (.getfield 177, 3) := by decide +kernel
theorem dX7_firstWrong_20 : decode cX7_firstWrong 20 = .ok (.iload 4, 2) := by decide +kernel
theorem dX7_firstWrong_22 : decode cX7_firstWrong 22 = .ok (.iadd, 1) := by decide +kernel
theorem dX7_firstWrong_23 : decode cX7_firstWrong 23 = .ok (.bipush 20, 2) := by decide +kernel
theorem dX7_firstWrong_25 : decode cX7_firstWrong 25 = .ok (.if_icmp .ge 126, 3) := by decide +kernel
theorem dX7_firstWrong_28 : decode cX7_firstWrong 28 = .ok (.aload_n 1, 1) := by decide +kernel
theorem dX7_firstWrong_29 : decode cX7_firstWrong 29 = .ok (.getfield 269, 3) := by decide +kernel
theorem dX7_firstWrong_32 : decode cX7_firstWrong 32 = .ok (.iload 4, 2) := by decide +kernel
theorem dX7_firstWrong_34 : decode cX7_firstWrong 34 = .ok (.iaload, 1) := by decide +kernel
theorem dX7_firstWrong_35 : decode cX7_firstWrong 35 = .ok (.istore 5, 2) := by decide +kernel
theorem dX7_firstWrong_37 : decode cX7_firstWrong 37 = .ok (.iload 5, 2) := by decide +kernel
theorem dX7_firstWrong_39 : decode cX7_firstWrong 39 = .ok (.iconst (-1), 1) := by decide +kernel
theorem dX7_firstWrong_40 : decode cX7_firstWrong 40 = .ok (.if_icmp .ne 6, 3) := by decide +kernel
theorem dX7_firstWrong_43 : decode cX7_firstWrong 43 = .ok (.goto 102, 3) := by decide +kernel
theorem dX7_firstWrong_46 : decode cX7_firstWrong 46 = .ok (.aload_n 0, 1) := by decide +kernel
theorem dX7_firstWrong_47 : decode cX7_firstWrong 47 = .ok (.iload 5, 2) := by decide +kernel
theorem dX7_firstWrong_49 : decode cX7_firstWrong 49 = .ok (.invokevirtual 108, 3) := by decide +kernel
theorem dX7_firstWrong_52 : decode cX7_firstWrong 52 = .ok (.ifCond .eq 45, 3) := by decide +kernel
theorem dX7_firstWrong_55 : decode cX7_firstWrong 55 = .ok (.aload_n 0, 1) := by decide +kernel
theorem dX7_firstWrong_56 : decode cX7_firstWrong 56 = .ok (.getfield 18, 3) := by decide +kernel
theorem dX7_firstWrong_59 : decode cX7_firstWrong 59 = .ok (.iload 5, 2) := by decide +kernel
theorem dX7_firstWrong_61 : decode cX7_firstWrong 61 = .ok (.aaload, 1) := by decide +kernel
theorem dX7_firstWrong_62 : decode cX7_firstWrong 62 = .ok (.invokevirtual 259, 3) := by decide +kernel
theorem dX7_firstWrong_65 : decode cX7_firstWrong 65 = .ok (.ifCond .eq 32, 3) := by decide +kernel
theorem dX7_firstWrong_68 : decode cX7_firstWrong 68 = .ok (.aload_n 0, 1) := by decide +kernel
theorem dX7_firstWrong_69 : decode cX7_firstWrong 69 = .ok (.getfield 18, 3) := by decide +kernel
theorem dX7_firstWrong_72 : decode cX7_firstWrong 72 = .ok (.iload 5, 2) := by decide +kernel
theorem dX7_firstWrong_74 : decode cX7_firstWrong 74 = .ok (.aaload, 1) := by decide +kernel
theorem dX7_firstWrong_75 : decode cX7_firstWrong 75 = .ok (.aload_n 0, 1) := by decide +kernel
theorem dX7_firstWrong_76 : decode cX7_firstWrong 76 = .ok (.getfield 39, 3) := by decide +kernel
theorem dX7_firstWrong_79 : decode cX7_firstWrong 79 = .ok (.aload_n 0, 1) := by decide +kernel
theorem dX7_firstWrong_80 : decode cX7_firstWrong 80 = .ok (.getfield 177, 3) := by decide +kernel
theorem dX7_firstWrong_83 : decode cX7_firstWrong 83 = .ok (.iload 4, 2) := by decide +kernel
theorem dX7_firstWrong_85 : decode cX7_firstWrong 85 = .ok (.iadd, 1) := by decide +kernel
theorem dX7_firstWrong_86 : decode cX7_firstWrong 86 = .ok (.iaload, 1) := by decide +kernel
theorem dX7_firstWrong_87 : decode cX7_firstWrong 87 = .ok (.invokevirtual 361, 3) := by decide +kernel
theorem dX7_firstWrong_90 : decode cX7_firstWrong 90 = .ok (.ifCond .eq 7, 3) := by decide +kernel
theorem dX7_firstWrong_93 : decode cX7_firstWrong 93 = .ok (.iconst 1, 1) := by decide +kernel
theorem dX7_firstWrong_94 : decode cX7_firstWrong 94 = .ok (.goto 4, 3) := by decide +kernel
theorem dX7_firstWrong_97 : decode cX7_firstWrong 97 = .ok (.iconst 0, 1) := by decide +kernel
theorem dX7_firstWrong_98 : decode cX7_firstWrong 98 = .ok (.istore 6, 2) := by decide +kernel
theorem dX7_firstWrong_100 : decode cX7_firstWrong 100 = .ok (.iload 6, 2) := by decide +kernel
theorem dX7_firstWrong_102 : decode cX7_firstWrong 102 = .ok (.ifCond .eq 13, 3) := by decide +kernel
theorem dX7_firstWrong_105 : decode cX7_firstWrong 105 = .ok (.iload_n 2, 1) := by decide +kernel
theorem dX7_firstWrong_106 : decode cX7_firstWrong 106 = .ok (.iload 5, 2) := by decide +kernel
theorem dX7_firstWrong_108 : decode cX7_firstWrong 108 = .ok (.ishr, 1) := by decide +kernel
theorem dX7_firstWrong_109 : decode cX7_firstWrong 109 = .ok (.iconst 1, 1) := by decide +kernel
theorem dX7_firstWrong_110 : decode cX7_firstWrong 110 = .ok (.iand, 1) := by decide +kernel
theorem dX7_firstWrong_111 : decode cX7_firstWrong 111 = .ok (.iconst 1, 1) := by decide +kernel
theorem dX7_firstWrong_112 : decode cX7_firstWrong 112 = .ok (.if_icmp .ne 6, 3) := by decide +kernel
theorem dX7_firstWrong_115 : decode cX7_firstWrong 115 = .ok (.iload 4, 2) := by decide +kernel
theorem dX7_firstWrong_117 : decode cX7_firstWrong 117 = .ok (.ireturn, 1) := by decide +kernel
theorem dX7_firstWrong_118 : decode cX7_firstWrong 118 = .ok (.iload_n 2, 1) := by decide +kernel
theorem dX7_firstWrong_119 : decode cX7_firstWrong 119 = .ok (.iconst 1, 1) := by decide +kernel
theorem dX7_firstWrong_120 : decode cX7_firstWrong 120 = .ok (.iload 5, 2) := by decide +kernel
theorem dX7_firstWrong_122 : decode cX7_firstWrong 122 = .ok (.ishl, 1) := by decide +kernel
theorem dX7_firstWrong_123 : decode cX7_firstWrong 123 = .ok (.ior, 1) := by decide +kernel
theorem dX7_firstWrong_124 : decode cX7_firstWrong 124 = .ok (.istore_n 2, 1) := by decide +kernel
theorem dX7_firstWrong_125 : decode cX7_firstWrong 125 = .ok (.iload_n 3, 1) := by decide +kernel
theorem dX7_firstWrong_126 : decode cX7_firstWrong 126 = .ok (.aload_n 0, 1) := by decide +kernel
theorem dX7_firstWrong_127 : decode cX7_firstWrong 127 = .ok (.getfield 18, 3) := by decide +kernel
theorem dX7_firstWrong_130 : decode cX7_firstWrong 130 = .ok (.iload 5, 2) := by decide +kernel
theorem dX7_firstWrong_132 : decode cX7_firstWrong 132 = .ok (.aaload, 1) := by decide +kernel
theorem dX7_firstWrong_133 : decode cX7_firstWrong 133 = .ok (.aload_n 0, 1) := by decide +kernel
theorem dX7_firstWrong_134 : decode cX7_firstWrong 134 = .ok (.getfield 177, 3) := by decide +kernel
theorem dX7_firstWrong_137 : decode cX7_firstWrong 137 = .ok (.iload 4, 2) := by decide +kernel
theorem dX7_firstWrong_139 : decode cX7_firstWrong 139 = .ok (.iadd, 1) := by decide +kernel
theorem dX7_firstWrong_140 : decode cX7_firstWrong 140 = .ok (.invokevirtual 364, 3) := by decide +kernel
theorem dX7_firstWrong_143 : decode cX7_firstWrong 143 = .ok (.iadd, 1) := by decide +kernel
theorem dX7_firstWrong_144 : decode cX7_firstWrong 144 = .ok (.istore_n 3, 1) := by decide +kernel
theorem dX7_firstWrong_145 : decode cX7_firstWrong 145 = .ok (.iinc 4 1, 3) := by decide +kernel
theorem dX7_firstWrong_148 : decode cX7_firstWrong 148 = .ok (.goto (-141), 3) := by decide +kernel
theorem dX7_firstWrong_151 : decode cX7_firstWrong 151 = .ok (.iconst 0, 1) := by decide +kernel
theorem dX7_firstWrong_152 : decode cX7_firstWrong 152 = .ok (.istore 4, 2) := by decide +kernel
theorem dX7_firstWrong_154 : decode cX7_firstWrong 154 = .ok (.iload 4, 2) := by decide +kernel
theorem dX7_firstWrong_156 : decode cX7_firstWrong 156 = .ok (.aload_n 0, 1) := by decide +kernel
theorem dX7_firstWrong_157 : decode cX7_firstWrong 157 = .ok (.getfield 89, 3) := by decide +kernel
theorem dX7_firstWrong_160 : decode cX7_firstWrong 160 = .ok (.if_icmp .ge 46, 3) := by decide +kernel
theorem dX7_firstWrong_163 : decode cX7_firstWrong 163 = .ok (.aload_n 0, 1) := by decide +kernel
theorem dX7_firstWrong_164 : decode cX7_firstWrong 164 = .ok (.getfield 18, 3) := by decide +kernel
theorem dX7_firstWrong_167 : decode cX7_firstWrong 167 = .ok (.iload 4, 2) := by decide +kernel
theorem dX7_firstWrong_169 : decode cX7_firstWrong 169 = .ok (.aaload, 1) := by decide +kernel
theorem dX7_firstWrong_170 : decode cX7_firstWrong 170 = .ok (.invokevirtual 259, 3) := by decide +kernel
theorem dX7_firstWrong_173 : decode cX7_firstWrong 173 = .ok (.ifCond .eq 27, 3) := by decide +kernel
theorem dX7_firstWrong_176 : decode cX7_firstWrong 176 = .ok (.iload_n 2, 1) := by decide +kernel
theorem dX7_firstWrong_177 : decode cX7_firstWrong 177 = .ok (.iload 4, 2) := by decide +kernel
theorem dX7_firstWrong_179 : decode cX7_firstWrong 179 = .ok (.ishr, 1) := by decide +kernel
theorem dX7_firstWrong_180 : decode cX7_firstWrong 180 = .ok (.iconst 1, 1) := by decide +kernel
theorem dX7_firstWrong_181 : decode cX7_firstWrong 181 = .ok (.iand, 1) := by decide +kernel
theorem dX7_firstWrong_182 : decode cX7_firstWrong 182 = .ok (.ifCond .ne 18, 3) := by decide +kernel
theorem dX7_firstWrong_185 : decode cX7_firstWrong 185 = .ok (.iload_n 3, 1) := by decide +kernel
theorem dX7_firstWrong_186 : decode cX7_firstWrong 186 = .ok (.aload_n 0, 1) := by decide +kernel
theorem dX7_firstWrong_187 : decode cX7_firstWrong 187 = .ok (.getfield 18, 3) := by decide +kernel
theorem dX7_firstWrong_190 : decode cX7_firstWrong 190 = .ok (.iload 4, 2) := by decide +kernel
theorem dX7_firstWrong_192 : decode cX7_firstWrong 192 = .ok (.aaload, 1) := by decide +kernel
theorem dX7_firstWrong_193 : decode cX7_firstWrong 193 = .ok (.bipush 20, 2) := by decide +kernel
theorem dX7_firstWrong_195 : decode cX7_firstWrong 195 = .ok (.invokevirtual 364, 3) := by decide +kernel
theorem dX7_firstWrong_198 : decode cX7_firstWrong 198 = .ok (.iadd, 1) := by decide +kernel
theorem dX7_firstWrong_199 : decode cX7_firstWrong 199 = .ok (.istore_n 3, 1) := by decide +kernel
theorem dX7_firstWrong_200 : decode cX7_firstWrong 200 = .ok (.iinc 4 1, 3) := by decide +kernel
theorem dX7_firstWrong_203 : decode cX7_firstWrong 203 = .ok (.goto (-49), 3) := by decide +kernel
theorem dX7_firstWrong_206 : decode cX7_firstWrong 206 = .ok (.iload_n 3, 1) := by decide +kernel
theorem dX7_firstWrong_207 : decode cX7_firstWrong 207 = .ok (.aload_n 0, 1) := by decide +kernel
theorem dX7_firstWrong_208 : decode cX7_firstWrong 208 = .ok (.getfield 45, 3) := by decide +kernel
theorem dX7_firstWrong_211 : decode cX7_firstWrong 211 = .ok (.getfield 275, 3) := by decide +kernel
theorem dX7_firstWrong_214 : decode cX7_firstWrong 214 = .ok (.if_icmp .le 10, 3) := by decide +kernel
theorem dX7_firstWrong_217 : decode cX7_firstWrong 217 = .ok (.aload_n 1, 1) := by decide +kernel
theorem dX7_firstWrong_218 : decode cX7_firstWrong 218 = .ok (.getfield 204, 3) := by decide +kernel
theorem dX7_firstWrong_221 : decode cX7_firstWrong 221 = .ok (.goto 4, 3) := by decide +kernel
theorem dX7_firstWrong_224 : decode cX7_firstWrong 224 = .ok (.iconst (-1), 1) := by decide +kernel
theorem dX7_firstWrong_225 : decode cX7_firstWrong 225 = .ok (.ireturn, 1) := by decide +kernel
theorem dX7_remember_0 : decode cX7_remember 0 = .ok (.aload_n 0, 1) := by decide +kernel
theorem dX7_remember_1 : decode cX7_remember 1 = .ok (.invokevirtual 303, 3) := by decide +kernel
theorem dX7_remember_4 : decode cX7_remember 4 = .ok (.aload_n 0, 1) := by decide +kernel
theorem dX7_remember_5 : decode cX7_remember 5 = .ok (.getfield 62, 3) := by decide +kernel
theorem dX7_remember_8 : decode cX7_remember 8 = .ok (.invokevirtual 367, 3) := by decide +kernel
theorem dX7_remember_11 : decode cX7_remember 11 = .ok (.astore 4, 2) := by decide +kernel
theorem dX7_remember_13 : decode cX7_remember 13 = .ok (.aload 4, 2) := by decide +kernel
theorem dX7_remember_15 : decode cX7_remember 15 = .ok (.iload_n 1, 1) := by decide +kernel
theorem dX7_remember_16 : decode cX7_remember 16 = .ok (.putfield 370, 3) := by decide +kernel
theorem dX7_remember_19 : decode cX7_remember 19 = .ok (.aload 4, 2) := by decide +kernel
theorem dX7_remember_21 : decode cX7_remember 21 = .ok (.iload_n 2, 1) := by decide +kernel
theorem dX7_remember_22 : decode cX7_remember 22 = .ok (.putfield 373, 3) := by decide +kernel
theorem dX7_remember_25 : decode cX7_remember 25 = .ok (.aload 4, 2) := by decide +kernel
theorem dX7_remember_27 : decode cX7_remember 27 = .ok (.iload_n 3, 1) := by decide +kernel
theorem dX7_remember_28 : decode cX7_remember 28 = .ok (.putfield 376, 3) := by decide +kernel
theorem dX7_remember_31 : decode cX7_remember 31 = .ok (.aload 4, 2) := by decide +kernel
theorem dX7_remember_33 : decode cX7_remember 33 = .ok (.areturn, 1) := by decide +kernel
theorem dX7_forgetFound_0 : decode cX7_forgetFound 0 = .ok (.aload_n 0, 1) := by decide +kernel
theorem dX7_forgetFound_1 : decode cX7_forgetFound 1 = .ok (.iconst 0, 1) := by decide +kernel
theorem dX7_forgetFound_2 : decode cX7_forgetFound 2 = .ok (.putfield 336, 3) := by decide +kernel
theorem dX7_forgetFound_5 : decode cX7_forgetFound 5 = .ok (.aload_n 0, 1) := by decide +kernel
theorem dX7_forgetFound_6 : decode cX7_forgetFound 6 = .ok (.iconst 0, 1) := by decide +kernel
theorem dX7_forgetFound_7 : decode cX7_forgetFound 7 = .ok (.putfield 354, 3) := by decide +kernel
theorem dX7_forgetFound_10 : decode cX7_forgetFound 10 = .ok (.return_, 1) := by decide +kernel
theorem dX7_takeBack_0 : decode cX7_takeBack 0 = .ok (.aload_n 1, 1) := by decide +kernel
theorem dX7_takeBack_1 : decode cX7_takeBack 1 = .ok (.getfield 370, 3) := by decide +kernel
theorem dX7_takeBack_4 : decode cX7_takeBack 4 = .ok (.tableswitch 276 0 11 #[64, 77, 98, 117, 128, 139, 152, 180, 204, 220, 239, 258], 64) := by decide +kernel
theorem dX7_takeBack_68 : decode cX7_takeBack 68 = .ok (.aload_n 0, 1) := by decide +kernel
theorem dX7_takeBack_69 : decode cX7_takeBack 69 = .ok (.dup, 1) := by decide +kernel
theorem dX7_takeBack_70 : decode cX7_takeBack 70 = .ok (.getfield 89, 3) := by decide +kernel
theorem dX7_takeBack_73 : decode cX7_takeBack 73 = .ok (.iconst 1, 1) := by decide +kernel
theorem dX7_takeBack_74 : decode cX7_takeBack 74 = .ok (.isub, 1) := by decide +kernel
theorem dX7_takeBack_75 : decode cX7_takeBack 75 = .ok (.putfield 89, 3) := by decide +kernel
theorem dX7_takeBack_78 : decode cX7_takeBack 78 = .ok (.goto 202, 3) := by decide +kernel
theorem dX7_takeBack_81 : decode cX7_takeBack 81 = .ok (.aload_n 0, 1) := by decide +kernel
theorem dX7_takeBack_82 : decode cX7_takeBack 82 = .ok (.getfield 18, 3) := by decide +kernel
theorem dX7_takeBack_85 : decode cX7_takeBack 85 = .ok (.aload_n 1, 1) := by decide +kernel
theorem dX7_takeBack_86 : decode cX7_takeBack 86 = .ok (.getfield 373, 3) := by decide +kernel
theorem dX7_takeBack_89 : decode cX7_takeBack 89 = .ok (.aaload, 1) := by decide +kernel
theorem dX7_takeBack_90 : decode cX7_takeBack 90 = .ok (.dup, 1) := by decide +kernel
theorem dX7_takeBack_91 : decode cX7_takeBack 91 = .ok (.getfield 141, 3) := by decide +kernel
theorem dX7_takeBack_94 : decode cX7_takeBack 94 = .ok (.iconst 1, 1) := by decide +kernel
theorem dX7_takeBack_95 : decode cX7_takeBack 95 = .ok (.isub, 1) := by decide +kernel
theorem dX7_takeBack_96 : decode cX7_takeBack 96 = .ok (.putfield 141, 3) := by decide +kernel
theorem dX7_takeBack_99 : decode cX7_takeBack 99 = .ok (.goto 181, 3) := by decide +kernel
theorem dX7_takeBack_102 : decode cX7_takeBack 102 = .ok (.aload_n 0, 1) := by decide +kernel
theorem dX7_takeBack_103 : decode cX7_takeBack 103 = .ok (.getfield 18, 3) := by decide +kernel
theorem dX7_takeBack_106 : decode cX7_takeBack 106 = .ok (.aload_n 1, 1) := by decide +kernel
theorem dX7_takeBack_107 : decode cX7_takeBack 107 = .ok (.getfield 373, 3) := by decide +kernel
theorem dX7_takeBack_110 : decode cX7_takeBack 110 = .ok (.aaload, 1) := by decide +kernel
theorem dX7_takeBack_111 : decode cX7_takeBack 111 = .ok (.aload_n 1, 1) := by decide +kernel
theorem dX7_takeBack_112 : decode cX7_takeBack 112 = .ok (.getfield 376, 3) := by decide +kernel
theorem dX7_takeBack_115 : decode cX7_takeBack 115 = .ok (.putfield 144, 3) := by decide +kernel
theorem dX7_takeBack_118 : decode cX7_takeBack 118 = .ok (.goto 162, 3) := by decide +kernel
theorem dX7_takeBack_121 : decode cX7_takeBack 121 = .ok (.aload_n 0, 1) := by decide +kernel
theorem dX7_takeBack_122 : decode cX7_takeBack 122 = .ok (.aload_n 1, 1) := by decide +kernel
theorem dX7_takeBack_123 : decode cX7_takeBack 123 = .ok (.getfield 376, 3) := by decide +kernel
theorem dX7_takeBack_126 : decode cX7_takeBack 126 = .ok (.putfield 171, 3) := by decide +kernel
theorem dX7_takeBack_129 : decode cX7_takeBack 129 = .ok (.goto 151, 3) := by decide +kernel
theorem dX7_takeBack_132 : decode cX7_takeBack 132 = .ok (.aload_n 0, 1) := by decide +kernel
theorem dX7_takeBack_133 : decode cX7_takeBack 133 = .ok (.aload_n 1, 1) := by decide +kernel
theorem dX7_takeBack_134 : decode cX7_takeBack 134 = .ok (.getfield 376, 3) := by decide +kernel
theorem dX7_takeBack_137 : decode cX7_takeBack 137 = .ok (.putfield 177, 3) := by decide +kernel
theorem dX7_takeBack_140 : decode cX7_takeBack 140 = .ok (.goto 140, 3) := by decide +kernel
theorem dX7_takeBack_143 : decode cX7_takeBack 143 = .ok (.aload_n 0, 1) := by decide +kernel
theorem dX7_takeBack_144 : decode cX7_takeBack 144 = .ok (.dup, 1) := by decide +kernel
theorem dX7_takeBack_145 : decode cX7_takeBack 145 = .ok (.getfield 211, 3) := by decide +kernel
theorem dX7_takeBack_148 : decode cX7_takeBack 148 = .ok (.iconst 1, 1) := by decide +kernel
theorem dX7_takeBack_149 : decode cX7_takeBack 149 = .ok (.isub, 1) := by decide +kernel
theorem dX7_takeBack_150 : decode cX7_takeBack 150 = .ok (.putfield 211, 3) := by decide +kernel
theorem dX7_takeBack_153 : decode cX7_takeBack 153 = .ok (.goto 127, 3) := by decide +kernel
theorem dX7_takeBack_156 : decode cX7_takeBack 156 = .ok (.aload_n 0, 1) := by decide +kernel
theorem dX7_takeBack_157 : decode cX7_takeBack 157 = .ok (.aload_n 1, 1) := by decide +kernel
theorem dX7_takeBack_158 : decode cX7_takeBack 158 = .ok (.getfield 376, 3) := by decide +kernel
theorem dX7_takeBack_161 : decode cX7_takeBack 161 = .ok (.putfield 211, 3) := by decide +kernel
theorem dX7_takeBack_164 : decode cX7_takeBack 164 = .ok (.aload_n 1, 1) := by decide +kernel
theorem dX7_takeBack_165 : decode cX7_takeBack 165 = .ok (.getfield 214, 3) := by decide +kernel
theorem dX7_takeBack_168 : decode cX7_takeBack 168 = .ok (.iconst 0, 1) := by decide +kernel
theorem dX7_takeBack_169 : decode cX7_takeBack 169 = .ok (.aload_n 0, 1) := by decide +kernel
theorem dX7_takeBack_170 : decode cX7_takeBack 170 = .ok (.getfield 22, 3) := by decide +kernel
theorem dX7_takeBack_173 : decode cX7_takeBack 173 = .ok (.iconst 0, 1) := by decide +kernel
theorem dX7_takeBack_174 : decode cX7_takeBack 174 = .ok (.aload_n 0, 1) := by decide +kernel
theorem dX7_takeBack_175 : decode cX7_takeBack 175 = .ok (.getfield 211, 3) := by decide +kernel
theorem dX7_takeBack_178 : decode cX7_takeBack 178 = .ok (.invokestatic 219, 3) := by decide +kernel
theorem dX7_takeBack_181 : decode cX7_takeBack 181 = .ok (.goto 99, 3) := by decide +kernel
theorem dX7_takeBack_184 : decode cX7_takeBack 184 = .ok (.aload_n 0, 1) := by decide +kernel
theorem dX7_takeBack_185 : decode cX7_takeBack 185 = .ok (.aload_n 1, 1) := by decide +kernel
theorem dX7_takeBack_186 : decode cX7_takeBack 186 = .ok (.getfield 373, 3) := by decide +kernel
theorem dX7_takeBack_189 : decode cX7_takeBack 189 = .ok (.aload_n 1, 1) := by decide +kernel
theorem dX7_takeBack_190 : decode cX7_takeBack 190 = .ok (.getfield 376, 3) := by decide +kernel
theorem dX7_takeBack_193 : decode cX7_takeBack 193 = .ok (.iconst 1, 1) := by decide +kernel
theorem dX7_takeBack_194 : decode cX7_takeBack 194 = .ok (.if_icmp .ne 7, 3) := by decide +kernel
theorem dX7_takeBack_197 : decode cX7_takeBack 197 = .ok (.iconst 1, 1) := by decide +kernel
theorem dX7_takeBack_198 : decode cX7_takeBack 198 = .ok (.goto 4, 3) := by decide +kernel
theorem dX7_takeBack_201 : decode cX7_takeBack 201 = .ok (.iconst 0, 1) := by decide +kernel
theorem dX7_takeBack_202 : decode cX7_takeBack 202 = .ok (.invokevirtual 234, 3) := by decide +kernel
theorem dX7_takeBack_205 : decode cX7_takeBack 205 = .ok (.goto 75, 3) := by decide +kernel
theorem dX7_takeBack_208 : decode cX7_takeBack 208 = .ok (.aload_n 0, 1) := by decide +kernel
theorem dX7_takeBack_209 : decode cX7_takeBack 209 = .ok (.getfield 35, 3) := by decide +kernel
theorem dX7_takeBack_212 : decode cX7_takeBack 212 = .ok (.dup, 1) := by decide +kernel
theorem dX7_takeBack_213 : decode cX7_takeBack 213 = .ok (.getfield 251, 3) := by decide +kernel
theorem dX7_takeBack_216 : decode cX7_takeBack 216 = .ok (.iconst 1, 1) := by decide +kernel
theorem dX7_takeBack_217 : decode cX7_takeBack 217 = .ok (.isub, 1) := by decide +kernel
theorem dX7_takeBack_218 : decode cX7_takeBack 218 = .ok (.putfield 251, 3) := by decide +kernel
theorem dX7_takeBack_221 : decode cX7_takeBack 221 = .ok (.goto 59, 3) := by decide +kernel
theorem dX7_takeBack_224 : decode cX7_takeBack 224 = .ok (.aload_n 0, 1) := by decide +kernel
theorem dX7_takeBack_225 : decode cX7_takeBack 225 = .ok (.getfield 18, 3) := by decide +kernel
theorem dX7_takeBack_228 : decode cX7_takeBack 228 = .ok (.aload_n 1, 1) := by decide +kernel
theorem dX7_takeBack_229 : decode cX7_takeBack 229 = .ok (.getfield 373, 3) := by decide +kernel
theorem dX7_takeBack_232 : decode cX7_takeBack 232 = .ok (.aaload, 1) := by decide +kernel
theorem dX7_takeBack_233 : decode cX7_takeBack 233 = .ok (.aload_n 1, 1) := by decide +kernel
theorem dX7_takeBack_234 : decode cX7_takeBack 234 = .ok (.getfield 376, 3) := by decide +kernel
theorem dX7_takeBack_237 : decode cX7_takeBack 237 = .ok (.putfield 263, 3) := by decide +kernel
theorem dX7_takeBack_240 : decode cX7_takeBack 240 = .ok (.goto 40, 3) := by decide +kernel
theorem dX7_takeBack_243 : decode cX7_takeBack 243 = .ok (.aload_n 0, 1) := by decide +kernel
theorem dX7_takeBack_244 : decode cX7_takeBack 244 = .ok (.getfield 18, 3) := by decide +kernel
theorem dX7_takeBack_247 : decode cX7_takeBack 247 = .ok (.aload_n 1, 1) := by decide +kernel
theorem dX7_takeBack_248 : decode cX7_takeBack 248 = .ok (.getfield 373, 3) := by decide +kernel
theorem dX7_takeBack_251 : decode cX7_takeBack 251 = .ok (.aaload, 1) := by decide +kernel
theorem dX7_takeBack_252 : decode cX7_takeBack 252 = .ok (.aload_n 1, 1) := by decide +kernel
theorem dX7_takeBack_253 : decode cX7_takeBack 253 = .ok (.getfield 376, 3) := by decide +kernel
theorem dX7_takeBack_256 : decode cX7_takeBack 256 = .ok (.putfield 266, 3) := by decide +kernel
theorem dX7_takeBack_259 : decode cX7_takeBack 259 = .ok (.goto 21, 3) := by decide +kernel
theorem dX7_takeBack_262 : decode cX7_takeBack 262 = .ok (.aload_n 1, 1) := by decide +kernel
theorem dX7_takeBack_263 : decode cX7_takeBack 263 = .ok (.getfield 214, 3) := by decide +kernel
theorem dX7_takeBack_266 : decode cX7_takeBack 266 = .ok (.iconst 0, 1) := by decide +kernel
theorem dX7_takeBack_267 : decode cX7_takeBack 267 = .ok (.aload_n 0, 1) := by decide +kernel
theorem dX7_takeBack_268 : decode cX7_takeBack 268 = .ok (.getfield 39, 3) := by decide +kernel
theorem dX7_takeBack_271 : decode cX7_takeBack 271 = .ok (.iconst 0, 1) := by decide +kernel
theorem dX7_takeBack_272 : decode cX7_takeBack 272 = .ok (.bipush 20, 2) := by decide +kernel
theorem dX7_takeBack_274 : decode cX7_takeBack 274 = .ok (.invokestatic 219, 3) := by decide +kernel
theorem dX7_takeBack_277 : decode cX7_takeBack 277 = .ok (.goto 3, 3) := by decide +kernel
theorem dX7_takeBack_280 : decode cX7_takeBack 280 = .ok (.return_, 1) := by decide +kernel
end
section
theorem dX8_init_0 : decode cX8_init 0 = .ok (.aload_n 0, 1) := by decide +kernel
theorem dX8_init_1 : decode cX8_init 1 = .ok (.invokespecial 1, 3) := by decide +kernel
theorem dX8_init_4 : decode cX8_init 4 = .ok (.aload_n 0, 1) := by decide +kernel
theorem dX8_init_5 : decode cX8_init 5 = .ok (.sipush 386, 3) := by decide +kernel
theorem dX8_init_8 : decode cX8_init 8 = .ok (.newarray .int, 2) := by decide +kernel
theorem dX8_init_10 : decode cX8_init 10 = .ok (.putfield 9, 3) := by decide +kernel
theorem dX8_init_13 : decode cX8_init 13 = .ok (.aload_n 0, 1) := by decide +kernel
theorem dX8_init_14 : decode cX8_init 14 = .ok (.sipush 6176, 3) := by decide +kernel
theorem dX8_init_17 : decode cX8_init 17 = .ok (.newarray .int, 2) := by decide +kernel
theorem dX8_init_19 : decode cX8_init 19 = .ok (.putfield 13, 3) := by decide +kernel
theorem dX8_init_22 : decode cX8_init 22 = .ok (.aload_n 0, 1) := by decide +kernel
theorem dX8_init_23 : decode cX8_init 23 = .ok (.bipush 40, 2) := by decide +kernel
theorem dX8_init_25 : decode cX8_init 25 = .ok (.newarray .int, 2) := by decide +kernel
theorem dX8_init_27 : decode cX8_init 27 = .ok (.putfield 16, 3) := by decide +kernel
theorem dX8_init_30 : decode cX8_init 30 = .ok (.aload_n 0, 1) := by decide +kernel
theorem dX8_init_31 : decode cX8_init 31 = .ok (.iconst 4, 1) := by decide +kernel
theorem dX8_init_32 : decode cX8_init 32 = .ok (.newarray .int, 2) := by decide +kernel
theorem dX8_init_34 : decode cX8_init 34 = .ok (.putfield 19, 3) := by decide +kernel
theorem dX8_init_37 : decode cX8_init 37 = .ok (.aload_n 0, 1) := by decide +kernel
theorem dX8_init_38 : decode cX8_init 38 = .ok (.iconst 4, 1) := by decide +kernel
theorem dX8_init_39 : decode cX8_init 39 = .ok (.newarray .int, 2) := by decide +kernel
theorem dX8_init_41 : decode cX8_init 41 = .ok (.putfield 22, 3) := by decide +kernel
theorem dX8_init_44 : decode cX8_init 44 = .ok (.aload_n 0, 1) := by decide +kernel
theorem dX8_init_45 : decode cX8_init 45 = .ok (.bipush 120, 2) := by decide +kernel
theorem dX8_init_47 : decode cX8_init 47 = .ok (.newarray .int, 2) := by decide +kernel
theorem dX8_init_49 : decode cX8_init 49 = .ok (.putfield 25, 3) := by decide +kernel
theorem dX8_init_52 : decode cX8_init 52 = .ok (.aload_n 0, 1) := by decide +kernel
theorem dX8_init_53 : decode cX8_init 53 = .ok (.bipush 12, 2) := by decide +kernel
theorem dX8_init_55 : decode cX8_init 55 = .ok (.newarray .int, 2) := by decide +kernel
theorem dX8_init_57 : decode cX8_init 57 = .ok (.putfield 28, 3) := by decide +kernel
theorem dX8_init_60 : decode cX8_init 60 = .ok (.aload_n 0, 1) := by decide +kernel
theorem dX8_init_61 : decode cX8_init 61 = .ok (.sipush 21504, 3) := by decide +kernel
theorem dX8_init_64 : decode cX8_init 64 = .ok (.newarray .int, 2) := by decide +kernel
theorem dX8_init_66 : decode cX8_init 66 = .ok (.putfield 31, 3) := by decide +kernel
theorem dX8_init_69 : decode cX8_init 69 = .ok (.aload_n 0, 1) := by decide +kernel
theorem dX8_init_70 : decode cX8_init 70 = .ok (.bipush 30, 2) := by decide +kernel
theorem dX8_init_72 : decode cX8_init 72 = .ok (.newarray .int, 2) := by decide +kernel
theorem dX8_init_74 : decode cX8_init 74 = .ok (.putfield 34, 3) := by decide +kernel
theorem dX8_init_77 : decode cX8_init 77 = .ok (.return_, 1) := by decide +kernel
theorem dX8_finding_0 : decode cX8_finding 0 = .ok (.aload_n 0, 1) := by decide +kernel
theorem dX8_finding_1 : decode cX8_finding 1 = .ok (.dup, 1) := by decide +kernel
theorem dX8_finding_2 : decode cX8_finding 2 = .ok (.getfield 37, 3) := by decide +kernel
theorem dX8_finding_5 : decode cX8_finding 5 = .ok (.iconst 1, 1) := by decide +kernel
theorem dX8_finding_6 : decode cX8_finding 6 = .ok (.iadd, 1) := by decide +kernel
theorem dX8_finding_7 : decode cX8_finding 7 = .ok (.putfield 37, 3) := by decide +kernel
theorem dX8_finding_10 : decode cX8_finding 10 = .ok (.iload_n 1, 1) := by decide +kernel
theorem dX8_finding_11 : decode cX8_finding 11 = .ok (.ireturn, 1) := by decide +kernel
theorem dX8_within_0 : decode cX8_within 0 = .ok (.iload_n 0, 1) := by decide +kernel
theorem dX8_within_1 : decode cX8_within 1 = .ok (.iload_n 1, 1) := by decide +kernel
theorem dX8_within_2 : decode cX8_within 2 = .ok (.if_icmp .lt 12, 3) := by decide +kernel
theorem dX8_within_5 : decode cX8_within 5 = .ok (.iload_n 0, 1) := by decide +kernel
theorem dX8_within_6 : decode cX8_within 6 = .ok (.iload_n 2, 1) := by decide +kernel
theorem dX8_within_7 : decode cX8_within 7 = .ok (.if_icmp .gt 7, 3) := by decide +kernel
theorem dX8_within_10 : decode cX8_within 10 = .ok (.iconst 1, 1) := by decide +kernel
theorem dX8_within_11 : decode cX8_within 11 = .ok (.goto 4, 3) := by decide +kernel
theorem dX8_within_14 : decode cX8_within 14 = .ok (.iconst 0, 1) := by decide +kernel
theorem dX8_within_15 : decode cX8_within 15 = .ok (.ireturn, 1) := by decide +kernel
theorem dX8_isLight_0 : decode cX8_isLight 0 = .ok (.iload_n 1, 1) := by decide +kernel
theorem dX8_isLight_1 : decode cX8_isLight 1 = .ok (.iconst 0, 1) := by decide +kernel
theorem dX8_isLight_2 : decode cX8_isLight 2 = .ok (.aload_n 0, 1) := by decide +kernel
theorem dX8_isLight_3 : decode cX8_isLight 3 = .ok (.getfield 9, 3) := by decide +kernel
theorem dX8_isLight_6 : decode cX8_isLight 6 = .ok (.iconst 0, 1) := by decide +kernel
theorem dX8_isLight_7 : decode cX8_isLight 7 = .ok (.iaload, 1) := by decide +kernel
theorem dX8_isLight_8 : decode cX8_isLight 8 = .ok (.iconst 1, 1) := by decide +kernel
theorem dX8_isLight_9 : decode cX8_isLight 9 = .ok (.isub, 1) := by decide +kernel
theorem dX8_isLight_10 : decode cX8_isLight 10 = .ok (.invokestatic 41, 3) := by decide +kernel
theorem dX8_isLight_13 : decode cX8_isLight 13 = .ok (.ireturn, 1) := by decide +kernel
theorem dX8_isCell_0 : decode cX8_isCell 0 = .ok (.iload_n 0, 1) := by decide +kernel
theorem dX8_isCell_1 : decode cX8_isCell 1 = .ok (.iconst 0, 1) := by decide +kernel
theorem dX8_isCell_2 : decode cX8_isCell 2 = .ok (.sipush 255, 3) := by decide +kernel
theorem dX8_isCell_5 : decode cX8_isCell 5 = .ok (.invokestatic 41, 3) := by decide +kernel
theorem dX8_isCell_8 : decode cX8_isCell 8 = .ok (.ireturn, 1) := by decide +kernel
theorem dX8_isWay_0 : decode cX8_isWay 0 = .ok (.iload_n 0, 1) := by decide +kernel
theorem dX8_isWay_1 : decode cX8_isWay 1 = .ok (.iconst 0, 1) := by decide +kernel
theorem dX8_isWay_2 : decode cX8_isWay 2 = .ok (.bipush 15, 2) := by decide +kernel
theorem dX8_isWay_4 : decode cX8_isWay 4 = .ok (.invokestatic 41, 3) := by decide +kernel
theorem dX8_isWay_7 : decode cX8_isWay 7 = .ok (.ireturn, 1) := by decide +kernel
theorem dX8_of_0 : decode cX8_of 0 = .ok (.bipush 10, 2) := by decide +kernel
theorem dX8_of_2 : decode cX8_of 2 = .ok (.bipush 22, 2) := by decide +kernel
theorem dX8_of_4 : decode cX8_of 4 = .ok (.iload_n 0, 1) := by decide +kernel
theorem dX8_of_5 : decode cX8_of 5 = .ok (.imul, 1) := by decide +kernel
theorem dX8_of_6 : decode cX8_of 6 = .ok (.iadd, 1) := by decide +kernel
theorem dX8_of_7 : decode cX8_of 7 = .ok (.iload_n 1, 1) := by decide +kernel
theorem dX8_of_8 : decode cX8_of 8 = .ok (.iadd, 1) := by decide +kernel
theorem dX8_of_9 : decode cX8_of 9 = .ok (.ireturn, 1) := by decide +kernel
theorem dX8_isRock_0 : decode cX8_isRock 0 = .ok (.aload_n 0, 1) := by decide +kernel
theorem dX8_isRock_1 : decode cX8_isRock 1 = .ok (.getfield 9, 3) := by decide +kernel
theorem dX8_isRock_4 : decode cX8_isRock 4 = .ok (.iload_n 1, 1) := by decide +kernel
theorem dX8_isRock_5 : decode cX8_isRock 5 = .ok (.iconst 0, 1) := by decide +kernel
theorem dX8_isRock_6 : decode cX8_isRock 6 = .ok (.invokestatic 45, 3) := by decide +kernel
theorem dX8_isRock_9 : decode cX8_isRock 9 = .ok (.iaload, 1) := by decide +kernel
theorem dX8_isRock_10 : decode cX8_isRock 10 = .ok (.istore_n 2, 1) := by decide +kernel
theorem dX8_isRock_11 : decode cX8_isRock 11 = .ok (.iload_n 2, 1) := by decide +kernel
theorem dX8_isRock_12 : decode cX8_isRock 12 = .ok (.iconst 1, 1) := by decide +kernel
theorem dX8_isRock_13 : decode cX8_isRock 13 = .ok (.if_icmp .eq 8, 3) := by decide +kernel
theorem dX8_isRock_16 : decode cX8_isRock 16 = .ok (.iload_n 2, 1) := by decide +kernel
theorem dX8_isRock_17 : decode cX8_isRock 17 = .ok (.iconst 3, 1) := by decide +kernel
theorem dX8_isRock_18 : decode cX8_isRock 18 = .ok (.if_icmp .ne 7, 3) := by decide +kernel
theorem dX8_isRock_21 : decode cX8_isRock 21 = .ok (.iconst 1, 1) := by decide +kernel
theorem dX8_isRock_22 : decode cX8_isRock 22 = .ok (.goto 4, 3) := by decide +kernel
theorem dX8_isRock_25 : decode cX8_isRock 25 = .ok (.iconst 0, 1) := by decide +kernel
theorem dX8_isRock_26 : decode cX8_isRock 26 = .ok (.ireturn, 1) := by decide +kernel
theorem dX8_keep_0 : decode cX8_keep 0 = .ok (.aload_n 0, 1) := by decide +kernel
theorem dX8_keep_1 : decode cX8_keep 1 = .ok (.getfield 49, 3) := by decide +kernel
theorem dX8_keep_4 : decode cX8_keep 4 = .ok (.bipush 16, 2) := by decide +kernel
theorem dX8_keep_6 : decode cX8_keep 6 = .ok (.if_icmp .ne 44, 3) := by decide +kernel
theorem dX8_keep_9 : decode cX8_keep 9 = .ok (.iconst 0, 1) := by decide +kernel
theorem dX8_keep_10 : decode cX8_keep 10 = .ok (.istore_n 1, 1) := by decide +kernel
theorem dX8_keep_11 : decode cX8_keep 11 = .ok (.iload_n 1, 1) := by decide +kernel
theorem dX8_keep_12 : decode cX8_keep 12 = .ok (.sipush 5790, 3) := by decide +kernel
theorem dX8_keep_15 : decode cX8_keep 15 = .ok (.if_icmp .ge 25, 3) := by decide +kernel
theorem dX8_keep_18 : decode cX8_keep 18 = .ok (.aload_n 0, 1) := by decide +kernel
theorem dX8_keep_19 : decode cX8_keep 19 = .ok (.getfield 13, 3) := by decide +kernel
theorem dX8_keep_22 : decode cX8_keep 22 = .ok (.iload_n 1, 1) := by decide +kernel
theorem dX8_keep_23 : decode cX8_keep 23 = .ok (.aload_n 0, 1) := by decide +kernel
theorem dX8_keep_24 : decode cX8_keep 24 = .ok (.getfield 13, 3) := by decide +kernel
theorem dX8_keep_27 : decode cX8_keep 27 = .ok (.iload_n 1, 1) := by decide +kernel
theorem dX8_keep_28 : decode cX8_keep 28 = .ok (.sipush 386, 3) := by decide +kernel
theorem dX8_keep_31 : decode cX8_keep 31 = .ok (.iadd, 1) := by decide +kernel
theorem dX8_keep_32 : decode cX8_keep 32 = .ok (.iaload, 1) := by decide +kernel
theorem dX8_keep_33 : decode cX8_keep 33 = .ok (.iastore, 1) := by decide +kernel
theorem dX8_keep_34 : decode cX8_keep 34 = .ok (.iinc 1 1, 3) := by decide +kernel
theorem dX8_keep_37 : decode cX8_keep 37 = .ok (.goto (-26), 3) := by decide +kernel
theorem dX8_keep_40 : decode cX8_keep 40 = .ok (.aload_n 0, 1) := by decide +kernel
theorem dX8_keep_41 : decode cX8_keep 41 = .ok (.dup, 1) := by decide +kernel
theorem dX8_keep_42 : decode cX8_keep 42 = .ok (.getfield 49, 3) := by decide +kernel
theorem dX8_keep_45 : decode cX8_keep 45 = .ok (.iconst 1, 1) := by decide +kernel
theorem dX8_keep_46 : decode cX8_keep 46 = .ok (.isub, 1) := by decide +kernel
theorem dX8_keep_47 : decode cX8_keep 47 = .ok (.putfield 49, 3) := by decide +kernel
theorem dX8_keep_50 : decode cX8_keep 50 = .ok (.iconst 0, 1) := by decide +kernel
theorem dX8_keep_51 : decode cX8_keep 51 = .ok (.istore_n 1, 1) := by decide +kernel
theorem dX8_keep_52 : decode cX8_keep 52 = .ok (.iload_n 1, 1) := by decide +kernel
theorem dX8_keep_53 : decode cX8_keep 53 = .ok (.sipush 386, 3) := by decide +kernel
theorem dX8_keep_56 : decode cX8_keep 56 = .ok (.if_icmp .ge 30, 3) := by decide +kernel
theorem dX8_keep_59 : decode cX8_keep 59 = .ok (.aload_n 0, 1) := by decide +kernel
theorem dX8_keep_60 : decode cX8_keep 60 = .ok (.getfield 13, 3) := by decide +kernel
theorem dX8_keep_63 : decode cX8_keep 63 = .ok (.aload_n 0, 1) := by decide +kernel
theorem dX8_keep_64 : decode cX8_keep 64 = .ok (.getfield 49, 3) := by decide +kernel
theorem dX8_keep_67 : decode cX8_keep 67 = .ok (.sipush 386, 3) := by decide +kernel
theorem dX8_keep_70 : decode cX8_keep 70 = .ok (.imul, 1) := by decide +kernel
theorem dX8_keep_71 : decode cX8_keep 71 = .ok (.iload_n 1, 1) := by decide +kernel
theorem dX8_keep_72 : decode cX8_keep 72 = .ok (.iadd, 1) := by decide +kernel
theorem dX8_keep_73 : decode cX8_keep 73 = .ok (.aload_n 0, 1) := by decide +kernel
theorem dX8_keep_74 : decode cX8_keep 74 = .ok (.getfield 9, 3) := by decide +kernel
theorem dX8_keep_77 : decode cX8_keep 77 = .ok (.iload_n 1, 1) := by decide +kernel
theorem dX8_keep_78 : decode cX8_keep 78 = .ok (.iaload, 1) := by decide +kernel
theorem dX8_keep_79 : decode cX8_keep 79 = .ok (.iastore, 1) := by decide +kernel
theorem dX8_keep_80 : decode cX8_keep 80 = .ok (.iinc 1 1, 3) := by decide +kernel
theorem dX8_keep_83 : decode cX8_keep 83 = .ok (.goto (-31), 3) := by decide +kernel
theorem dX8_keep_86 : decode cX8_keep 86 = .ok (.aload_n 0, 1) := by decide +kernel
theorem dX8_keep_87 : decode cX8_keep 87 = .ok (.dup, 1) := by decide +kernel
theorem dX8_keep_88 : decode cX8_keep 88 = .ok (.getfield 49, 3) := by decide +kernel
theorem dX8_keep_91 : decode cX8_keep 91 = .ok (.iconst 1, 1) := by decide +kernel
theorem dX8_keep_92 : decode cX8_keep 92 = .ok (.iadd, 1) := by decide +kernel
theorem dX8_keep_93 : decode cX8_keep 93 = .ok (.putfield 49, 3) := by decide +kernel
theorem dX8_keep_96 : decode cX8_keep 96 = .ok (.return_, 1) := by decide +kernel
theorem dX8_undo_0 : decode cX8_undo 0 = .ok (.aload_n 0, 1) := by decide +kernel
theorem dX8_undo_1 : decode cX8_undo 1 = .ok (.getfield 49, 3) := by decide +kernel
theorem dX8_undo_4 : decode cX8_undo 4 = .ok (.ifCond .ne 10, 3) := by decide +kernel
theorem dX8_undo_7 : decode cX8_undo 7 = .ok (.aload_n 0, 1) := by decide +kernel
theorem dX8_undo_8 : decode cX8_undo 8 = .ok (.ldc 52, 2) := by decide +kernel
theorem dX8_undo_10 : decode cX8_undo 10 = .ok (.invokevirtual 53, 3) := by decide +kernel
theorem dX8_undo_13 : decode cX8_undo 13 = .ok (.ireturn, 1) := by decide +kernel
theorem dX8_undo_14 : decode cX8_undo 14 = .ok (.aload_n 0, 1) := by decide +kernel
theorem dX8_undo_15 : decode cX8_undo 15 = .ok (.dup, 1) := by decide +kernel
theorem dX8_undo_16 : decode cX8_undo 16 = .ok (.getfield 49, 3) := by decide +kernel
theorem dX8_undo_19 : decode cX8_undo 19 = .ok (.iconst 1, 1) := by decide +kernel
theorem dX8_undo_20 : decode cX8_undo 20 = .ok (.isub, 1) := by decide +kernel
theorem dX8_undo_21 : decode cX8_undo 21 = .ok (.putfield 49, 3) := by decide +kernel
theorem dX8_undo_24 : decode cX8_undo 24 = .ok (.iconst 0, 1) := by decide +kernel
theorem dX8_undo_25 : decode cX8_undo 25 = .ok (.istore_n 1, 1) := by decide +kernel
theorem dX8_undo_26 : decode cX8_undo 26 = .ok (.iload_n 1, 1) := by decide +kernel
theorem dX8_undo_27 : decode cX8_undo 27 = .ok (.sipush 386, 3) := by decide +kernel
theorem dX8_undo_30 : decode cX8_undo 30 = .ok (.if_icmp .ge 30, 3) := by decide +kernel
theorem dX8_undo_33 : decode cX8_undo 33 = .ok (.aload_n 0, 1) := by decide +kernel
theorem dX8_undo_34 : decode cX8_undo 34 = .ok (.getfield 9, 3) := by decide +kernel
theorem dX8_undo_37 : decode cX8_undo 37 = .ok (.iload_n 1, 1) := by decide +kernel
theorem dX8_undo_38 : decode cX8_undo 38 = .ok (.aload_n 0, 1) := by decide +kernel
theorem dX8_undo_39 : decode cX8_undo 39 = .ok (.getfield 13, 3) := by decide +kernel
theorem dX8_undo_42 : decode cX8_undo 42 = .ok (.aload_n 0, 1) := by decide +kernel
theorem dX8_undo_43 : decode cX8_undo 43 = .ok (.getfield 49, 3) := by decide +kernel
theorem dX8_undo_46 : decode cX8_undo 46 = .ok (.sipush 386, 3) := by decide +kernel
theorem dX8_undo_49 : decode cX8_undo 49 = .ok (.imul, 1) := by decide +kernel
theorem dX8_undo_50 : decode cX8_undo 50 = .ok (.iload_n 1, 1) := by decide +kernel
theorem dX8_undo_51 : decode cX8_undo 51 = .ok (.iadd, 1) := by decide +kernel
theorem dX8_undo_52 : decode cX8_undo 52 = .ok (.iaload, 1) := by decide +kernel
theorem dX8_undo_53 : decode cX8_undo 53 = .ok (.iastore, 1) := by decide +kernel
theorem dX8_undo_54 : decode cX8_undo 54 = .ok (.iinc 1 1, 3) := by decide +kernel
theorem dX8_undo_57 : decode cX8_undo 57 = .ok (.goto (-31), 3) := by decide +kernel
theorem dX8_undo_60 : decode cX8_undo 60 = .ok (.aload_n 0, 1) := by decide +kernel
theorem dX8_undo_61 : decode cX8_undo 61 = .ok (.getfield 49, 3) := by decide +kernel
theorem dX8_undo_64 : decode cX8_undo 64 = .ok (.ireturn, 1) := by decide +kernel
theorem dX8_feed_0 : decode cX8_feed 0 = .ok (.iload_n 1, 1) := by decide +kernel
theorem dX8_feed_1 : decode cX8_feed 1 = .ok (.iconst 1, 1) := by decide +kernel
theorem dX8_feed_2 : decode cX8_feed 2 = .ok (.bipush 8, 2) := by decide +kernel
theorem dX8_feed_4 : decode cX8_feed 4 = .ok (.invokestatic 41, 3) := by decide +kernel
theorem dX8_feed_7 : decode cX8_feed 7 = .ok (.ifCond .ne 10, 3) := by decide +kernel
theorem dX8_feed_10 : decode cX8_feed 10 = .ok (.aload_n 0, 1) := by decide +kernel
theorem dX8_feed_11 : decode cX8_feed 11 = .ok (.ldc 57, 2) := by decide +kernel
theorem dX8_feed_13 : decode cX8_feed 13 = .ok (.invokevirtual 53, 3) := by decide +kernel
theorem dX8_feed_16 : decode cX8_feed 16 = .ok (.ireturn, 1) := by decide +kernel
theorem dX8_feed_17 : decode cX8_feed 17 = .ok (.aload_n 0, 1) := by decide +kernel
theorem dX8_feed_18 : decode cX8_feed 18 = .ok (.getfield 58, 3) := by decide +kernel
theorem dX8_feed_21 : decode cX8_feed 21 = .ok (.iload_n 1, 1) := by decide +kernel
theorem dX8_feed_22 : decode cX8_feed 22 = .ok (.iadd, 1) := by decide +kernel
theorem dX8_feed_23 : decode cX8_feed 23 = .ok (.bipush 40, 2) := by decide +kernel
theorem dX8_feed_25 : decode cX8_feed 25 = .ok (.if_icmp .le 10, 3) := by decide +kernel
theorem dX8_feed_28 : decode cX8_feed 28 = .ok (.aload_n 0, 1) := by decide +kernel
theorem dX8_feed_29 : decode cX8_feed 29 = .ok (.ldc 61, 2) := by decide +kernel
theorem dX8_feed_31 : decode cX8_feed 31 = .ok (.invokevirtual 53, 3) := by decide +kernel
theorem dX8_feed_34 : decode cX8_feed 34 = .ok (.ireturn, 1) := by decide +kernel
theorem dX8_feed_35 : decode cX8_feed 35 = .ok (.iconst 0, 1) := by decide +kernel
theorem dX8_feed_36 : decode cX8_feed 36 = .ok (.istore 4, 2) := by decide +kernel
theorem dX8_feed_38 : decode cX8_feed 38 = .ok (.iload 4, 2) := by decide +kernel
theorem dX8_feed_40 : decode cX8_feed 40 = .ok (.iload_n 1, 1) := by decide +kernel
theorem dX8_feed_41 : decode cX8_feed 41 = .ok (.if_icmp .ge 40, 3) := by decide +kernel
theorem dX8_feed_44 : decode cX8_feed 44 = .ok (.aload_n 0, 1) := by decide +kernel
theorem dX8_feed_45 : decode cX8_feed 45 = .ok (.getfield 16, 3) := by decide +kernel
theorem dX8_feed_48 : decode cX8_feed 48 = .ok (.aload_n 0, 1) := by decide +kernel
theorem dX8_feed_49 : decode cX8_feed 49 = .ok (.getfield 58, 3) := by decide +kernel
theorem dX8_feed_52 : decode cX8_feed 52 = .ok (.lload_n 2, 1) := by decide +kernel
theorem dX8_feed_53 : decode cX8_feed 53 = .ok (.bipush 8, 2) := by decide +kernel
theorem dX8_feed_55 : decode cX8_feed 55 = .ok (.iload 4, 2) := by decide +kernel
theorem dX8_feed_57 : decode cX8_feed 57 = .ok (.imul, 1) := by decide +kernel
theorem dX8_feed_58 : decode cX8_feed 58 = .ok (.lshr, 1) := by decide +kernel
theorem dX8_feed_59 : decode cX8_feed 59 = .ok (.ldc2_w 62, 3) := by decide +kernel
theorem dX8_feed_62 : decode cX8_feed 62 = .ok (.land, 1) := by decide +kernel
theorem dX8_feed_63 : decode cX8_feed 63 = .ok (.l2i, 1) := by decide +kernel
theorem dX8_feed_64 : decode cX8_feed 64 = .ok (.iastore, 1) := by decide +kernel
theorem dX8_feed_65 : decode cX8_feed 65 = .ok (.aload_n 0, 1) := by decide +kernel
theorem dX8_feed_66 : decode cX8_feed 66 = .ok (.dup, 1) := by decide +kernel
theorem dX8_feed_67 : decode cX8_feed 67 = .ok (.getfield 58, 3) := by decide +kernel
theorem dX8_feed_70 : decode cX8_feed 70 = .ok (.iconst 1, 1) := by decide +kernel
theorem dX8_feed_71 : decode cX8_feed 71 = .ok (.iadd, 1) := by decide +kernel
theorem dX8_feed_72 : decode cX8_feed 72 = .ok (.putfield 58, 3) := by decide +kernel
theorem dX8_feed_75 : decode cX8_feed 75 = .ok (.iinc 4 1, 3) := by decide +kernel
theorem dX8_feed_78 : decode cX8_feed 78 = .ok (.goto (-40), 3) := by decide +kernel
theorem dX8_feed_81 : decode cX8_feed 81 = .ok (.aload_n 0, 1) := by decide +kernel
theorem dX8_feed_82 : decode cX8_feed 82 = .ok (.getfield 58, 3) := by decide +kernel
theorem dX8_feed_85 : decode cX8_feed 85 = .ok (.ireturn, 1) := by decide +kernel
theorem dX8_isHere_0 : decode cX8_isHere 0 = .ok (.aload_n 0, 1) := by decide +kernel
theorem dX8_isHere_1 : decode cX8_isHere 1 = .ok (.getfield 64, 3) := by decide +kernel
theorem dX8_isHere_4 : decode cX8_isHere 4 = .ok (.ifCond .ne 31, 3) := by decide +kernel
theorem dX8_isHere_7 : decode cX8_isHere 7 = .ok (.aload_n 0, 1) := by decide +kernel
theorem dX8_isHere_8 : decode cX8_isHere 8 = .ok (.getfield 68, 3) := by decide +kernel
theorem dX8_isHere_11 : decode cX8_isHere 11 = .ok (.aload_n 0, 1) := by decide +kernel
theorem dX8_isHere_12 : decode cX8_isHere 12 = .ok (.getfield 58, 3) := by decide +kernel
theorem dX8_isHere_15 : decode cX8_isHere 15 = .ok (.if_icmp .ge 20, 3) := by decide +kernel
theorem dX8_isHere_18 : decode cX8_isHere 18 = .ok (.aload_n 0, 1) := by decide +kernel
theorem dX8_isHere_19 : decode cX8_isHere 19 = .ok (.getfield 16, 3) := by decide +kernel
theorem dX8_isHere_22 : decode cX8_isHere 22 = .ok (.aload_n 0, 1) := by decide +kernel
theorem dX8_isHere_23 : decode cX8_isHere 23 = .ok (.getfield 68, 3) := by decide +kernel
theorem dX8_isHere_26 : decode cX8_isHere 26 = .ok (.iaload, 1) := by decide +kernel
theorem dX8_isHere_27 : decode cX8_isHere 27 = .ok (.iload_n 1, 1) := by decide +kernel
theorem dX8_isHere_28 : decode cX8_isHere 28 = .ok (.if_icmp .ne 7, 3) := by decide +kernel
theorem dX8_isHere_31 : decode cX8_isHere 31 = .ok (.iconst 1, 1) := by decide +kernel
theorem dX8_isHere_32 : decode cX8_isHere 32 = .ok (.goto 4, 3) := by decide +kernel
theorem dX8_isHere_35 : decode cX8_isHere 35 = .ok (.iconst 0, 1) := by decide +kernel
theorem dX8_isHere_36 : decode cX8_isHere 36 = .ok (.ireturn, 1) := by decide +kernel
theorem dX8_need_0 : decode cX8_need 0 = .ok (.aload_n 0, 1) := by decide +kernel
theorem dX8_need_1 : decode cX8_need 1 = .ok (.aload_n 0, 1) := by decide +kernel
theorem dX8_need_2 : decode cX8_need 2 = .ok (.getfield 64, 3) := by decide +kernel
theorem dX8_need_5 : decode cX8_need 5 = .ok (.ifCond .ne 11, 3) := by decide +kernel
theorem dX8_need_8 : decode cX8_need 8 = .ok (.aload_n 0, 1) := by decide +kernel
theorem dX8_need_9 : decode cX8_need 9 = .ok (.iload_n 1, 1) := by decide +kernel
theorem dX8_need_10 : decode cX8_need 10 = .ok (.invokevirtual 71, 3) := by decide +kernel
theorem dX8_need_13 : decode cX8_need 13 = .ok (.ifCond .ne 7, 3) := by decide +kernel
theorem dX8_need_16 : decode cX8_need 16 = .ok (.iconst 1, 1) := by decide +kernel
theorem dX8_need_17 : decode cX8_need 17 = .ok (.goto 4, 3) := by decide +kernel
theorem dX8_need_20 : decode cX8_need 20 = .ok (.iconst 0, 1) := by decide +kernel
theorem dX8_need_21 : decode cX8_need 21 = .ok (.putfield 64, 3) := by decide +kernel
theorem dX8_need_24 : decode cX8_need 24 = .ok (.aload_n 0, 1) := by decide +kernel
theorem dX8_need_25 : decode cX8_need 25 = .ok (.dup, 1) := by decide +kernel
theorem dX8_need_26 : decode cX8_need 26 = .ok (.getfield 68, 3) := by decide +kernel
theorem dX8_need_29 : decode cX8_need 29 = .ok (.aload_n 0, 1) := by decide +kernel
theorem dX8_need_30 : decode cX8_need 30 = .ok (.getfield 64, 3) := by decide +kernel
theorem dX8_need_33 : decode cX8_need 33 = .ok (.ifCond .eq 7, 3) := by decide +kernel
theorem dX8_need_36 : decode cX8_need 36 = .ok (.iconst 0, 1) := by decide +kernel
theorem dX8_need_37 : decode cX8_need 37 = .ok (.goto 4, 3) := by decide +kernel
theorem dX8_need_40 : decode cX8_need 40 = .ok (.iconst 1, 1) := by decide +kernel
theorem dX8_need_41 : decode cX8_need 41 = .ok (.iadd, 1) := by decide +kernel
theorem dX8_need_42 : decode cX8_need 42 = .ok (.putfield 68, 3) := by decide +kernel
theorem dX8_need_45 : decode cX8_need 45 = .ok (.return_, 1) := by decide +kernel
theorem dX8_isDigit_0 : decode cX8_isDigit 0 = .ok (.aload_n 0, 1) := by decide +kernel
theorem dX8_isDigit_1 : decode cX8_isDigit 1 = .ok (.getfield 64, 3) := by decide +kernel
theorem dX8_isDigit_4 : decode cX8_isDigit 4 = .ok (.ifCond .ne 37, 3) := by decide +kernel
theorem dX8_isDigit_7 : decode cX8_isDigit 7 = .ok (.aload_n 0, 1) := by decide +kernel
theorem dX8_isDigit_8 : decode cX8_isDigit 8 = .ok (.getfield 68, 3) := by decide +kernel
theorem dX8_isDigit_11 : decode cX8_isDigit 11 = .ok (.aload_n 0, 1) := by decide +kernel
theorem dX8_isDigit_12 : decode cX8_isDigit 12 = .ok (.getfield 58, 3) := by decide +kernel
theorem dX8_isDigit_15 : decode cX8_isDigit 15 = .ok (.if_icmp .ge 26, 3) := by decide +kernel
theorem dX8_isDigit_18 : decode cX8_isDigit 18 = .ok (.aload_n 0, 1) := by decide +kernel
theorem dX8_isDigit_19 : decode cX8_isDigit 19 = .ok (.getfield 16, 3) := by decide +kernel
theorem dX8_isDigit_22 : decode cX8_isDigit 22 = .ok (.aload_n 0, 1) := by decide +kernel
theorem dX8_isDigit_23 : decode cX8_isDigit 23 = .ok (.getfield 68, 3) := by decide +kernel
theorem dX8_isDigit_26 : decode cX8_isDigit 26 = .ok (.iaload, 1) := by decide +kernel
theorem dX8_isDigit_27 : decode cX8_isDigit 27 = .ok (.bipush 48, 2) := by decide +kernel
theorem dX8_isDigit_29 : decode cX8_isDigit 29 = .ok (.bipush 57, 2) := by decide +kernel
theorem dX8_isDigit_31 : decode cX8_isDigit 31 = .ok (.invokestatic 41, 3) := by decide +kernel
theorem dX8_isDigit_34 : decode cX8_isDigit 34 = .ok (.ifCond .eq 7, 3) := by decide +kernel
theorem dX8_isDigit_37 : decode cX8_isDigit 37 = .ok (.iconst 1, 1) := by decide +kernel
theorem dX8_isDigit_38 : decode cX8_isDigit 38 = .ok (.goto 4, 3) := by decide +kernel
theorem dX8_isDigit_41 : decode cX8_isDigit 41 = .ok (.iconst 0, 1) := by decide +kernel
theorem dX8_isDigit_42 : decode cX8_isDigit 42 = .ok (.ireturn, 1) := by decide +kernel
theorem dX8_number_0 : decode cX8_number 0 = .ok (.aload_n 0, 1) := by decide +kernel
theorem dX8_number_1 : decode cX8_number 1 = .ok (.aload_n 0, 1) := by decide +kernel
theorem dX8_number_2 : decode cX8_number 2 = .ok (.getfield 64, 3) := by decide +kernel
theorem dX8_number_5 : decode cX8_number 5 = .ok (.ifCond .ne 10, 3) := by decide +kernel
theorem dX8_number_8 : decode cX8_number 8 = .ok (.aload_n 0, 1) := by decide +kernel
theorem dX8_number_9 : decode cX8_number 9 = .ok (.invokevirtual 75, 3) := by decide +kernel
theorem dX8_number_12 : decode cX8_number 12 = .ok (.ifCond .ne 7, 3) := by decide +kernel
theorem dX8_number_15 : decode cX8_number 15 = .ok (.iconst 1, 1) := by decide +kernel
theorem dX8_number_16 : decode cX8_number 16 = .ok (.goto 4, 3) := by decide +kernel
theorem dX8_number_19 : decode cX8_number 19 = .ok (.iconst 0, 1) := by decide +kernel
theorem dX8_number_20 : decode cX8_number 20 = .ok (.putfield 64, 3) := by decide +kernel
theorem dX8_number_23 : decode cX8_number 23 = .ok (.iconst 0, 1) := by decide +kernel
theorem dX8_number_24 : decode cX8_number 24 = .ok (.istore_n 1, 1) := by decide +kernel
theorem dX8_number_25 : decode cX8_number 25 = .ok (.iconst 0, 1) := by decide +kernel
theorem dX8_number_26 : decode cX8_number 26 = .ok (.istore_n 2, 1) := by decide +kernel
theorem dX8_number_27 : decode cX8_number 27 = .ok (.iload_n 2, 1) := by decide +kernel
theorem dX8_number_28 : decode cX8_number 28 = .ok (.iconst 2, 1) := by decide +kernel
theorem dX8_number_29 : decode cX8_number 29 = .ok (.if_icmp .ge 44, 3) := by decide +kernel
theorem dX8_number_32 : decode cX8_number 32 = .ok (.aload_n 0, 1) := by decide +kernel
theorem dX8_number_33 : decode cX8_number 33 = .ok (.invokevirtual 75, 3) := by decide +kernel
theorem dX8_number_36 : decode cX8_number 36 = .ok (.ifCond .eq 37, 3) := by decide +kernel
theorem dX8_number_39 : decode cX8_number 39 = .ok (.bipush 10, 2) := by decide +kernel
theorem dX8_number_41 : decode cX8_number 41 = .ok (.iload_n 1, 1) := by decide +kernel
theorem dX8_number_42 : decode cX8_number 42 = .ok (.imul, 1) := by decide +kernel
theorem dX8_number_43 : decode cX8_number 43 = .ok (.aload_n 0, 1) := by decide +kernel
theorem dX8_number_44 : decode cX8_number 44 = .ok (.getfield 16, 3) := by decide +kernel
theorem dX8_number_47 : decode cX8_number 47 = .ok (.aload_n 0, 1) := by decide +kernel
theorem dX8_number_48 : decode cX8_number 48 = .ok (.getfield 68, 3) := by decide +kernel
theorem dX8_number_51 : decode cX8_number 51 = .ok (.iaload, 1) := by decide +kernel
theorem dX8_number_52 : decode cX8_number 52 = .ok (.iadd, 1) := by decide +kernel
theorem dX8_number_53 : decode cX8_number 53 = .ok (.bipush 48, 2) := by decide +kernel
theorem dX8_number_55 : decode cX8_number 55 = .ok (.isub, 1) := by decide +kernel
theorem dX8_number_56 : decode cX8_number 56 = .ok (.istore_n 1, 1) := by decide +kernel
theorem dX8_number_57 : decode cX8_number 57 = .ok (.aload_n 0, 1) := by decide +kernel
theorem dX8_number_58 : decode cX8_number 58 = .ok (.dup, 1) := by decide +kernel
theorem dX8_number_59 : decode cX8_number 59 = .ok (.getfield 68, 3) := by decide +kernel
theorem dX8_number_62 : decode cX8_number 62 = .ok (.iconst 1, 1) := by decide +kernel
theorem dX8_number_63 : decode cX8_number 63 = .ok (.iadd, 1) := by decide +kernel
theorem dX8_number_64 : decode cX8_number 64 = .ok (.putfield 68, 3) := by decide +kernel
theorem dX8_number_67 : decode cX8_number 67 = .ok (.iinc 2 1, 3) := by decide +kernel
theorem dX8_number_70 : decode cX8_number 70 = .ok (.goto (-43), 3) := by decide +kernel
theorem dX8_number_73 : decode cX8_number 73 = .ok (.iload_n 1, 1) := by decide +kernel
theorem dX8_number_74 : decode cX8_number 74 = .ok (.ireturn, 1) := by decide +kernel
theorem dX8_readSort_0 : decode cX8_readSort 0 = .ok (.aload_n 0, 1) := by decide +kernel
theorem dX8_readSort_1 : decode cX8_readSort 1 = .ok (.bipush 70, 2) := by decide +kernel
theorem dX8_readSort_3 : decode cX8_readSort 3 = .ok (.invokevirtual 71, 3) := by decide +kernel
theorem dX8_readSort_6 : decode cX8_readSort 6 = .ok (.ifCond .eq 59, 3) := by decide +kernel
theorem dX8_readSort_9 : decode cX8_readSort 9 = .ok (.aload_n 0, 1) := by decide +kernel
theorem dX8_readSort_10 : decode cX8_readSort 10 = .ok (.dup, 1) := by decide +kernel
theorem dX8_readSort_11 : decode cX8_readSort 11 = .ok (.getfield 68, 3) := by decide +kernel
theorem dX8_readSort_14 : decode cX8_readSort 14 = .ok (.iconst 1, 1) := by decide +kernel
theorem dX8_readSort_15 : decode cX8_readSort 15 = .ok (.iadd, 1) := by decide +kernel
theorem dX8_readSort_16 : decode cX8_readSort 16 = .ok (.putfield 68, 3) := by decide +kernel
theorem dX8_readSort_19 : decode cX8_readSort 19 = .ok (.aload_n 0, 1) := by decide +kernel
theorem dX8_readSort_20 : decode cX8_readSort 20 = .ok (.aload_n 0, 1) := by decide +kernel
theorem dX8_readSort_21 : decode cX8_readSort 21 = .ok (.bipush 108, 2) := by decide +kernel
theorem dX8_readSort_23 : decode cX8_readSort 23 = .ok (.invokevirtual 71, 3) := by decide +kernel
theorem dX8_readSort_26 : decode cX8_readSort 26 = .ok (.ifCond .eq 8, 3) := by decide +kernel
theorem dX8_readSort_29 : decode cX8_readSort 29 = .ok (.bipush 108, 2) := by decide +kernel
theorem dX8_readSort_31 : decode cX8_readSort 31 = .ok (.goto 5, 3) := by decide +kernel
theorem dX8_readSort_34 : decode cX8_readSort 34 = .ok (.bipush 70, 2) := by decide +kernel
theorem dX8_readSort_36 : decode cX8_readSort 36 = .ok (.putfield 79, 3) := by decide +kernel
theorem dX8_readSort_39 : decode cX8_readSort 39 = .ok (.aload_n 0, 1) := by decide +kernel
theorem dX8_readSort_40 : decode cX8_readSort 40 = .ok (.dup, 1) := by decide +kernel
theorem dX8_readSort_41 : decode cX8_readSort 41 = .ok (.getfield 68, 3) := by decide +kernel
theorem dX8_readSort_44 : decode cX8_readSort 44 = .ok (.aload_n 0, 1) := by decide +kernel
theorem dX8_readSort_45 : decode cX8_readSort 45 = .ok (.getfield 79, 3) := by decide +kernel
theorem dX8_readSort_48 : decode cX8_readSort 48 = .ok (.bipush 108, 2) := by decide +kernel
theorem dX8_readSort_50 : decode cX8_readSort 50 = .ok (.if_icmp .ne 7, 3) := by decide +kernel
theorem dX8_readSort_53 : decode cX8_readSort 53 = .ok (.iconst 1, 1) := by decide +kernel
theorem dX8_readSort_54 : decode cX8_readSort 54 = .ok (.goto 4, 3) := by decide +kernel
theorem dX8_readSort_57 : decode cX8_readSort 57 = .ok (.iconst 0, 1) := by decide +kernel
theorem dX8_readSort_58 : decode cX8_readSort 58 = .ok (.iadd, 1) := by decide +kernel
theorem dX8_readSort_59 : decode cX8_readSort 59 = .ok (.putfield 68, 3) := by decide +kernel
theorem dX8_readSort_62 : decode cX8_readSort 62 = .ok (.goto 89, 3) := by decide +kernel
theorem dX8_readSort_65 : decode cX8_readSort 65 = .ok (.aload_n 0, 1) := by decide +kernel
theorem dX8_readSort_66 : decode cX8_readSort 66 = .ok (.bipush 79, 2) := by decide +kernel
theorem dX8_readSort_68 : decode cX8_readSort 68 = .ok (.invokevirtual 71, 3) := by decide +kernel
theorem dX8_readSort_71 : decode cX8_readSort 71 = .ok (.ifCond .eq 28, 3) := by decide +kernel
theorem dX8_readSort_74 : decode cX8_readSort 74 = .ok (.aload_n 0, 1) := by decide +kernel
theorem dX8_readSort_75 : decode cX8_readSort 75 = .ok (.dup, 1) := by decide +kernel
theorem dX8_readSort_76 : decode cX8_readSort 76 = .ok (.getfield 68, 3) := by decide +kernel
theorem dX8_readSort_79 : decode cX8_readSort 79 = .ok (.iconst 1, 1) := by decide +kernel
theorem dX8_readSort_80 : decode cX8_readSort 80 = .ok (.iadd, 1) := by decide +kernel
theorem dX8_readSort_81 : decode cX8_readSort 81 = .ok (.putfield 68, 3) := by decide +kernel
theorem dX8_readSort_84 : decode cX8_readSort 84 = .ok (.aload_n 0, 1) := by decide +kernel
theorem dX8_readSort_85 : decode cX8_readSort 85 = .ok (.bipush 99, 2) := by decide +kernel
theorem dX8_readSort_87 : decode cX8_readSort 87 = .ok (.invokevirtual 82, 3) := by decide +kernel
theorem dX8_readSort_90 : decode cX8_readSort 90 = .ok (.aload_n 0, 1) := by decide +kernel
theorem dX8_readSort_91 : decode cX8_readSort 91 = .ok (.bipush 79, 2) := by decide +kernel
theorem dX8_readSort_93 : decode cX8_readSort 93 = .ok (.putfield 79, 3) := by decide +kernel
theorem dX8_readSort_96 : decode cX8_readSort 96 = .ok (.goto 55, 3) := by decide +kernel
theorem dX8_readSort_99 : decode cX8_readSort 99 = .ok (.aload_n 0, 1) := by decide +kernel
theorem dX8_readSort_100 : decode cX8_readSort 100 = .ok (.bipush 81, 2) := by decide +kernel
theorem dX8_readSort_102 : decode cX8_readSort 102 = .ok (.invokevirtual 71, 3) := by decide +kernel
theorem dX8_readSort_105 : decode cX8_readSort 105 = .ok (.ifCond .eq 22, 3) := by decide +kernel
theorem dX8_readSort_108 : decode cX8_readSort 108 = .ok (.aload_n 0, 1) := by decide +kernel
theorem dX8_readSort_109 : decode cX8_readSort 109 = .ok (.dup, 1) := by decide +kernel
theorem dX8_readSort_110 : decode cX8_readSort 110 = .ok (.getfield 68, 3) := by decide +kernel
theorem dX8_readSort_113 : decode cX8_readSort 113 = .ok (.iconst 1, 1) := by decide +kernel
theorem dX8_readSort_114 : decode cX8_readSort 114 = .ok (.iadd, 1) := by decide +kernel
theorem dX8_readSort_115 : decode cX8_readSort 115 = .ok (.putfield 68, 3) := by decide +kernel
theorem dX8_readSort_118 : decode cX8_readSort 118 = .ok (.aload_n 0, 1) := by decide +kernel
theorem dX8_readSort_119 : decode cX8_readSort 119 = .ok (.bipush 81, 2) := by decide +kernel
theorem dX8_readSort_121 : decode cX8_readSort 121 = .ok (.putfield 79, 3) := by decide +kernel
theorem dX8_readSort_124 : decode cX8_readSort 124 = .ok (.goto 27, 3) := by decide +kernel
theorem dX8_readSort_127 : decode cX8_readSort 127 = .ok (.aload_n 0, 1) := by decide +kernel
theorem dX8_readSort_128 : decode cX8_readSort 128 = .ok (.bipush 73, 2) := by decide +kernel
theorem dX8_readSort_130 : decode cX8_readSort 130 = .ok (.invokevirtual 82, 3) := by decide +kernel
theorem dX8_readSort_133 : decode cX8_readSort 133 = .ok (.aload_n 0, 1) := by decide +kernel
theorem dX8_readSort_134 : decode cX8_readSort 134 = .ok (.bipush 115, 2) := by decide +kernel
theorem dX8_readSort_136 : decode cX8_readSort 136 = .ok (.invokevirtual 82, 3) := by decide +kernel
theorem dX8_readSort_139 : decode cX8_readSort 139 = .ok (.aload_n 0, 1) := by decide +kernel
theorem dX8_readSort_140 : decode cX8_readSort 140 = .ok (.bipush 111, 2) := by decide +kernel
theorem dX8_readSort_142 : decode cX8_readSort 142 = .ok (.invokevirtual 82, 3) := by decide +kernel
theorem dX8_readSort_145 : decode cX8_readSort 145 = .ok (.aload_n 0, 1) := by decide +kernel
theorem dX8_readSort_146 : decode cX8_readSort 146 = .ok (.bipush 73, 2) := by decide +kernel
theorem dX8_readSort_148 : decode cX8_readSort 148 = .ok (.putfield 79, 3) := by decide +kernel
theorem dX8_readSort_151 : decode cX8_readSort 151 = .ok (.aload_n 0, 1) := by decide +kernel
theorem dX8_readSort_152 : decode cX8_readSort 152 = .ok (.iconst 1, 1) := by decide +kernel
theorem dX8_readSort_153 : decode cX8_readSort 153 = .ok (.putfield 86, 3) := by decide +kernel
theorem dX8_readSort_156 : decode cX8_readSort 156 = .ok (.aload_n 0, 1) := by decide +kernel
theorem dX8_readSort_157 : decode cX8_readSort 157 = .ok (.getfield 79, 3) := by decide +kernel
theorem dX8_readSort_160 : decode cX8_readSort 160 = .ok (.bipush 70, 2) := by decide +kernel
theorem dX8_readSort_162 : decode cX8_readSort 162 = .ok (.if_icmp .eq 45, 3) := by decide +kernel
theorem dX8_readSort_165 : decode cX8_readSort 165 = .ok (.aload_n 0, 1) := by decide +kernel
theorem dX8_readSort_166 : decode cX8_readSort 166 = .ok (.getfield 79, 3) := by decide +kernel
theorem dX8_readSort_169 : decode cX8_readSort 169 = .ok (.bipush 73, 2) := by decide +kernel
theorem dX8_readSort_171 : decode cX8_readSort 171 = .ok (.if_icmp .eq 36, 3) := by decide +kernel
theorem dX8_readSort_174 : decode cX8_readSort 174 = .ok (.aload_n 0, 1) := by decide +kernel
theorem dX8_readSort_175 : decode cX8_readSort 175 = .ok (.bipush 40, 2) := by decide +kernel
theorem dX8_readSort_177 : decode cX8_readSort 177 = .ok (.invokevirtual 71, 3) := by decide +kernel
theorem dX8_readSort_180 : decode cX8_readSort 180 = .ok (.ifCond .eq 27, 3) := by decide +kernel
theorem dX8_readSort_183 : decode cX8_readSort 183 = .ok (.aload_n 0, 1) := by decide +kernel
theorem dX8_readSort_184 : decode cX8_readSort 184 = .ok (.dup, 1) := by decide +kernel
theorem dX8_readSort_185 : decode cX8_readSort 185 = .ok (.getfield 68, 3) := by decide +kernel
theorem dX8_readSort_188 : decode cX8_readSort 188 = .ok (.iconst 1, 1) := by decide +kernel
theorem dX8_readSort_189 : decode cX8_readSort 189 = .ok (.iadd, 1) := by decide +kernel
theorem dX8_readSort_190 : decode cX8_readSort 190 = .ok (.putfield 68, 3) := by decide +kernel
theorem dX8_readSort_193 : decode cX8_readSort 193 = .ok (.aload_n 0, 1) := by decide +kernel
theorem dX8_readSort_194 : decode cX8_readSort 194 = .ok (.aload_n 0, 1) := by decide +kernel
theorem dX8_readSort_195 : decode cX8_readSort 195 = .ok (.invokevirtual 89, 3) := by decide +kernel
theorem dX8_readSort_198 : decode cX8_readSort 198 = .ok (.putfield 86, 3) := by decide +kernel
theorem dX8_readSort_201 : decode cX8_readSort 201 = .ok (.aload_n 0, 1) := by decide +kernel
theorem dX8_readSort_202 : decode cX8_readSort 202 = .ok (.bipush 41, 2) := by decide +kernel
theorem dX8_readSort_204 : decode cX8_readSort 204 = .ok (.invokevirtual 82, 3) := by decide +kernel
theorem dX8_readSort_207 : decode cX8_readSort 207 = .ok (.return_, 1) := by decide +kernel
theorem dX8_goesIn_0 : decode cX8_goesIn 0 = .ok (.aload_n 0, 1) := by decide +kernel
theorem dX8_goesIn_1 : decode cX8_goesIn 1 = .ok (.getfield 79, 3) := by decide +kernel
theorem dX8_goesIn_4 : decode cX8_goesIn 4 = .ok (.lookupswitch 58 #[(70, 28), (73, 30)], 28) := by decide +kernel
theorem dX8_goesIn_32 : decode cX8_goesIn 32 = .ok (.iconst 1, 1) := by decide +kernel
theorem dX8_goesIn_33 : decode cX8_goesIn 33 = .ok (.ireturn, 1) := by decide +kernel
theorem dX8_goesIn_34 : decode cX8_goesIn 34 = .ok (.aload_n 0, 1) := by decide +kernel
theorem dX8_goesIn_35 : decode cX8_goesIn 35 = .ok (.getfield 93, 3) := by decide +kernel
theorem dX8_goesIn_38 : decode cX8_goesIn 38 = .ok (.iconst 1, 1) := by decide +kernel
theorem dX8_goesIn_39 : decode cX8_goesIn 39 = .ok (.bipush 30, 2) := by decide +kernel
theorem dX8_goesIn_41 : decode cX8_goesIn 41 = .ok (.invokestatic 41, 3) := by decide +kernel
theorem dX8_goesIn_44 : decode cX8_goesIn 44 = .ok (.ifCond .eq 16, 3) := by decide +kernel
theorem dX8_goesIn_47 : decode cX8_goesIn 47 = .ok (.aload_n 0, 1) := by decide +kernel
theorem dX8_goesIn_48 : decode cX8_goesIn 48 = .ok (.getfield 93, 3) := by decide +kernel
theorem dX8_goesIn_51 : decode cX8_goesIn 51 = .ok (.iconst 2, 1) := by decide +kernel
theorem dX8_goesIn_52 : decode cX8_goesIn 52 = .ok (.irem, 1) := by decide +kernel
theorem dX8_goesIn_53 : decode cX8_goesIn 53 = .ok (.ifCond .ne 7, 3) := by decide +kernel
theorem dX8_goesIn_56 : decode cX8_goesIn 56 = .ok (.iconst 1, 1) := by decide +kernel
theorem dX8_goesIn_57 : decode cX8_goesIn 57 = .ok (.goto 4, 3) := by decide +kernel
theorem dX8_goesIn_60 : decode cX8_goesIn 60 = .ok (.iconst 0, 1) := by decide +kernel
theorem dX8_goesIn_61 : decode cX8_goesIn 61 = .ok (.ireturn, 1) := by decide +kernel
theorem dX8_goesIn_62 : decode cX8_goesIn 62 = .ok (.aload_n 0, 1) := by decide +kernel
theorem dX8_goesIn_63 : decode cX8_goesIn 63 = .ok (.getfield 93, 3) := by decide +kernel
theorem dX8_goesIn_66 : decode cX8_goesIn 66 = .ok (.iconst 1, 1) := by decide +kernel
theorem dX8_goesIn_67 : decode cX8_goesIn 67 = .ok (.bipush 30, 2) := by decide +kernel
theorem dX8_goesIn_69 : decode cX8_goesIn 69 = .ok (.invokestatic 41, 3) := by decide +kernel
theorem dX8_goesIn_72 : decode cX8_goesIn 72 = .ok (.ifCond .eq 48, 3) := by decide +kernel
theorem dX8_goesIn_75 : decode cX8_goesIn 75 = .ok (.aload_n 0, 1) := by decide +kernel
theorem dX8_goesIn_76 : decode cX8_goesIn 76 = .ok (.getfield 86, 3) := by decide +kernel
theorem dX8_goesIn_79 : decode cX8_goesIn 79 = .ok (.iconst 1, 1) := by decide +kernel
theorem dX8_goesIn_80 : decode cX8_goesIn 80 = .ok (.bipush 15, 2) := by decide +kernel
theorem dX8_goesIn_82 : decode cX8_goesIn 82 = .ok (.invokestatic 41, 3) := by decide +kernel
theorem dX8_goesIn_85 : decode cX8_goesIn 85 = .ok (.ifCond .eq 35, 3) := by decide +kernel
theorem dX8_goesIn_88 : decode cX8_goesIn 88 = .ok (.iconst 2, 1) := by decide +kernel
theorem dX8_goesIn_89 : decode cX8_goesIn 89 = .ok (.aload_n 0, 1) := by decide +kernel
theorem dX8_goesIn_90 : decode cX8_goesIn 90 = .ok (.getfield 86, 3) := by decide +kernel
theorem dX8_goesIn_93 : decode cX8_goesIn 93 = .ok (.imul, 1) := by decide +kernel
theorem dX8_goesIn_94 : decode cX8_goesIn 94 = .ok (.aload_n 0, 1) := by decide +kernel
theorem dX8_goesIn_95 : decode cX8_goesIn 95 = .ok (.getfield 79, 3) := by decide +kernel
theorem dX8_goesIn_98 : decode cX8_goesIn 98 = .ok (.bipush 81, 2) := by decide +kernel
theorem dX8_goesIn_100 : decode cX8_goesIn 100 = .ok (.if_icmp .ne 7, 3) := by decide +kernel
theorem dX8_goesIn_103 : decode cX8_goesIn 103 = .ok (.iconst 1, 1) := by decide +kernel
theorem dX8_goesIn_104 : decode cX8_goesIn 104 = .ok (.goto 4, 3) := by decide +kernel
theorem dX8_goesIn_107 : decode cX8_goesIn 107 = .ok (.iconst 0, 1) := by decide +kernel
theorem dX8_goesIn_108 : decode cX8_goesIn 108 = .ok (.iadd, 1) := by decide +kernel
theorem dX8_goesIn_109 : decode cX8_goesIn 109 = .ok (.aload_n 0, 1) := by decide +kernel
theorem dX8_goesIn_110 : decode cX8_goesIn 110 = .ok (.getfield 93, 3) := by decide +kernel
theorem dX8_goesIn_113 : decode cX8_goesIn 113 = .ok (.if_icmp .gt 7, 3) := by decide +kernel
theorem dX8_goesIn_116 : decode cX8_goesIn 116 = .ok (.iconst 1, 1) := by decide +kernel
theorem dX8_goesIn_117 : decode cX8_goesIn 117 = .ok (.goto 4, 3) := by decide +kernel
theorem dX8_goesIn_120 : decode cX8_goesIn 120 = .ok (.iconst 0, 1) := by decide +kernel
theorem dX8_goesIn_121 : decode cX8_goesIn 121 = .ok (.ireturn, 1) := by decide +kernel
theorem dX8_faultOf_0 : decode cX8_faultOf 0 = .ok (.aload_n 0, 1) := by decide +kernel
theorem dX8_faultOf_1 : decode cX8_faultOf 1 = .ok (.iconst 0, 1) := by decide +kernel
theorem dX8_faultOf_2 : decode cX8_faultOf 2 = .ok (.putfield 68, 3) := by decide +kernel
theorem dX8_faultOf_5 : decode cX8_faultOf 5 = .ok (.aload_n 0, 1) := by decide +kernel
theorem dX8_faultOf_6 : decode cX8_faultOf 6 = .ok (.iconst 0, 1) := by decide +kernel
theorem dX8_faultOf_7 : decode cX8_faultOf 7 = .ok (.putfield 64, 3) := by decide +kernel
theorem dX8_faultOf_10 : decode cX8_faultOf 10 = .ok (.aload_n 0, 1) := by decide +kernel
theorem dX8_faultOf_11 : decode cX8_faultOf 11 = .ok (.invokevirtual 96, 3) := by decide +kernel
theorem dX8_faultOf_14 : decode cX8_faultOf 14 = .ok (.aload_n 0, 1) := by decide +kernel
theorem dX8_faultOf_15 : decode cX8_faultOf 15 = .ok (.aload_n 0, 1) := by decide +kernel
theorem dX8_faultOf_16 : decode cX8_faultOf 16 = .ok (.bipush 87, 2) := by decide +kernel
theorem dX8_faultOf_18 : decode cX8_faultOf 18 = .ok (.invokevirtual 71, 3) := by decide +kernel
theorem dX8_faultOf_21 : decode cX8_faultOf 21 = .ok (.ifCond .eq 7, 3) := by decide +kernel
theorem dX8_faultOf_24 : decode cX8_faultOf 24 = .ok (.iconst 0, 1) := by decide +kernel
theorem dX8_faultOf_25 : decode cX8_faultOf 25 = .ok (.goto 17, 3) := by decide +kernel
theorem dX8_faultOf_28 : decode cX8_faultOf 28 = .ok (.aload_n 0, 1) := by decide +kernel
theorem dX8_faultOf_29 : decode cX8_faultOf 29 = .ok (.bipush 82, 2) := by decide +kernel
theorem dX8_faultOf_31 : decode cX8_faultOf 31 = .ok (.invokevirtual 71, 3) := by decide +kernel
theorem dX8_faultOf_34 : decode cX8_faultOf 34 = .ok (.ifCond .eq 7, 3) := by decide +kernel
theorem dX8_faultOf_37 : decode cX8_faultOf 37 = .ok (.iconst 1, 1) := by decide +kernel
theorem dX8_faultOf_38 : decode cX8_faultOf 38 = .ok (.goto 4, 3) := by decide +kernel
theorem dX8_faultOf_41 : decode cX8_faultOf 41 = .ok (.iconst 2, 1) := by decide +kernel
theorem dX8_faultOf_42 : decode cX8_faultOf 42 = .ok (.putfield 99, 3) := by decide +kernel
theorem dX8_faultOf_45 : decode cX8_faultOf 45 = .ok (.aload_n 0, 1) := by decide +kernel
theorem dX8_faultOf_46 : decode cX8_faultOf 46 = .ok (.aload_n 0, 1) := by decide +kernel
theorem dX8_faultOf_47 : decode cX8_faultOf 47 = .ok (.getfield 99, 3) := by decide +kernel
theorem dX8_faultOf_50 : decode cX8_faultOf 50 = .ok (.ifCond .ne 8, 3) := by decide +kernel
theorem dX8_faultOf_53 : decode cX8_faultOf 53 = .ok (.bipush 87, 2) := by decide +kernel
theorem dX8_faultOf_55 : decode cX8_faultOf 55 = .ok (.goto 18, 3) := by decide +kernel
theorem dX8_faultOf_58 : decode cX8_faultOf 58 = .ok (.aload_n 0, 1) := by decide +kernel
theorem dX8_faultOf_59 : decode cX8_faultOf 59 = .ok (.getfield 99, 3) := by decide +kernel
theorem dX8_faultOf_62 : decode cX8_faultOf 62 = .ok (.iconst 1, 1) := by decide +kernel
theorem dX8_faultOf_63 : decode cX8_faultOf 63 = .ok (.if_icmp .ne 8, 3) := by decide +kernel
theorem dX8_faultOf_66 : decode cX8_faultOf 66 = .ok (.bipush 82, 2) := by decide +kernel
theorem dX8_faultOf_68 : decode cX8_faultOf 68 = .ok (.goto 5, 3) := by decide +kernel
theorem dX8_faultOf_71 : decode cX8_faultOf 71 = .ok (.bipush 71, 2) := by decide +kernel
theorem dX8_faultOf_73 : decode cX8_faultOf 73 = .ok (.invokevirtual 82, 3) := by decide +kernel
theorem dX8_faultOf_76 : decode cX8_faultOf 76 = .ok (.aload_n 0, 1) := by decide +kernel
theorem dX8_faultOf_77 : decode cX8_faultOf 77 = .ok (.iconst 1, 1) := by decide +kernel
theorem dX8_faultOf_78 : decode cX8_faultOf 78 = .ok (.putfield 93, 3) := by decide +kernel
theorem dX8_faultOf_81 : decode cX8_faultOf 81 = .ok (.aload_n 0, 1) := by decide +kernel
theorem dX8_faultOf_82 : decode cX8_faultOf 82 = .ok (.getfield 64, 3) := by decide +kernel
theorem dX8_faultOf_85 : decode cX8_faultOf 85 = .ok (.ifCond .ne 34, 3) := by decide +kernel
theorem dX8_faultOf_88 : decode cX8_faultOf 88 = .ok (.aload_n 0, 1) := by decide +kernel
theorem dX8_faultOf_89 : decode cX8_faultOf 89 = .ok (.getfield 79, 3) := by decide +kernel
theorem dX8_faultOf_92 : decode cX8_faultOf 92 = .ok (.bipush 70, 2) := by decide +kernel
theorem dX8_faultOf_94 : decode cX8_faultOf 94 = .ok (.if_icmp .eq 25, 3) := by decide +kernel
theorem dX8_faultOf_97 : decode cX8_faultOf 97 = .ok (.aload_n 0, 1) := by decide +kernel
theorem dX8_faultOf_98 : decode cX8_faultOf 98 = .ok (.aload_n 0, 1) := by decide +kernel
theorem dX8_faultOf_99 : decode cX8_faultOf 99 = .ok (.getfield 68, 3) := by decide +kernel
theorem dX8_faultOf_102 : decode cX8_faultOf 102 = .ok (.putfield 102, 3) := by decide +kernel
theorem dX8_faultOf_105 : decode cX8_faultOf 105 = .ok (.aload_n 0, 1) := by decide +kernel
theorem dX8_faultOf_106 : decode cX8_faultOf 106 = .ok (.aload_n 0, 1) := by decide +kernel
theorem dX8_faultOf_107 : decode cX8_faultOf 107 = .ok (.invokevirtual 89, 3) := by decide +kernel
theorem dX8_faultOf_110 : decode cX8_faultOf 110 = .ok (.putfield 93, 3) := by decide +kernel
theorem dX8_faultOf_113 : decode cX8_faultOf 113 = .ok (.aload_n 0, 1) := by decide +kernel
theorem dX8_faultOf_114 : decode cX8_faultOf 114 = .ok (.bipush 115, 2) := by decide +kernel
theorem dX8_faultOf_116 : decode cX8_faultOf 116 = .ok (.invokevirtual 82, 3) := by decide +kernel
theorem dX8_faultOf_119 : decode cX8_faultOf 119 = .ok (.aload_n 0, 1) := by decide +kernel
theorem dX8_faultOf_120 : decode cX8_faultOf 120 = .ok (.aload_n 0, 1) := by decide +kernel
theorem dX8_faultOf_121 : decode cX8_faultOf 121 = .ok (.getfield 64, 3) := by decide +kernel
theorem dX8_faultOf_124 : decode cX8_faultOf 124 = .ok (.ifCond .ne 14, 3) := by decide +kernel
theorem dX8_faultOf_127 : decode cX8_faultOf 127 = .ok (.aload_n 0, 1) := by decide +kernel
theorem dX8_faultOf_128 : decode cX8_faultOf 128 = .ok (.getfield 68, 3) := by decide +kernel
theorem dX8_faultOf_131 : decode cX8_faultOf 131 = .ok (.aload_n 0, 1) := by decide +kernel
theorem dX8_faultOf_132 : decode cX8_faultOf 132 = .ok (.getfield 58, 3) := by decide +kernel
theorem dX8_faultOf_135 : decode cX8_faultOf 135 = .ok (.if_icmp .ge 7, 3) := by decide +kernel
theorem dX8_faultOf_138 : decode cX8_faultOf 138 = .ok (.iconst 1, 1) := by decide +kernel
theorem dX8_faultOf_139 : decode cX8_faultOf 139 = .ok (.goto 4, 3) := by decide +kernel
theorem dX8_faultOf_142 : decode cX8_faultOf 142 = .ok (.iconst 0, 1) := by decide +kernel
theorem dX8_faultOf_143 : decode cX8_faultOf 143 = .ok (.putfield 64, 3) := by decide +kernel
theorem dX8_faultOf_146 : decode cX8_faultOf 146 = .ok (.aload_n 0, 1) := by decide +kernel
theorem dX8_faultOf_147 : decode cX8_faultOf 147 = .ok (.getfield 64, 3) := by decide +kernel
theorem dX8_faultOf_150 : decode cX8_faultOf 150 = .ok (.ifCond .eq 10, 3) := by decide +kernel
theorem dX8_faultOf_153 : decode cX8_faultOf 153 = .ok (.aload_n 0, 1) := by decide +kernel
theorem dX8_faultOf_154 : decode cX8_faultOf 154 = .ok (.getfield 68, 3) := by decide +kernel
theorem dX8_faultOf_157 : decode cX8_faultOf 157 = .ok (.goto 18, 3) := by decide +kernel
theorem dX8_faultOf_160 : decode cX8_faultOf 160 = .ok (.aload_n 0, 1) := by decide +kernel
theorem dX8_faultOf_161 : decode cX8_faultOf 161 = .ok (.invokevirtual 105, 3) := by decide +kernel
theorem dX8_faultOf_164 : decode cX8_faultOf 164 = .ok (.ifCond .eq 7, 3) := by decide +kernel
theorem dX8_faultOf_167 : decode cX8_faultOf 167 = .ok (.iconst (-1), 1) := by decide +kernel
theorem dX8_faultOf_168 : decode cX8_faultOf 168 = .ok (.goto 7, 3) := by decide +kernel
theorem dX8_faultOf_171 : decode cX8_faultOf 171 = .ok (.aload_n 0, 1) := by decide +kernel
theorem dX8_faultOf_172 : decode cX8_faultOf 172 = .ok (.getfield 102, 3) := by decide +kernel
theorem dX8_faultOf_175 : decode cX8_faultOf 175 = .ok (.ireturn, 1) := by decide +kernel
theorem dX8_isLit_0 : decode cX8_isLit 0 = .ok (.aload_n 0, 1) := by decide +kernel
theorem dX8_isLit_1 : decode cX8_isLit 1 = .ok (.getfield 79, 3) := by decide +kernel
theorem dX8_isLit_4 : decode cX8_isLit 4 = .ok (.lookupswitch 77 #[(70, 36), (73, 38), (79, 54)], 36) := by decide +kernel
theorem dX8_isLit_40 : decode cX8_isLit 40 = .ok (.iconst 1, 1) := by decide +kernel
theorem dX8_isLit_41 : decode cX8_isLit 41 = .ok (.ireturn, 1) := by decide +kernel
theorem dX8_isLit_42 : decode cX8_isLit 42 = .ok (.iload_n 1, 1) := by decide +kernel
theorem dX8_isLit_43 : decode cX8_isLit 43 = .ok (.aload_n 0, 1) := by decide +kernel
theorem dX8_isLit_44 : decode cX8_isLit 44 = .ok (.getfield 93, 3) := by decide +kernel
theorem dX8_isLit_47 : decode cX8_isLit 47 = .ok (.iconst 2, 1) := by decide +kernel
theorem dX8_isLit_48 : decode cX8_isLit 48 = .ok (.idiv, 1) := by decide +kernel
theorem dX8_isLit_49 : decode cX8_isLit 49 = .ok (.if_icmp .ge 7, 3) := by decide +kernel
theorem dX8_isLit_52 : decode cX8_isLit 52 = .ok (.iconst 1, 1) := by decide +kernel
theorem dX8_isLit_53 : decode cX8_isLit 53 = .ok (.goto 4, 3) := by decide +kernel
theorem dX8_isLit_56 : decode cX8_isLit 56 = .ok (.iconst 0, 1) := by decide +kernel
theorem dX8_isLit_57 : decode cX8_isLit 57 = .ok (.ireturn, 1) := by decide +kernel
theorem dX8_isLit_58 : decode cX8_isLit 58 = .ok (.iload_n 1, 1) := by decide +kernel
theorem dX8_isLit_59 : decode cX8_isLit 59 = .ok (.iconst 2, 1) := by decide +kernel
theorem dX8_isLit_60 : decode cX8_isLit 60 = .ok (.aload_n 0, 1) := by decide +kernel
theorem dX8_isLit_61 : decode cX8_isLit 61 = .ok (.getfield 86, 3) := by decide +kernel
theorem dX8_isLit_64 : decode cX8_isLit 64 = .ok (.imul, 1) := by decide +kernel
theorem dX8_isLit_65 : decode cX8_isLit 65 = .ok (.if_icmp .ge 10, 3) := by decide +kernel
theorem dX8_isLit_68 : decode cX8_isLit 68 = .ok (.iload_n 1, 1) := by decide +kernel
theorem dX8_isLit_69 : decode cX8_isLit 69 = .ok (.iconst 2, 1) := by decide +kernel
theorem dX8_isLit_70 : decode cX8_isLit 70 = .ok (.irem, 1) := by decide +kernel
theorem dX8_isLit_71 : decode cX8_isLit 71 = .ok (.iconst 1, 1) := by decide +kernel
theorem dX8_isLit_72 : decode cX8_isLit 72 = .ok (.if_icmp .ne 7, 3) := by decide +kernel
theorem dX8_isLit_75 : decode cX8_isLit 75 = .ok (.iconst 1, 1) := by decide +kernel
theorem dX8_isLit_76 : decode cX8_isLit 76 = .ok (.goto 4, 3) := by decide +kernel
theorem dX8_isLit_79 : decode cX8_isLit 79 = .ok (.iconst 0, 1) := by decide +kernel
theorem dX8_isLit_80 : decode cX8_isLit 80 = .ok (.ireturn, 1) := by decide +kernel
theorem dX8_isLit_81 : decode cX8_isLit 81 = .ok (.iload_n 1, 1) := by decide +kernel
theorem dX8_isLit_82 : decode cX8_isLit 82 = .ok (.iconst 2, 1) := by decide +kernel
theorem dX8_isLit_83 : decode cX8_isLit 83 = .ok (.aload_n 0, 1) := by decide +kernel
theorem dX8_isLit_84 : decode cX8_isLit 84 = .ok (.getfield 86, 3) := by decide +kernel
theorem dX8_isLit_87 : decode cX8_isLit 87 = .ok (.imul, 1) := by decide +kernel
theorem dX8_isLit_88 : decode cX8_isLit 88 = .ok (.if_icmp .ge 13, 3) := by decide +kernel
theorem dX8_isLit_91 : decode cX8_isLit 91 = .ok (.iload_n 1, 1) := by decide +kernel
theorem dX8_isLit_92 : decode cX8_isLit 92 = .ok (.iconst 2, 1) := by decide +kernel
theorem dX8_isLit_93 : decode cX8_isLit 93 = .ok (.irem, 1) := by decide +kernel
theorem dX8_isLit_94 : decode cX8_isLit 94 = .ok (.ifCond .ne 7, 3) := by decide +kernel
theorem dX8_isLit_97 : decode cX8_isLit 97 = .ok (.iconst 1, 1) := by decide +kernel
theorem dX8_isLit_98 : decode cX8_isLit 98 = .ok (.goto 4, 3) := by decide +kernel
theorem dX8_isLit_101 : decode cX8_isLit 101 = .ok (.iconst 0, 1) := by decide +kernel
theorem dX8_isLit_102 : decode cX8_isLit 102 = .ok (.ireturn, 1) := by decide +kernel
theorem dX8_light_0 : decode cX8_light 0 = .ok (.iload_n 1, 1) := by decide +kernel
theorem dX8_light_1 : decode cX8_light 1 = .ok (.iconst 0, 1) := by decide +kernel
theorem dX8_light_2 : decode cX8_light 2 = .ok (.iconst 3, 1) := by decide +kernel
theorem dX8_light_3 : decode cX8_light 3 = .ok (.invokestatic 41, 3) := by decide +kernel
theorem dX8_light_6 : decode cX8_light 6 = .ok (.ifCond .eq 20, 3) := by decide +kernel
theorem dX8_light_9 : decode cX8_light 9 = .ok (.iload_n 2, 1) := by decide +kernel
theorem dX8_light_10 : decode cX8_light 10 = .ok (.invokestatic 108, 3) := by decide +kernel
theorem dX8_light_13 : decode cX8_light 13 = .ok (.ifCond .eq 13, 3) := by decide +kernel
theorem dX8_light_16 : decode cX8_light 16 = .ok (.iload_n 3, 1) := by decide +kernel
theorem dX8_light_17 : decode cX8_light 17 = .ok (.iconst 1, 1) := by decide +kernel
theorem dX8_light_18 : decode cX8_light 18 = .ok (.bipush 15, 2) := by decide +kernel
theorem dX8_light_20 : decode cX8_light 20 = .ok (.invokestatic 41, 3) := by decide +kernel
theorem dX8_light_23 : decode cX8_light 23 = .ok (.ifCond .ne 10, 3) := by decide +kernel
theorem dX8_light_26 : decode cX8_light 26 = .ok (.aload_n 0, 1) := by decide +kernel
theorem dX8_light_27 : decode cX8_light 27 = .ok (.ldc 57, 2) := by decide +kernel
theorem dX8_light_29 : decode cX8_light 29 = .ok (.invokevirtual 53, 3) := by decide +kernel
theorem dX8_light_32 : decode cX8_light 32 = .ok (.ireturn, 1) := by decide +kernel
theorem dX8_light_33 : decode cX8_light 33 = .ok (.aload_n 0, 1) := by decide +kernel
theorem dX8_light_34 : decode cX8_light 34 = .ok (.getfield 9, 3) := by decide +kernel
theorem dX8_light_37 : decode cX8_light 37 = .ok (.iconst 0, 1) := by decide +kernel
theorem dX8_light_38 : decode cX8_light 38 = .ok (.iaload, 1) := by decide +kernel
theorem dX8_light_39 : decode cX8_light 39 = .ok (.istore 4, 2) := by decide +kernel
theorem dX8_light_41 : decode cX8_light 41 = .ok (.iload 4, 2) := by decide +kernel
theorem dX8_light_43 : decode cX8_light 43 = .ok (.bipush 10, 2) := by decide +kernel
theorem dX8_light_45 : decode cX8_light 45 = .ok (.if_icmp .ne 10, 3) := by decide +kernel
theorem dX8_light_48 : decode cX8_light 48 = .ok (.aload_n 0, 1) := by decide +kernel
theorem dX8_light_49 : decode cX8_light 49 = .ok (.ldc 61, 2) := by decide +kernel
theorem dX8_light_51 : decode cX8_light 51 = .ok (.invokevirtual 53, 3) := by decide +kernel
theorem dX8_light_54 : decode cX8_light 54 = .ok (.ireturn, 1) := by decide +kernel
theorem dX8_light_55 : decode cX8_light 55 = .ok (.aload_n 0, 1) := by decide +kernel
theorem dX8_light_56 : decode cX8_light 56 = .ok (.invokevirtual 111, 3) := by decide +kernel
theorem dX8_light_59 : decode cX8_light 59 = .ok (.istore 5, 2) := by decide +kernel
theorem dX8_light_61 : decode cX8_light 61 = .ok (.aload_n 0, 1) := by decide +kernel
theorem dX8_light_62 : decode cX8_light 62 = .ok (.iconst 0, 1) := by decide +kernel
theorem dX8_light_63 : decode cX8_light 63 = .ok (.putfield 58, 3) := by decide +kernel
theorem dX8_light_66 : decode cX8_light 66 = .ok (.iload 5, 2) := by decide +kernel
theorem dX8_light_68 : decode cX8_light 68 = .ok (.ifCond .lt 8, 3) := by decide +kernel
theorem dX8_light_71 : decode cX8_light 71 = .ok (.iconst (-1), 1) := by decide +kernel
theorem dX8_light_72 : decode cX8_light 72 = .ok (.iload 5, 2) := by decide +kernel
theorem dX8_light_74 : decode cX8_light 74 = .ok (.isub, 1) := by decide +kernel
theorem dX8_light_75 : decode cX8_light 75 = .ok (.ireturn, 1) := by decide +kernel
theorem dX8_light_76 : decode cX8_light 76 = .ok (.aload_n 0, 1) := by decide +kernel
theorem dX8_light_77 : decode cX8_light 77 = .ok (.invokevirtual 114, 3) := by decide +kernel
theorem dX8_light_80 : decode cX8_light 80 = .ok (.iconst 0, 1) := by decide +kernel
theorem dX8_light_81 : decode cX8_light 81 = .ok (.istore 6, 2) := by decide +kernel
theorem dX8_light_83 : decode cX8_light 83 = .ok (.iload 6, 2) := by decide +kernel
theorem dX8_light_85 : decode cX8_light 85 = .ok (.bipush 22, 2) := by decide +kernel
theorem dX8_light_87 : decode cX8_light 87 = .ok (.if_icmp .ge 22, 3) := by decide +kernel
theorem dX8_light_90 : decode cX8_light 90 = .ok (.aload_n 0, 1) := by decide +kernel
theorem dX8_light_91 : decode cX8_light 91 = .ok (.getfield 9, 3) := by decide +kernel
theorem dX8_light_94 : decode cX8_light 94 = .ok (.iload 4, 2) := by decide +kernel
theorem dX8_light_96 : decode cX8_light 96 = .ok (.iload 6, 2) := by decide +kernel
theorem dX8_light_98 : decode cX8_light 98 = .ok (.invokestatic 45, 3) := by decide +kernel
theorem dX8_light_101 : decode cX8_light 101 = .ok (.iconst 0, 1) := by decide +kernel
theorem dX8_light_102 : decode cX8_light 102 = .ok (.iastore, 1) := by decide +kernel
theorem dX8_light_103 : decode cX8_light 103 = .ok (.iinc 6 1, 3) := by decide +kernel
theorem dX8_light_106 : decode cX8_light 106 = .ok (.goto (-23), 3) := by decide +kernel
theorem dX8_light_109 : decode cX8_light 109 = .ok (.aload_n 0, 1) := by decide +kernel
theorem dX8_light_110 : decode cX8_light 110 = .ok (.getfield 9, 3) := by decide +kernel
theorem dX8_light_113 : decode cX8_light 113 = .ok (.iload 4, 2) := by decide +kernel
theorem dX8_light_115 : decode cX8_light 115 = .ok (.iconst 0, 1) := by decide +kernel
theorem dX8_light_116 : decode cX8_light 116 = .ok (.invokestatic 45, 3) := by decide +kernel
theorem dX8_light_119 : decode cX8_light 119 = .ok (.iload_n 1, 1) := by decide +kernel
theorem dX8_light_120 : decode cX8_light 120 = .ok (.iastore, 1) := by decide +kernel
theorem dX8_light_121 : decode cX8_light 121 = .ok (.aload_n 0, 1) := by decide +kernel
theorem dX8_light_122 : decode cX8_light 122 = .ok (.getfield 9, 3) := by decide +kernel
theorem dX8_light_125 : decode cX8_light 125 = .ok (.iload 4, 2) := by decide +kernel
theorem dX8_light_127 : decode cX8_light 127 = .ok (.iconst 1, 1) := by decide +kernel
theorem dX8_light_128 : decode cX8_light 128 = .ok (.invokestatic 45, 3) := by decide +kernel
theorem dX8_light_131 : decode cX8_light 131 = .ok (.iload_n 2, 1) := by decide +kernel
theorem dX8_light_132 : decode cX8_light 132 = .ok (.iastore, 1) := by decide +kernel
theorem dX8_light_133 : decode cX8_light 133 = .ok (.aload_n 0, 1) := by decide +kernel
theorem dX8_light_134 : decode cX8_light 134 = .ok (.getfield 9, 3) := by decide +kernel
theorem dX8_light_137 : decode cX8_light 137 = .ok (.iload 4, 2) := by decide +kernel
theorem dX8_light_139 : decode cX8_light 139 = .ok (.iconst 2, 1) := by decide +kernel
theorem dX8_light_140 : decode cX8_light 140 = .ok (.invokestatic 45, 3) := by decide +kernel
theorem dX8_light_143 : decode cX8_light 143 = .ok (.iload_n 3, 1) := by decide +kernel
theorem dX8_light_144 : decode cX8_light 144 = .ok (.iastore, 1) := by decide +kernel
theorem dX8_light_145 : decode cX8_light 145 = .ok (.aload_n 0, 1) := by decide +kernel
theorem dX8_light_146 : decode cX8_light 146 = .ok (.getfield 9, 3) := by decide +kernel
theorem dX8_light_149 : decode cX8_light 149 = .ok (.iload 4, 2) := by decide +kernel
theorem dX8_light_151 : decode cX8_light 151 = .ok (.iconst 3, 1) := by decide +kernel
theorem dX8_light_152 : decode cX8_light 152 = .ok (.invokestatic 45, 3) := by decide +kernel
theorem dX8_light_155 : decode cX8_light 155 = .ok (.aload_n 0, 1) := by decide +kernel
theorem dX8_light_156 : decode cX8_light 156 = .ok (.getfield 99, 3) := by decide +kernel
theorem dX8_light_159 : decode cX8_light 159 = .ok (.iastore, 1) := by decide +kernel
theorem dX8_light_160 : decode cX8_light 160 = .ok (.aload_n 0, 1) := by decide +kernel
theorem dX8_light_161 : decode cX8_light 161 = .ok (.getfield 9, 3) := by decide +kernel
theorem dX8_light_164 : decode cX8_light 164 = .ok (.iload 4, 2) := by decide +kernel
theorem dX8_light_166 : decode cX8_light 166 = .ok (.iconst 4, 1) := by decide +kernel
theorem dX8_light_167 : decode cX8_light 167 = .ok (.invokestatic 45, 3) := by decide +kernel
theorem dX8_light_170 : decode cX8_light 170 = .ok (.aload_n 0, 1) := by decide +kernel
theorem dX8_light_171 : decode cX8_light 171 = .ok (.getfield 93, 3) := by decide +kernel
theorem dX8_light_174 : decode cX8_light 174 = .ok (.iastore, 1) := by decide +kernel
theorem dX8_light_175 : decode cX8_light 175 = .ok (.iconst 0, 1) := by decide +kernel
theorem dX8_light_176 : decode cX8_light 176 = .ok (.istore 6, 2) := by decide +kernel
theorem dX8_light_178 : decode cX8_light 178 = .ok (.iload 6, 2) := by decide +kernel
theorem dX8_light_180 : decode cX8_light 180 = .ok (.aload_n 0, 1) := by decide +kernel
theorem dX8_light_181 : decode cX8_light 181 = .ok (.getfield 93, 3) := by decide +kernel
theorem dX8_light_184 : decode cX8_light 184 = .ok (.if_icmp .ge 40, 3) := by decide +kernel
theorem dX8_light_187 : decode cX8_light 187 = .ok (.aload_n 0, 1) := by decide +kernel
theorem dX8_light_188 : decode cX8_light 188 = .ok (.getfield 9, 3) := by decide +kernel
theorem dX8_light_191 : decode cX8_light 191 = .ok (.iload 4, 2) := by decide +kernel
theorem dX8_light_193 : decode cX8_light 193 = .ok (.iconst 5, 1) := by decide +kernel
theorem dX8_light_194 : decode cX8_light 194 = .ok (.invokestatic 45, 3) := by decide +kernel
theorem dX8_light_197 : decode cX8_light 197 = .ok (.dup2, 1) := by decide +kernel
theorem dX8_light_198 : decode cX8_light 198 = .ok (.iaload, 1) := by decide +kernel
theorem dX8_light_199 : decode cX8_light 199 = .ok (.aload_n 0, 1) := by decide +kernel
theorem dX8_light_200 : decode cX8_light 200 = .ok (.iload 6, 2) := by decide +kernel
theorem dX8_light_202 : decode cX8_light 202 = .ok (.invokevirtual 117, 3) := by decide +kernel
theorem dX8_light_205 : decode cX8_light 205 = .ok (.ifCond .eq 10, 3) := by decide +kernel
theorem dX8_light_208 : decode cX8_light 208 = .ok (.iconst 1, 1) := by decide +kernel
theorem dX8_light_209 : decode cX8_light 209 = .ok (.iload 6, 2) := by decide +kernel
theorem dX8_light_211 : decode cX8_light 211 = .ok (.ishl, 1) := by decide +kernel
theorem dX8_light_212 : decode cX8_light 212 = .ok (.goto 4, 3) := by decide +kernel
theorem dX8_light_215 : decode cX8_light 215 = .ok (.iconst 0, 1) := by decide +kernel
theorem dX8_light_216 : decode cX8_light 216 = .ok (.ior, 1) := by decide +kernel
theorem dX8_light_217 : decode cX8_light 217 = .ok (.iastore, 1) := by decide +kernel
theorem dX8_light_218 : decode cX8_light 218 = .ok (.iinc 6 1, 3) := by decide +kernel
theorem dX8_light_221 : decode cX8_light 221 = .ok (.goto (-43), 3) := by decide +kernel
theorem dX8_light_224 : decode cX8_light 224 = .ok (.aload_n 0, 1) := by decide +kernel
theorem dX8_light_225 : decode cX8_light 225 = .ok (.getfield 9, 3) := by decide +kernel
theorem dX8_light_228 : decode cX8_light 228 = .ok (.iload 4, 2) := by decide +kernel
theorem dX8_light_230 : decode cX8_light 230 = .ok (.bipush 9, 2) := by decide +kernel
theorem dX8_light_232 : decode cX8_light 232 = .ok (.invokestatic 45, 3) := by decide +kernel
theorem dX8_light_235 : decode cX8_light 235 = .ok (.iconst 4, 1) := by decide +kernel
theorem dX8_light_236 : decode cX8_light 236 = .ok (.iastore, 1) := by decide +kernel
theorem dX8_light_237 : decode cX8_light 237 = .ok (.aload_n 0, 1) := by decide +kernel
theorem dX8_light_238 : decode cX8_light 238 = .ok (.getfield 9, 3) := by decide +kernel
theorem dX8_light_241 : decode cX8_light 241 = .ok (.iconst 0, 1) := by decide +kernel
theorem dX8_light_242 : decode cX8_light 242 = .ok (.dup2, 1) := by decide +kernel
theorem dX8_light_243 : decode cX8_light 243 = .ok (.iaload, 1) := by decide +kernel
theorem dX8_light_244 : decode cX8_light 244 = .ok (.iconst 1, 1) := by decide +kernel
theorem dX8_light_245 : decode cX8_light 245 = .ok (.iadd, 1) := by decide +kernel
theorem dX8_light_246 : decode cX8_light 246 = .ok (.iastore, 1) := by decide +kernel
theorem dX8_light_247 : decode cX8_light 247 = .ok (.iload 4, 2) := by decide +kernel
theorem dX8_light_249 : decode cX8_light 249 = .ok (.ireturn, 1) := by decide +kernel
theorem dX8_as_0 : decode cX8_as 0 = .ok (.aload_n 0, 1) := by decide +kernel
theorem dX8_as_1 : decode cX8_as 1 = .ok (.iload_n 1, 1) := by decide +kernel
theorem dX8_as_2 : decode cX8_as 2 = .ok (.invokevirtual 120, 3) := by decide +kernel
theorem dX8_as_5 : decode cX8_as 5 = .ok (.ifCond .eq 12, 3) := by decide +kernel
theorem dX8_as_8 : decode cX8_as 8 = .ok (.iload_n 2, 1) := by decide +kernel
theorem dX8_as_9 : decode cX8_as 9 = .ok (.iconst 0, 1) := by decide +kernel
theorem dX8_as_10 : decode cX8_as 10 = .ok (.iconst 3, 1) := by decide +kernel
theorem dX8_as_11 : decode cX8_as 11 = .ok (.invokestatic 41, 3) := by decide +kernel
theorem dX8_as_14 : decode cX8_as 14 = .ok (.ifCond .ne 10, 3) := by decide +kernel
theorem dX8_as_17 : decode cX8_as 17 = .ok (.aload_n 0, 1) := by decide +kernel
theorem dX8_as_18 : decode cX8_as 18 = .ok (.ldc 57, 2) := by decide +kernel
theorem dX8_as_20 : decode cX8_as 20 = .ok (.invokevirtual 53, 3) := by decide +kernel
theorem dX8_as_23 : decode cX8_as 23 = .ok (.ireturn, 1) := by decide +kernel
theorem dX8_as_24 : decode cX8_as 24 = .ok (.aload_n 0, 1) := by decide +kernel
theorem dX8_as_25 : decode cX8_as 25 = .ok (.getfield 9, 3) := by decide +kernel
theorem dX8_as_28 : decode cX8_as 28 = .ok (.iload_n 1, 1) := by decide +kernel
theorem dX8_as_29 : decode cX8_as 29 = .ok (.iconst 0, 1) := by decide +kernel
theorem dX8_as_30 : decode cX8_as 30 = .ok (.invokestatic 45, 3) := by decide +kernel
theorem dX8_as_33 : decode cX8_as 33 = .ok (.iaload, 1) := by decide +kernel
theorem dX8_as_34 : decode cX8_as 34 = .ok (.istore_n 3, 1) := by decide +kernel
theorem dX8_as_35 : decode cX8_as 35 = .ok (.iload_n 2, 1) := by decide +kernel
theorem dX8_as_36 : decode cX8_as 36 = .ok (.ifCond .eq 18, 3) := by decide +kernel
theorem dX8_as_39 : decode cX8_as 39 = .ok (.iload_n 3, 1) := by decide +kernel
theorem dX8_as_40 : decode cX8_as 40 = .ok (.iload_n 2, 1) := by decide +kernel
theorem dX8_as_41 : decode cX8_as 41 = .ok (.if_icmp .eq 13, 3) := by decide +kernel
theorem dX8_as_44 : decode cX8_as 44 = .ok (.iload_n 2, 1) := by decide +kernel
theorem dX8_as_45 : decode cX8_as 45 = .ok (.iconst 1, 1) := by decide +kernel
theorem dX8_as_46 : decode cX8_as 46 = .ok (.if_icmp .ne 12, 3) := by decide +kernel
theorem dX8_as_49 : decode cX8_as 49 = .ok (.iload_n 3, 1) := by decide +kernel
theorem dX8_as_50 : decode cX8_as 50 = .ok (.iconst 3, 1) := by decide +kernel
theorem dX8_as_51 : decode cX8_as 51 = .ok (.if_icmp .ne 7, 3) := by decide +kernel
theorem dX8_as_54 : decode cX8_as 54 = .ok (.iload_n 1, 1) := by decide +kernel
theorem dX8_as_55 : decode cX8_as 55 = .ok (.goto 9, 3) := by decide +kernel
theorem dX8_as_58 : decode cX8_as 58 = .ok (.aload_n 0, 1) := by decide +kernel
theorem dX8_as_59 : decode cX8_as 59 = .ok (.ldc 123, 2) := by decide +kernel
theorem dX8_as_61 : decode cX8_as 61 = .ok (.invokevirtual 53, 3) := by decide +kernel
theorem dX8_as_64 : decode cX8_as 64 = .ok (.ireturn, 1) := by decide +kernel
theorem dX8_ones_0 : decode cX8_ones 0 = .ok (.iconst 0, 1) := by decide +kernel
theorem dX8_ones_1 : decode cX8_ones 1 = .ok (.istore_n 1, 1) := by decide +kernel
theorem dX8_ones_2 : decode cX8_ones 2 = .ok (.iconst 0, 1) := by decide +kernel
theorem dX8_ones_3 : decode cX8_ones 3 = .ok (.istore_n 2, 1) := by decide +kernel
theorem dX8_ones_4 : decode cX8_ones 4 = .ok (.iload_n 2, 1) := by decide +kernel
theorem dX8_ones_5 : decode cX8_ones 5 = .ok (.bipush 30, 2) := by decide +kernel
theorem dX8_ones_7 : decode cX8_ones 7 = .ok (.if_icmp .ge 17, 3) := by decide +kernel
theorem dX8_ones_10 : decode cX8_ones 10 = .ok (.iload_n 1, 1) := by decide +kernel
theorem dX8_ones_11 : decode cX8_ones 11 = .ok (.iload_n 0, 1) := by decide +kernel
theorem dX8_ones_12 : decode cX8_ones 12 = .ok (.iload_n 2, 1) := by decide +kernel
theorem dX8_ones_13 : decode cX8_ones 13 = .ok (.ishr, 1) := by decide +kernel
theorem dX8_ones_14 : decode cX8_ones 14 = .ok (.iconst 1, 1) := by decide +kernel
theorem dX8_ones_15 : decode cX8_ones 15 = .ok (.iand, 1) := by decide +kernel
theorem dX8_ones_16 : decode cX8_ones 16 = .ok (.iadd, 1) := by decide +kernel
theorem dX8_ones_17 : decode cX8_ones 17 = .ok (.istore_n 1, 1) := by decide +kernel
theorem dX8_ones_18 : decode cX8_ones 18 = .ok (.iinc 2 1, 3) := by decide +kernel
theorem dX8_ones_21 : decode cX8_ones 21 = .ok (.goto (-17), 3) := by decide +kernel
theorem dX8_ones_24 : decode cX8_ones 24 = .ok (.iload_n 1, 1) := by decide +kernel
theorem dX8_ones_25 : decode cX8_ones 25 = .ok (.ireturn, 1) := by decide +kernel
theorem dX8_lightIs_0 : decode cX8_lightIs 0 = .ok (.aload_n 0, 1) := by decide +kernel
theorem dX8_lightIs_1 : decode cX8_lightIs 1 = .ok (.iload_n 1, 1) := by decide +kernel
theorem dX8_lightIs_2 : decode cX8_lightIs 2 = .ok (.invokevirtual 120, 3) := by decide +kernel
theorem dX8_lightIs_5 : decode cX8_lightIs 5 = .ok (.ifCond .eq 13, 3) := by decide +kernel
theorem dX8_lightIs_8 : decode cX8_lightIs 8 = .ok (.iload_n 2, 1) := by decide +kernel
theorem dX8_lightIs_9 : decode cX8_lightIs 9 = .ok (.iconst 0, 1) := by decide +kernel
theorem dX8_lightIs_10 : decode cX8_lightIs 10 = .ok (.bipush 7, 2) := by decide +kernel
theorem dX8_lightIs_12 : decode cX8_lightIs 12 = .ok (.invokestatic 41, 3) := by decide +kernel
theorem dX8_lightIs_15 : decode cX8_lightIs 15 = .ok (.ifCond .ne 10, 3) := by decide +kernel
theorem dX8_lightIs_18 : decode cX8_lightIs 18 = .ok (.aload_n 0, 1) := by decide +kernel
theorem dX8_lightIs_19 : decode cX8_lightIs 19 = .ok (.ldc 57, 2) := by decide +kernel
theorem dX8_lightIs_21 : decode cX8_lightIs 21 = .ok (.invokevirtual 53, 3) := by decide +kernel
theorem dX8_lightIs_24 : decode cX8_lightIs 24 = .ok (.ireturn, 1) := by decide +kernel
theorem dX8_lightIs_25 : decode cX8_lightIs 25 = .ok (.aload_n 0, 1) := by decide +kernel
theorem dX8_lightIs_26 : decode cX8_lightIs 26 = .ok (.getfield 9, 3) := by decide +kernel
theorem dX8_lightIs_29 : decode cX8_lightIs 29 = .ok (.iload_n 1, 1) := by decide +kernel
theorem dX8_lightIs_30 : decode cX8_lightIs 30 = .ok (.iload_n 2, 1) := by decide +kernel
theorem dX8_lightIs_31 : decode cX8_lightIs 31 = .ok (.invokestatic 45, 3) := by decide +kernel
theorem dX8_lightIs_34 : decode cX8_lightIs 34 = .ok (.iaload, 1) := by decide +kernel
theorem dX8_lightIs_35 : decode cX8_lightIs 35 = .ok (.istore_n 3, 1) := by decide +kernel
theorem dX8_lightIs_36 : decode cX8_lightIs 36 = .ok (.iload_n 2, 1) := by decide +kernel
theorem dX8_lightIs_37 : decode cX8_lightIs 37 = .ok (.iconst 5, 1) := by decide +kernel
theorem dX8_lightIs_38 : decode cX8_lightIs 38 = .ok (.if_icmp .ne 10, 3) := by decide +kernel
theorem dX8_lightIs_41 : decode cX8_lightIs 41 = .ok (.iload_n 3, 1) := by decide +kernel
theorem dX8_lightIs_42 : decode cX8_lightIs 42 = .ok (.invokestatic 124, 3) := by decide +kernel
theorem dX8_lightIs_45 : decode cX8_lightIs 45 = .ok (.goto 4, 3) := by decide +kernel
theorem dX8_lightIs_48 : decode cX8_lightIs 48 = .ok (.iload_n 3, 1) := by decide +kernel
theorem dX8_lightIs_49 : decode cX8_lightIs 49 = .ok (.ireturn, 1) := by decide +kernel
theorem dX8_hasLight_0 : decode cX8_hasLight 0 = .ok (.aload_n 0, 1) := by decide +kernel
theorem dX8_hasLight_1 : decode cX8_hasLight 1 = .ok (.getfield 9, 3) := by decide +kernel
theorem dX8_hasLight_4 : decode cX8_hasLight 4 = .ok (.iload_n 1, 1) := by decide +kernel
theorem dX8_hasLight_5 : decode cX8_hasLight 5 = .ok (.iconst 5, 1) := by decide +kernel
theorem dX8_hasLight_6 : decode cX8_hasLight 6 = .ok (.invokestatic 45, 3) := by decide +kernel
theorem dX8_hasLight_9 : decode cX8_hasLight 9 = .ok (.iaload, 1) := by decide +kernel
theorem dX8_hasLight_10 : decode cX8_hasLight 10 = .ok (.iload_n 2, 1) := by decide +kernel
theorem dX8_hasLight_11 : decode cX8_hasLight 11 = .ok (.aload_n 0, 1) := by decide +kernel
theorem dX8_hasLight_12 : decode cX8_hasLight 12 = .ok (.getfield 9, 3) := by decide +kernel
theorem dX8_hasLight_15 : decode cX8_hasLight 15 = .ok (.iload_n 1, 1) := by decide +kernel
theorem dX8_hasLight_16 : decode cX8_hasLight 16 = .ok (.iconst 4, 1) := by decide +kernel
theorem dX8_hasLight_17 : decode cX8_hasLight 17 = .ok (.invokestatic 45, 3) := by decide +kernel
theorem dX8_hasLight_20 : decode cX8_hasLight 20 = .ok (.iaload, 1) := by decide +kernel
theorem dX8_hasLight_21 : decode cX8_hasLight 21 = .ok (.irem, 1) := by decide +kernel
theorem dX8_hasLight_22 : decode cX8_hasLight 22 = .ok (.ishr, 1) := by decide +kernel
theorem dX8_hasLight_23 : decode cX8_hasLight 23 = .ok (.iconst 1, 1) := by decide +kernel
theorem dX8_hasLight_24 : decode cX8_hasLight 24 = .ok (.iand, 1) := by decide +kernel
theorem dX8_hasLight_25 : decode cX8_hasLight 25 = .ok (.iconst 1, 1) := by decide +kernel
theorem dX8_hasLight_26 : decode cX8_hasLight 26 = .ok (.if_icmp .ne 7, 3) := by decide +kernel
theorem dX8_hasLight_29 : decode cX8_hasLight 29 = .ok (.iconst 1, 1) := by decide +kernel
theorem dX8_hasLight_30 : decode cX8_hasLight 30 = .ok (.goto 4, 3) := by decide +kernel
theorem dX8_hasLight_33 : decode cX8_hasLight 33 = .ok (.iconst 0, 1) := by decide +kernel
theorem dX8_hasLight_34 : decode cX8_hasLight 34 = .ok (.ireturn, 1) := by decide +kernel
theorem dX8_at_0 : decode cX8_at 0 = .ok (.aload_n 0, 1) := by decide +kernel
theorem dX8_at_1 : decode cX8_at 1 = .ok (.iload_n 1, 1) := by decide +kernel
theorem dX8_at_2 : decode cX8_at 2 = .ok (.invokevirtual 120, 3) := by decide +kernel
theorem dX8_at_5 : decode cX8_at 5 = .ok (.ifCond .eq 7, 3) := by decide +kernel
theorem dX8_at_8 : decode cX8_at 8 = .ok (.iload_n 2, 1) := by decide +kernel
theorem dX8_at_9 : decode cX8_at 9 = .ok (.ifCond .ge 10, 3) := by decide +kernel
theorem dX8_at_12 : decode cX8_at 12 = .ok (.aload_n 0, 1) := by decide +kernel
theorem dX8_at_13 : decode cX8_at 13 = .ok (.ldc 57, 2) := by decide +kernel
theorem dX8_at_15 : decode cX8_at 15 = .ok (.invokevirtual 53, 3) := by decide +kernel
theorem dX8_at_18 : decode cX8_at 18 = .ok (.ireturn, 1) := by decide +kernel
theorem dX8_at_19 : decode cX8_at 19 = .ok (.aload_n 0, 1) := by decide +kernel
theorem dX8_at_20 : decode cX8_at 20 = .ok (.iload_n 1, 1) := by decide +kernel
theorem dX8_at_21 : decode cX8_at 21 = .ok (.iload_n 2, 1) := by decide +kernel
theorem dX8_at_22 : decode cX8_at 22 = .ok (.invokevirtual 127, 3) := by decide +kernel
theorem dX8_at_25 : decode cX8_at 25 = .ok (.ifCond .eq 7, 3) := by decide +kernel
theorem dX8_at_28 : decode cX8_at 28 = .ok (.iconst 1, 1) := by decide +kernel
theorem dX8_at_29 : decode cX8_at 29 = .ok (.goto 4, 3) := by decide +kernel
theorem dX8_at_32 : decode cX8_at 32 = .ok (.iconst 0, 1) := by decide +kernel
theorem dX8_at_33 : decode cX8_at 33 = .ok (.ireturn, 1) := by decide +kernel
theorem dX8_sector_0 : decode cX8_sector 0 = .ok (.aload_n 0, 1) := by decide +kernel
theorem dX8_sector_1 : decode cX8_sector 1 = .ok (.iload_n 1, 1) := by decide +kernel
theorem dX8_sector_2 : decode cX8_sector 2 = .ok (.invokevirtual 120, 3) := by decide +kernel
theorem dX8_sector_5 : decode cX8_sector 5 = .ok (.ifCond .eq 27, 3) := by decide +kernel
theorem dX8_sector_8 : decode cX8_sector 8 = .ok (.iload_n 2, 1) := by decide +kernel
theorem dX8_sector_9 : decode cX8_sector 9 = .ok (.invokestatic 131, 3) := by decide +kernel
theorem dX8_sector_12 : decode cX8_sector 12 = .ok (.ifCond .eq 20, 3) := by decide +kernel
theorem dX8_sector_15 : decode cX8_sector 15 = .ok (.iload_n 3, 1) := by decide +kernel
theorem dX8_sector_16 : decode cX8_sector 16 = .ok (.invokestatic 131, 3) := by decide +kernel
theorem dX8_sector_19 : decode cX8_sector 19 = .ok (.ifCond .eq 13, 3) := by decide +kernel
theorem dX8_sector_22 : decode cX8_sector 22 = .ok (.iload 4, 2) := by decide +kernel
theorem dX8_sector_24 : decode cX8_sector 24 = .ok (.iconst 0, 1) := by decide +kernel
theorem dX8_sector_25 : decode cX8_sector 25 = .ok (.iconst 3, 1) := by decide +kernel
theorem dX8_sector_26 : decode cX8_sector 26 = .ok (.invokestatic 41, 3) := by decide +kernel
theorem dX8_sector_29 : decode cX8_sector 29 = .ok (.ifCond .ne 10, 3) := by decide +kernel
theorem dX8_sector_32 : decode cX8_sector 32 = .ok (.aload_n 0, 1) := by decide +kernel
theorem dX8_sector_33 : decode cX8_sector 33 = .ok (.ldc 57, 2) := by decide +kernel
theorem dX8_sector_35 : decode cX8_sector 35 = .ok (.invokevirtual 53, 3) := by decide +kernel
theorem dX8_sector_38 : decode cX8_sector 38 = .ok (.ireturn, 1) := by decide +kernel
theorem dX8_sector_39 : decode cX8_sector 39 = .ok (.aload_n 0, 1) := by decide +kernel
theorem dX8_sector_40 : decode cX8_sector 40 = .ok (.getfield 9, 3) := by decide +kernel
theorem dX8_sector_43 : decode cX8_sector 43 = .ok (.iload_n 1, 1) := by decide +kernel
theorem dX8_sector_44 : decode cX8_sector 44 = .ok (.bipush 6, 2) := by decide +kernel
theorem dX8_sector_46 : decode cX8_sector 46 = .ok (.invokestatic 45, 3) := by decide +kernel
theorem dX8_sector_49 : decode cX8_sector 49 = .ok (.iaload, 1) := by decide +kernel
theorem dX8_sector_50 : decode cX8_sector 50 = .ok (.istore 5, 2) := by decide +kernel
theorem dX8_sector_52 : decode cX8_sector 52 = .ok (.iload 5, 2) := by decide +kernel
theorem dX8_sector_54 : decode cX8_sector 54 = .ok (.iconst 4, 1) := by decide +kernel
theorem dX8_sector_55 : decode cX8_sector 55 = .ok (.if_icmp .ne 10, 3) := by decide +kernel
theorem dX8_sector_58 : decode cX8_sector 58 = .ok (.aload_n 0, 1) := by decide +kernel
theorem dX8_sector_59 : decode cX8_sector 59 = .ok (.ldc 61, 2) := by decide +kernel
theorem dX8_sector_61 : decode cX8_sector 61 = .ok (.invokevirtual 53, 3) := by decide +kernel
theorem dX8_sector_64 : decode cX8_sector 64 = .ok (.ireturn, 1) := by decide +kernel
theorem dX8_sector_65 : decode cX8_sector 65 = .ok (.aload_n 0, 1) := by decide +kernel
theorem dX8_sector_66 : decode cX8_sector 66 = .ok (.invokevirtual 114, 3) := by decide +kernel
theorem dX8_sector_69 : decode cX8_sector 69 = .ok (.iload_n 1, 1) := by decide +kernel
theorem dX8_sector_70 : decode cX8_sector 70 = .ok (.bipush 10, 2) := by decide +kernel
theorem dX8_sector_72 : decode cX8_sector 72 = .ok (.iconst 3, 1) := by decide +kernel
theorem dX8_sector_73 : decode cX8_sector 73 = .ok (.iload 5, 2) := by decide +kernel
theorem dX8_sector_75 : decode cX8_sector 75 = .ok (.imul, 1) := by decide +kernel
theorem dX8_sector_76 : decode cX8_sector 76 = .ok (.iadd, 1) := by decide +kernel
theorem dX8_sector_77 : decode cX8_sector 77 = .ok (.invokestatic 45, 3) := by decide +kernel
theorem dX8_sector_80 : decode cX8_sector 80 = .ok (.istore 6, 2) := by decide +kernel
theorem dX8_sector_82 : decode cX8_sector 82 = .ok (.aload_n 0, 1) := by decide +kernel
theorem dX8_sector_83 : decode cX8_sector 83 = .ok (.getfield 9, 3) := by decide +kernel
theorem dX8_sector_86 : decode cX8_sector 86 = .ok (.iload 6, 2) := by decide +kernel
theorem dX8_sector_88 : decode cX8_sector 88 = .ok (.iload_n 2, 1) := by decide +kernel
theorem dX8_sector_89 : decode cX8_sector 89 = .ok (.iastore, 1) := by decide +kernel
theorem dX8_sector_90 : decode cX8_sector 90 = .ok (.aload_n 0, 1) := by decide +kernel
theorem dX8_sector_91 : decode cX8_sector 91 = .ok (.getfield 9, 3) := by decide +kernel
theorem dX8_sector_94 : decode cX8_sector 94 = .ok (.iload 6, 2) := by decide +kernel
theorem dX8_sector_96 : decode cX8_sector 96 = .ok (.iconst 1, 1) := by decide +kernel
theorem dX8_sector_97 : decode cX8_sector 97 = .ok (.iadd, 1) := by decide +kernel
theorem dX8_sector_98 : decode cX8_sector 98 = .ok (.iload_n 3, 1) := by decide +kernel
theorem dX8_sector_99 : decode cX8_sector 99 = .ok (.iastore, 1) := by decide +kernel
theorem dX8_sector_100 : decode cX8_sector 100 = .ok (.aload_n 0, 1) := by decide +kernel
theorem dX8_sector_101 : decode cX8_sector 101 = .ok (.getfield 9, 3) := by decide +kernel
theorem dX8_sector_104 : decode cX8_sector 104 = .ok (.iload 6, 2) := by decide +kernel
theorem dX8_sector_106 : decode cX8_sector 106 = .ok (.iconst 2, 1) := by decide +kernel
theorem dX8_sector_107 : decode cX8_sector 107 = .ok (.iadd, 1) := by decide +kernel
theorem dX8_sector_108 : decode cX8_sector 108 = .ok (.iload 4, 2) := by decide +kernel
theorem dX8_sector_110 : decode cX8_sector 110 = .ok (.iastore, 1) := by decide +kernel
theorem dX8_sector_111 : decode cX8_sector 111 = .ok (.aload_n 0, 1) := by decide +kernel
theorem dX8_sector_112 : decode cX8_sector 112 = .ok (.getfield 9, 3) := by decide +kernel
theorem dX8_sector_115 : decode cX8_sector 115 = .ok (.iload_n 1, 1) := by decide +kernel
theorem dX8_sector_116 : decode cX8_sector 116 = .ok (.bipush 6, 2) := by decide +kernel
theorem dX8_sector_118 : decode cX8_sector 118 = .ok (.invokestatic 45, 3) := by decide +kernel
theorem dX8_sector_121 : decode cX8_sector 121 = .ok (.dup2, 1) := by decide +kernel
theorem dX8_sector_122 : decode cX8_sector 122 = .ok (.iaload, 1) := by decide +kernel
theorem dX8_sector_123 : decode cX8_sector 123 = .ok (.iconst 1, 1) := by decide +kernel
theorem dX8_sector_124 : decode cX8_sector 124 = .ok (.iadd, 1) := by decide +kernel
theorem dX8_sector_125 : decode cX8_sector 125 = .ok (.iastore, 1) := by decide +kernel
theorem dX8_sector_126 : decode cX8_sector 126 = .ok (.iload 5, 2) := by decide +kernel
theorem dX8_sector_128 : decode cX8_sector 128 = .ok (.iconst 1, 1) := by decide +kernel
theorem dX8_sector_129 : decode cX8_sector 129 = .ok (.iadd, 1) := by decide +kernel
theorem dX8_sector_130 : decode cX8_sector 130 = .ok (.ireturn, 1) := by decide +kernel
theorem dX8_doubt_0 : decode cX8_doubt 0 = .ok (.aload_n 0, 1) := by decide +kernel
theorem dX8_doubt_1 : decode cX8_doubt 1 = .ok (.iload_n 1, 1) := by decide +kernel
theorem dX8_doubt_2 : decode cX8_doubt 2 = .ok (.invokevirtual 120, 3) := by decide +kernel
theorem dX8_doubt_5 : decode cX8_doubt 5 = .ok (.ifCond .eq 12, 3) := by decide +kernel
theorem dX8_doubt_8 : decode cX8_doubt 8 = .ok (.iload_n 2, 1) := by decide +kernel
theorem dX8_doubt_9 : decode cX8_doubt 9 = .ok (.iconst 0, 1) := by decide +kernel
theorem dX8_doubt_10 : decode cX8_doubt 10 = .ok (.iconst 3, 1) := by decide +kernel
theorem dX8_doubt_11 : decode cX8_doubt 11 = .ok (.invokestatic 41, 3) := by decide +kernel
theorem dX8_doubt_14 : decode cX8_doubt 14 = .ok (.ifCond .ne 10, 3) := by decide +kernel
theorem dX8_doubt_17 : decode cX8_doubt 17 = .ok (.aload_n 0, 1) := by decide +kernel
theorem dX8_doubt_18 : decode cX8_doubt 18 = .ok (.ldc 57, 2) := by decide +kernel
theorem dX8_doubt_20 : decode cX8_doubt 20 = .ok (.invokevirtual 53, 3) := by decide +kernel
theorem dX8_doubt_23 : decode cX8_doubt 23 = .ok (.ireturn, 1) := by decide +kernel
theorem dX8_doubt_24 : decode cX8_doubt 24 = .ok (.aload_n 0, 1) := by decide +kernel
theorem dX8_doubt_25 : decode cX8_doubt 25 = .ok (.getfield 9, 3) := by decide +kernel
theorem dX8_doubt_28 : decode cX8_doubt 28 = .ok (.iload_n 1, 1) := by decide +kernel
theorem dX8_doubt_29 : decode cX8_doubt 29 = .ok (.iconst 0, 1) := by decide +kernel
theorem dX8_doubt_30 : decode cX8_doubt 30 = .ok (.invokestatic 45, 3) := by decide +kernel
theorem dX8_doubt_33 : decode cX8_doubt 33 = .ok (.iaload, 1) := by decide +kernel
theorem dX8_doubt_34 : decode cX8_doubt 34 = .ok (.iconst 2, 1) := by decide +kernel
theorem dX8_doubt_35 : decode cX8_doubt 35 = .ok (.if_icmp .eq 10, 3) := by decide +kernel
theorem dX8_doubt_38 : decode cX8_doubt 38 = .ok (.aload_n 0, 1) := by decide +kernel
theorem dX8_doubt_39 : decode cX8_doubt 39 = .ok (.ldc 123, 2) := by decide +kernel
theorem dX8_doubt_41 : decode cX8_doubt 41 = .ok (.invokevirtual 53, 3) := by decide +kernel
theorem dX8_doubt_44 : decode cX8_doubt 44 = .ok (.ireturn, 1) := by decide +kernel
theorem dX8_doubt_45 : decode cX8_doubt 45 = .ok (.aload_n 0, 1) := by decide +kernel
theorem dX8_doubt_46 : decode cX8_doubt 46 = .ok (.invokevirtual 114, 3) := by decide +kernel
theorem dX8_doubt_49 : decode cX8_doubt 49 = .ok (.aload_n 0, 1) := by decide +kernel
theorem dX8_doubt_50 : decode cX8_doubt 50 = .ok (.getfield 9, 3) := by decide +kernel
theorem dX8_doubt_53 : decode cX8_doubt 53 = .ok (.iload_n 1, 1) := by decide +kernel
theorem dX8_doubt_54 : decode cX8_doubt 54 = .ok (.bipush 7, 2) := by decide +kernel
theorem dX8_doubt_56 : decode cX8_doubt 56 = .ok (.invokestatic 45, 3) := by decide +kernel
theorem dX8_doubt_59 : decode cX8_doubt 59 = .ok (.iaload, 1) := by decide +kernel
theorem dX8_doubt_60 : decode cX8_doubt 60 = .ok (.istore_n 3, 1) := by decide +kernel
theorem dX8_doubt_61 : decode cX8_doubt 61 = .ok (.aload_n 0, 1) := by decide +kernel
theorem dX8_doubt_62 : decode cX8_doubt 62 = .ok (.getfield 9, 3) := by decide +kernel
theorem dX8_doubt_65 : decode cX8_doubt 65 = .ok (.iload_n 1, 1) := by decide +kernel
theorem dX8_doubt_66 : decode cX8_doubt 66 = .ok (.bipush 7, 2) := by decide +kernel
theorem dX8_doubt_68 : decode cX8_doubt 68 = .ok (.invokestatic 45, 3) := by decide +kernel
theorem dX8_doubt_71 : decode cX8_doubt 71 = .ok (.iload_n 2, 1) := by decide +kernel
theorem dX8_doubt_72 : decode cX8_doubt 72 = .ok (.iastore, 1) := by decide +kernel
theorem dX8_doubt_73 : decode cX8_doubt 73 = .ok (.iload_n 3, 1) := by decide +kernel
theorem dX8_doubt_74 : decode cX8_doubt 74 = .ok (.ireturn, 1) := by decide +kernel
theorem dX8_eastOf_0 : decode cX8_eastOf 0 = .ok (.iload_n 0, 1) := by decide +kernel
theorem dX8_eastOf_1 : decode cX8_eastOf 1 = .ok (.bipush 8, 2) := by decide +kernel
theorem dX8_eastOf_3 : decode cX8_eastOf 3 = .ok (.irem, 1) := by decide +kernel
theorem dX8_eastOf_4 : decode cX8_eastOf 4 = .ok (.istore_n 1, 1) := by decide +kernel
theorem dX8_eastOf_5 : decode cX8_eastOf 5 = .ok (.iload_n 1, 1) := by decide +kernel
theorem dX8_eastOf_6 : decode cX8_eastOf 6 = .ok (.ifCond .ne 7, 3) := by decide +kernel
theorem dX8_eastOf_9 : decode cX8_eastOf 9 = .ok (.iconst 0, 1) := by decide +kernel
theorem dX8_eastOf_10 : decode cX8_eastOf 10 = .ok (.goto 18, 3) := by decide +kernel
theorem dX8_eastOf_13 : decode cX8_eastOf 13 = .ok (.iload_n 1, 1) := by decide +kernel
theorem dX8_eastOf_14 : decode cX8_eastOf 14 = .ok (.iconst 3, 1) := by decide +kernel
theorem dX8_eastOf_15 : decode cX8_eastOf 15 = .ok (.if_icmp .eq 8, 3) := by decide +kernel
theorem dX8_eastOf_18 : decode cX8_eastOf 18 = .ok (.iload_n 1, 1) := by decide +kernel
theorem dX8_eastOf_19 : decode cX8_eastOf 19 = .ok (.iconst 5, 1) := by decide +kernel
theorem dX8_eastOf_20 : decode cX8_eastOf 20 = .ok (.if_icmp .ne 7, 3) := by decide +kernel
theorem dX8_eastOf_23 : decode cX8_eastOf 23 = .ok (.iconst 2, 1) := by decide +kernel
theorem dX8_eastOf_24 : decode cX8_eastOf 24 = .ok (.goto 4, 3) := by decide +kernel
theorem dX8_eastOf_27 : decode cX8_eastOf 27 = .ok (.iconst 1, 1) := by decide +kernel
theorem dX8_eastOf_28 : decode cX8_eastOf 28 = .ok (.istore_n 2, 1) := by decide +kernel
theorem dX8_eastOf_29 : decode cX8_eastOf 29 = .ok (.iload_n 0, 1) := by decide +kernel
theorem dX8_eastOf_30 : decode cX8_eastOf 30 = .ok (.bipush 8, 2) := by decide +kernel
theorem dX8_eastOf_32 : decode cX8_eastOf 32 = .ok (.if_icmp .ge 7, 3) := by decide +kernel
theorem dX8_eastOf_35 : decode cX8_eastOf 35 = .ok (.iload_n 2, 1) := by decide +kernel
theorem dX8_eastOf_36 : decode cX8_eastOf 36 = .ok (.goto 5, 3) := by decide +kernel
theorem dX8_eastOf_39 : decode cX8_eastOf 39 = .ok (.iload_n 2, 1) := by decide +kernel
theorem dX8_eastOf_40 : decode cX8_eastOf 40 = .ok (.ineg, 1) := by decide +kernel
theorem dX8_eastOf_41 : decode cX8_eastOf 41 = .ok (.ireturn, 1) := by decide +kernel
theorem dX8_northOf_0 : decode cX8_northOf 0 = .ok (.iload_n 0, 1) := by decide +kernel
theorem dX8_northOf_1 : decode cX8_northOf 1 = .ok (.bipush 8, 2) := by decide +kernel
theorem dX8_northOf_3 : decode cX8_northOf 3 = .ok (.irem, 1) := by decide +kernel
theorem dX8_northOf_4 : decode cX8_northOf 4 = .ok (.istore_n 1, 1) := by decide +kernel
theorem dX8_northOf_5 : decode cX8_northOf 5 = .ok (.iload_n 1, 1) := by decide +kernel
theorem dX8_northOf_6 : decode cX8_northOf 6 = .ok (.iconst 4, 1) := by decide +kernel
theorem dX8_northOf_7 : decode cX8_northOf 7 = .ok (.if_icmp .ne 7, 3) := by decide +kernel
theorem dX8_northOf_10 : decode cX8_northOf 10 = .ok (.iconst 0, 1) := by decide +kernel
theorem dX8_northOf_11 : decode cX8_northOf 11 = .ok (.goto 33, 3) := by decide +kernel
theorem dX8_northOf_14 : decode cX8_northOf 14 = .ok (.iload_n 1, 1) := by decide +kernel
theorem dX8_northOf_15 : decode cX8_northOf 15 = .ok (.iconst 1, 1) := by decide +kernel
theorem dX8_northOf_16 : decode cX8_northOf 16 = .ok (.if_icmp .ne 7, 3) := by decide +kernel
theorem dX8_northOf_19 : decode cX8_northOf 19 = .ok (.iconst 2, 1) := by decide +kernel
theorem dX8_northOf_20 : decode cX8_northOf 20 = .ok (.goto 24, 3) := by decide +kernel
theorem dX8_northOf_23 : decode cX8_northOf 23 = .ok (.iload_n 1, 1) := by decide +kernel
theorem dX8_northOf_24 : decode cX8_northOf 24 = .ok (.bipush 7, 2) := by decide +kernel
theorem dX8_northOf_26 : decode cX8_northOf 26 = .ok (.if_icmp .ne 8, 3) := by decide +kernel
theorem dX8_northOf_29 : decode cX8_northOf 29 = .ok (.bipush (-2), 2) := by decide +kernel
theorem dX8_northOf_31 : decode cX8_northOf 31 = .ok (.goto 13, 3) := by decide +kernel
theorem dX8_northOf_34 : decode cX8_northOf 34 = .ok (.iload_n 1, 1) := by decide +kernel
theorem dX8_northOf_35 : decode cX8_northOf 35 = .ok (.iconst 4, 1) := by decide +kernel
theorem dX8_northOf_36 : decode cX8_northOf 36 = .ok (.if_icmp .ge 7, 3) := by decide +kernel
theorem dX8_northOf_39 : decode cX8_northOf 39 = .ok (.iconst 1, 1) := by decide +kernel
theorem dX8_northOf_40 : decode cX8_northOf 40 = .ok (.goto 4, 3) := by decide +kernel
theorem dX8_northOf_43 : decode cX8_northOf 43 = .ok (.iconst (-1), 1) := by decide +kernel
theorem dX8_northOf_44 : decode cX8_northOf 44 = .ok (.istore_n 2, 1) := by decide +kernel
theorem dX8_northOf_45 : decode cX8_northOf 45 = .ok (.iload_n 0, 1) := by decide +kernel
theorem dX8_northOf_46 : decode cX8_northOf 46 = .ok (.bipush 8, 2) := by decide +kernel
theorem dX8_northOf_48 : decode cX8_northOf 48 = .ok (.if_icmp .ge 7, 3) := by decide +kernel
theorem dX8_northOf_51 : decode cX8_northOf 51 = .ok (.iload_n 2, 1) := by decide +kernel
theorem dX8_northOf_52 : decode cX8_northOf 52 = .ok (.goto 5, 3) := by decide +kernel
theorem dX8_northOf_55 : decode cX8_northOf 55 = .ok (.iload_n 2, 1) := by decide +kernel
theorem dX8_northOf_56 : decode cX8_northOf 56 = .ok (.ineg, 1) := by decide +kernel
theorem dX8_northOf_57 : decode cX8_northOf 57 = .ok (.ireturn, 1) := by decide +kernel
theorem dX8_behind_0 : decode cX8_behind 0 = .ok (.iload_n 0, 1) := by decide +kernel
theorem dX8_behind_1 : decode cX8_behind 1 = .ok (.invokestatic 134, 3) := by decide +kernel
theorem dX8_behind_4 : decode cX8_behind 4 = .ok (.iload_n 1, 1) := by decide +kernel
theorem dX8_behind_5 : decode cX8_behind 5 = .ok (.imul, 1) := by decide +kernel
theorem dX8_behind_6 : decode cX8_behind 6 = .ok (.iload_n 0, 1) := by decide +kernel
theorem dX8_behind_7 : decode cX8_behind 7 = .ok (.invokestatic 137, 3) := by decide +kernel
theorem dX8_behind_10 : decode cX8_behind 10 = .ok (.iload_n 2, 1) := by decide +kernel
theorem dX8_behind_11 : decode cX8_behind 11 = .ok (.imul, 1) := by decide +kernel
theorem dX8_behind_12 : decode cX8_behind 12 = .ok (.isub, 1) := by decide +kernel
theorem dX8_behind_13 : decode cX8_behind 13 = .ok (.ireturn, 1) := by decide +kernel
theorem dX8_wayOf_0 : decode cX8_wayOf 0 = .ok (.iconst 0, 1) := by decide +kernel
theorem dX8_wayOf_1 : decode cX8_wayOf 1 = .ok (.istore_n 2, 1) := by decide +kernel
theorem dX8_wayOf_2 : decode cX8_wayOf 2 = .ok (.iload_n 2, 1) := by decide +kernel
theorem dX8_wayOf_3 : decode cX8_wayOf 3 = .ok (.iload_n 0, 1) := by decide +kernel
theorem dX8_wayOf_4 : decode cX8_wayOf 4 = .ok (.iload_n 1, 1) := by decide +kernel
theorem dX8_wayOf_5 : decode cX8_wayOf 5 = .ok (.invokestatic 140, 3) := by decide +kernel
theorem dX8_wayOf_8 : decode cX8_wayOf 8 = .ok (.ifCond .lt 17, 3) := by decide +kernel
theorem dX8_wayOf_11 : decode cX8_wayOf 11 = .ok (.iload_n 2, 1) := by decide +kernel
theorem dX8_wayOf_12 : decode cX8_wayOf 12 = .ok (.iconst 1, 1) := by decide +kernel
theorem dX8_wayOf_13 : decode cX8_wayOf 13 = .ok (.iadd, 1) := by decide +kernel
theorem dX8_wayOf_14 : decode cX8_wayOf 14 = .ok (.bipush 16, 2) := by decide +kernel
theorem dX8_wayOf_16 : decode cX8_wayOf 16 = .ok (.irem, 1) := by decide +kernel
theorem dX8_wayOf_17 : decode cX8_wayOf 17 = .ok (.iload_n 0, 1) := by decide +kernel
theorem dX8_wayOf_18 : decode cX8_wayOf 18 = .ok (.iload_n 1, 1) := by decide +kernel
theorem dX8_wayOf_19 : decode cX8_wayOf 19 = .ok (.invokestatic 140, 3) := by decide +kernel
theorem dX8_wayOf_22 : decode cX8_wayOf 22 = .ok (.ifCond .lt 9, 3) := by decide +kernel
theorem dX8_wayOf_25 : decode cX8_wayOf 25 = .ok (.iinc 2 1, 3) := by decide +kernel
theorem dX8_wayOf_28 : decode cX8_wayOf 28 = .ok (.goto (-26), 3) := by decide +kernel
theorem dX8_wayOf_31 : decode cX8_wayOf 31 = .ok (.iload_n 2, 1) := by decide +kernel
theorem dX8_wayOf_32 : decode cX8_wayOf 32 = .ok (.ireturn, 1) := by decide +kernel
theorem dX8_wayBetween_0 : decode cX8_wayBetween 0 = .ok (.iload_n 1, 1) := by decide +kernel
theorem dX8_wayBetween_1 : decode cX8_wayBetween 1 = .ok (.bipush 16, 2) := by decide +kernel
theorem dX8_wayBetween_3 : decode cX8_wayBetween 3 = .ok (.irem, 1) := by decide +kernel
theorem dX8_wayBetween_4 : decode cX8_wayBetween 4 = .ok (.iload_n 0, 1) := by decide +kernel
theorem dX8_wayBetween_5 : decode cX8_wayBetween 5 = .ok (.bipush 16, 2) := by decide +kernel
theorem dX8_wayBetween_7 : decode cX8_wayBetween 7 = .ok (.irem, 1) := by decide +kernel
theorem dX8_wayBetween_8 : decode cX8_wayBetween 8 = .ok (.isub, 1) := by decide +kernel
theorem dX8_wayBetween_9 : decode cX8_wayBetween 9 = .ok (.iload_n 1, 1) := by decide +kernel
theorem dX8_wayBetween_10 : decode cX8_wayBetween 10 = .ok (.bipush 16, 2) := by decide +kernel
theorem dX8_wayBetween_12 : decode cX8_wayBetween 12 = .ok (.idiv, 1) := by decide +kernel
theorem dX8_wayBetween_13 : decode cX8_wayBetween 13 = .ok (.iload_n 0, 1) := by decide +kernel
theorem dX8_wayBetween_14 : decode cX8_wayBetween 14 = .ok (.bipush 16, 2) := by decide +kernel
theorem dX8_wayBetween_16 : decode cX8_wayBetween 16 = .ok (.idiv, 1) := by decide +kernel
theorem dX8_wayBetween_17 : decode cX8_wayBetween 17 = .ok (.isub, 1) := by decide +kernel
theorem dX8_wayBetween_18 : decode cX8_wayBetween 18 = .ok (.invokestatic 144, 3) := by decide +kernel
theorem dX8_wayBetween_21 : decode cX8_wayBetween 21 = .ok (.ireturn, 1) := by decide +kernel
theorem dX8_isFrom_0 : decode cX8_isFrom 0 = .ok (.iload_n 0, 1) := by decide +kernel
theorem dX8_isFrom_1 : decode cX8_isFrom 1 = .ok (.iload_n 1, 1) := by decide +kernel
theorem dX8_isFrom_2 : decode cX8_isFrom 2 = .ok (.isub, 1) := by decide +kernel
theorem dX8_isFrom_3 : decode cX8_isFrom 3 = .ok (.bipush 16, 2) := by decide +kernel
theorem dX8_isFrom_5 : decode cX8_isFrom 5 = .ok (.iadd, 1) := by decide +kernel
theorem dX8_isFrom_6 : decode cX8_isFrom 6 = .ok (.bipush 16, 2) := by decide +kernel
theorem dX8_isFrom_8 : decode cX8_isFrom 8 = .ok (.irem, 1) := by decide +kernel
theorem dX8_isFrom_9 : decode cX8_isFrom 9 = .ok (.iload_n 2, 1) := by decide +kernel
theorem dX8_isFrom_10 : decode cX8_isFrom 10 = .ok (.iload_n 1, 1) := by decide +kernel
theorem dX8_isFrom_11 : decode cX8_isFrom 11 = .ok (.isub, 1) := by decide +kernel
theorem dX8_isFrom_12 : decode cX8_isFrom 12 = .ok (.bipush 16, 2) := by decide +kernel
theorem dX8_isFrom_14 : decode cX8_isFrom 14 = .ok (.iadd, 1) := by decide +kernel
theorem dX8_isFrom_15 : decode cX8_isFrom 15 = .ok (.bipush 16, 2) := by decide +kernel
theorem dX8_isFrom_17 : decode cX8_isFrom 17 = .ok (.irem, 1) := by decide +kernel
theorem dX8_isFrom_18 : decode cX8_isFrom 18 = .ok (.if_icmp .gt 7, 3) := by decide +kernel
theorem dX8_isFrom_21 : decode cX8_isFrom 21 = .ok (.iconst 1, 1) := by decide +kernel
theorem dX8_isFrom_22 : decode cX8_isFrom 22 = .ok (.goto 4, 3) := by decide +kernel
theorem dX8_isFrom_25 : decode cX8_isFrom 25 = .ok (.iconst 0, 1) := by decide +kernel
theorem dX8_isFrom_26 : decode cX8_isFrom 26 = .ok (.ireturn, 1) := by decide +kernel
theorem dX8_direction_0 : decode cX8_direction 0 = .ok (.iload_n 1, 1) := by decide +kernel
theorem dX8_direction_1 : decode cX8_direction 1 = .ok (.invokestatic 108, 3) := by decide +kernel
theorem dX8_direction_4 : decode cX8_direction 4 = .ok (.ifCond .eq 10, 3) := by decide +kernel
theorem dX8_direction_7 : decode cX8_direction 7 = .ok (.iload_n 2, 1) := by decide +kernel
theorem dX8_direction_8 : decode cX8_direction 8 = .ok (.invokestatic 108, 3) := by decide +kernel
theorem dX8_direction_11 : decode cX8_direction 11 = .ok (.ifCond .ne 10, 3) := by decide +kernel
theorem dX8_direction_14 : decode cX8_direction 14 = .ok (.aload_n 0, 1) := by decide +kernel
theorem dX8_direction_15 : decode cX8_direction 15 = .ok (.ldc 57, 2) := by decide +kernel
theorem dX8_direction_17 : decode cX8_direction 17 = .ok (.invokevirtual 53, 3) := by decide +kernel
theorem dX8_direction_20 : decode cX8_direction 20 = .ok (.ireturn, 1) := by decide +kernel
theorem dX8_direction_21 : decode cX8_direction 21 = .ok (.iload_n 1, 1) := by decide +kernel
theorem dX8_direction_22 : decode cX8_direction 22 = .ok (.iload_n 2, 1) := by decide +kernel
theorem dX8_direction_23 : decode cX8_direction 23 = .ok (.if_icmp .ne 12, 3) := by decide +kernel
theorem dX8_direction_26 : decode cX8_direction 26 = .ok (.aload_n 0, 1) := by decide +kernel
theorem dX8_direction_27 : decode cX8_direction 27 = .ok (.ldc 147, 2) := by decide +kernel
theorem dX8_direction_29 : decode cX8_direction 29 = .ok (.invokevirtual 53, 3) := by decide +kernel
theorem dX8_direction_32 : decode cX8_direction 32 = .ok (.goto 8, 3) := by decide +kernel
theorem dX8_direction_35 : decode cX8_direction 35 = .ok (.iload_n 1, 1) := by decide +kernel
theorem dX8_direction_36 : decode cX8_direction 36 = .ok (.iload_n 2, 1) := by decide +kernel
theorem dX8_direction_37 : decode cX8_direction 37 = .ok (.invokestatic 148, 3) := by decide +kernel
theorem dX8_direction_40 : decode cX8_direction 40 = .ok (.ireturn, 1) := by decide +kernel
theorem dX8_colourOf_0 : decode cX8_colourOf 0 = .ok (.aload_n 0, 1) := by decide +kernel
theorem dX8_colourOf_1 : decode cX8_colourOf 1 = .ok (.getfield 9, 3) := by decide +kernel
theorem dX8_colourOf_4 : decode cX8_colourOf 4 = .ok (.iload_n 1, 1) := by decide +kernel
theorem dX8_colourOf_5 : decode cX8_colourOf 5 = .ok (.iconst 3, 1) := by decide +kernel
theorem dX8_colourOf_6 : decode cX8_colourOf 6 = .ok (.invokestatic 45, 3) := by decide +kernel
theorem dX8_colourOf_9 : decode cX8_colourOf 9 = .ok (.iaload, 1) := by decide +kernel
theorem dX8_colourOf_10 : decode cX8_colourOf 10 = .ok (.istore_n 3, 1) := by decide +kernel
theorem dX8_colourOf_11 : decode cX8_colourOf 11 = .ok (.aload_n 0, 1) := by decide +kernel
theorem dX8_colourOf_12 : decode cX8_colourOf 12 = .ok (.getfield 9, 3) := by decide +kernel
theorem dX8_colourOf_15 : decode cX8_colourOf 15 = .ok (.iload_n 1, 1) := by decide +kernel
theorem dX8_colourOf_16 : decode cX8_colourOf 16 = .ok (.iconst 1, 1) := by decide +kernel
theorem dX8_colourOf_17 : decode cX8_colourOf 17 = .ok (.invokestatic 45, 3) := by decide +kernel
theorem dX8_colourOf_20 : decode cX8_colourOf 20 = .ok (.iaload, 1) := by decide +kernel
theorem dX8_colourOf_21 : decode cX8_colourOf 21 = .ok (.istore 4, 2) := by decide +kernel
theorem dX8_colourOf_23 : decode cX8_colourOf 23 = .ok (.iload_n 2, 1) := by decide +kernel
theorem dX8_colourOf_24 : decode cX8_colourOf 24 = .ok (.iload 4, 2) := by decide +kernel
theorem dX8_colourOf_26 : decode cX8_colourOf 26 = .ok (.if_icmp .ne 5, 3) := by decide +kernel
theorem dX8_colourOf_29 : decode cX8_colourOf 29 = .ok (.iload_n 3, 1) := by decide +kernel
theorem dX8_colourOf_30 : decode cX8_colourOf 30 = .ok (.ireturn, 1) := by decide +kernel
theorem dX8_colourOf_31 : decode cX8_colourOf 31 = .ok (.iload 4, 2) := by decide +kernel
theorem dX8_colourOf_33 : decode cX8_colourOf 33 = .ok (.iload_n 2, 1) := by decide +kernel
theorem dX8_colourOf_34 : decode cX8_colourOf 34 = .ok (.invokestatic 148, 3) := by decide +kernel
theorem dX8_colourOf_37 : decode cX8_colourOf 37 = .ok (.istore 5, 2) := by decide +kernel
theorem dX8_colourOf_39 : decode cX8_colourOf 39 = .ok (.aload_n 0, 1) := by decide +kernel
theorem dX8_colourOf_40 : decode cX8_colourOf 40 = .ok (.getfield 9, 3) := by decide +kernel
theorem dX8_colourOf_43 : decode cX8_colourOf 43 = .ok (.iload_n 1, 1) := by decide +kernel
theorem dX8_colourOf_44 : decode cX8_colourOf 44 = .ok (.iconst 0, 1) := by decide +kernel
theorem dX8_colourOf_45 : decode cX8_colourOf 45 = .ok (.invokestatic 45, 3) := by decide +kernel
theorem dX8_colourOf_48 : decode cX8_colourOf 48 = .ok (.iaload, 1) := by decide +kernel
theorem dX8_colourOf_49 : decode cX8_colourOf 49 = .ok (.iconst 3, 1) := by decide +kernel
theorem dX8_colourOf_50 : decode cX8_colourOf 50 = .ok (.if_icmp .ne 7, 3) := by decide +kernel
theorem dX8_colourOf_53 : decode cX8_colourOf 53 = .ok (.iconst 3, 1) := by decide +kernel
theorem dX8_colourOf_54 : decode cX8_colourOf 54 = .ok (.goto 4, 3) := by decide +kernel
theorem dX8_colourOf_57 : decode cX8_colourOf 57 = .ok (.iload_n 3, 1) := by decide +kernel
theorem dX8_colourOf_58 : decode cX8_colourOf 58 = .ok (.istore 6, 2) := by decide +kernel
theorem dX8_colourOf_60 : decode cX8_colourOf 60 = .ok (.iconst 0, 1) := by decide +kernel
theorem dX8_colourOf_61 : decode cX8_colourOf 61 = .ok (.istore 7, 2) := by decide +kernel
theorem dX8_colourOf_63 : decode cX8_colourOf 63 = .ok (.iload 7, 2) := by decide +kernel
theorem dX8_colourOf_65 : decode cX8_colourOf 65 = .ok (.aload_n 0, 1) := by decide +kernel
theorem dX8_colourOf_66 : decode cX8_colourOf 66 = .ok (.getfield 9, 3) := by decide +kernel
theorem dX8_colourOf_69 : decode cX8_colourOf 69 = .ok (.iload_n 1, 1) := by decide +kernel
end
section
theorem dX8_colourOf_70 : decode cX8_colourOf 70 = .ok (.bipush 6, 2) := by decide +kernel
theorem dX8_colourOf_72 : decode cX8_colourOf 72 = .ok (.invokestatic 45, 3) := by decide +kernel
theorem dX8_colourOf_75 : decode cX8_colourOf 75 = .ok (.iaload, 1) := by decide +kernel
theorem dX8_colourOf_76 : decode cX8_colourOf 76 = .ok (.if_icmp .ge 62, 3) := by decide +kernel
theorem dX8_colourOf_79 : decode cX8_colourOf 79 = .ok (.iload_n 1, 1) := by decide +kernel
theorem dX8_colourOf_80 : decode cX8_colourOf 80 = .ok (.bipush 10, 2) := by decide +kernel
theorem dX8_colourOf_82 : decode cX8_colourOf 82 = .ok (.iconst 3, 1) := by decide +kernel
theorem dX8_colourOf_83 : decode cX8_colourOf 83 = .ok (.iload 7, 2) := by decide +kernel
theorem dX8_colourOf_85 : decode cX8_colourOf 85 = .ok (.imul, 1) := by decide +kernel
theorem dX8_colourOf_86 : decode cX8_colourOf 86 = .ok (.iadd, 1) := by decide +kernel
theorem dX8_colourOf_87 : decode cX8_colourOf 87 = .ok (.invokestatic 45, 3) := by decide +kernel
theorem dX8_colourOf_90 : decode cX8_colourOf 90 = .ok (.istore 8, 2) := by decide +kernel
theorem dX8_colourOf_92 : decode cX8_colourOf 92 = .ok (.iload 5, 2) := by decide +kernel
theorem dX8_colourOf_94 : decode cX8_colourOf 94 = .ok (.aload_n 0, 1) := by decide +kernel
theorem dX8_colourOf_95 : decode cX8_colourOf 95 = .ok (.getfield 9, 3) := by decide +kernel
theorem dX8_colourOf_98 : decode cX8_colourOf 98 = .ok (.iload 8, 2) := by decide +kernel
theorem dX8_colourOf_100 : decode cX8_colourOf 100 = .ok (.iaload, 1) := by decide +kernel
theorem dX8_colourOf_101 : decode cX8_colourOf 101 = .ok (.aload_n 0, 1) := by decide +kernel
theorem dX8_colourOf_102 : decode cX8_colourOf 102 = .ok (.getfield 9, 3) := by decide +kernel
theorem dX8_colourOf_105 : decode cX8_colourOf 105 = .ok (.iload 8, 2) := by decide +kernel
theorem dX8_colourOf_107 : decode cX8_colourOf 107 = .ok (.iconst 1, 1) := by decide +kernel
theorem dX8_colourOf_108 : decode cX8_colourOf 108 = .ok (.iadd, 1) := by decide +kernel
theorem dX8_colourOf_109 : decode cX8_colourOf 109 = .ok (.iaload, 1) := by decide +kernel
theorem dX8_colourOf_110 : decode cX8_colourOf 110 = .ok (.invokestatic 151, 3) := by decide +kernel
theorem dX8_colourOf_113 : decode cX8_colourOf 113 = .ok (.ifCond .eq 15, 3) := by decide +kernel
theorem dX8_colourOf_116 : decode cX8_colourOf 116 = .ok (.aload_n 0, 1) := by decide +kernel
theorem dX8_colourOf_117 : decode cX8_colourOf 117 = .ok (.getfield 9, 3) := by decide +kernel
theorem dX8_colourOf_120 : decode cX8_colourOf 120 = .ok (.iload 8, 2) := by decide +kernel
theorem dX8_colourOf_122 : decode cX8_colourOf 122 = .ok (.iconst 2, 1) := by decide +kernel
theorem dX8_colourOf_123 : decode cX8_colourOf 123 = .ok (.iadd, 1) := by decide +kernel
theorem dX8_colourOf_124 : decode cX8_colourOf 124 = .ok (.iaload, 1) := by decide +kernel
theorem dX8_colourOf_125 : decode cX8_colourOf 125 = .ok (.goto 5, 3) := by decide +kernel
theorem dX8_colourOf_128 : decode cX8_colourOf 128 = .ok (.iload 6, 2) := by decide +kernel
theorem dX8_colourOf_130 : decode cX8_colourOf 130 = .ok (.istore 6, 2) := by decide +kernel
theorem dX8_colourOf_132 : decode cX8_colourOf 132 = .ok (.iinc 7 1, 3) := by decide +kernel
theorem dX8_colourOf_135 : decode cX8_colourOf 135 = .ok (.goto (-72), 3) := by decide +kernel
theorem dX8_colourOf_138 : decode cX8_colourOf 138 = .ok (.iload 6, 2) := by decide +kernel
theorem dX8_colourOf_140 : decode cX8_colourOf 140 = .ok (.ireturn, 1) := by decide +kernel
theorem dX8_colour_0 : decode cX8_colour 0 = .ok (.aload_n 0, 1) := by decide +kernel
theorem dX8_colour_1 : decode cX8_colour 1 = .ok (.iload_n 1, 1) := by decide +kernel
theorem dX8_colour_2 : decode cX8_colour 2 = .ok (.invokevirtual 120, 3) := by decide +kernel
theorem dX8_colour_5 : decode cX8_colour 5 = .ok (.ifCond .eq 19, 3) := by decide +kernel
theorem dX8_colour_8 : decode cX8_colour 8 = .ok (.iload_n 2, 1) := by decide +kernel
theorem dX8_colour_9 : decode cX8_colour 9 = .ok (.invokestatic 108, 3) := by decide +kernel
theorem dX8_colour_12 : decode cX8_colour 12 = .ok (.ifCond .eq 12, 3) := by decide +kernel
theorem dX8_colour_15 : decode cX8_colour 15 = .ok (.aload_n 0, 1) := by decide +kernel
theorem dX8_colour_16 : decode cX8_colour 16 = .ok (.iload_n 1, 1) := by decide +kernel
theorem dX8_colour_17 : decode cX8_colour 17 = .ok (.iload_n 2, 1) := by decide +kernel
theorem dX8_colour_18 : decode cX8_colour 18 = .ok (.invokevirtual 154, 3) := by decide +kernel
theorem dX8_colour_21 : decode cX8_colour 21 = .ok (.goto 9, 3) := by decide +kernel
theorem dX8_colour_24 : decode cX8_colour 24 = .ok (.aload_n 0, 1) := by decide +kernel
theorem dX8_colour_25 : decode cX8_colour 25 = .ok (.ldc 57, 2) := by decide +kernel
theorem dX8_colour_27 : decode cX8_colour 27 = .ok (.invokevirtual 53, 3) := by decide +kernel
theorem dX8_colour_30 : decode cX8_colour 30 = .ok (.ireturn, 1) := by decide +kernel
theorem dX8_isNear_0 : decode cX8_isNear 0 = .ok (.iconst 0, 1) := by decide +kernel
theorem dX8_isNear_1 : decode cX8_isNear 1 = .ok (.aload_n 0, 1) := by decide +kernel
theorem dX8_isNear_2 : decode cX8_isNear 2 = .ok (.getfield 9, 3) := by decide +kernel
theorem dX8_isNear_5 : decode cX8_isNear 5 = .ok (.iload_n 1, 1) := by decide +kernel
theorem dX8_isNear_6 : decode cX8_isNear 6 = .ok (.iconst 2, 1) := by decide +kernel
theorem dX8_isNear_7 : decode cX8_isNear 7 = .ok (.invokestatic 45, 3) := by decide +kernel
theorem dX8_isNear_10 : decode cX8_isNear 10 = .ok (.iaload, 1) := by decide +kernel
theorem dX8_isNear_11 : decode cX8_isNear 11 = .ok (.aload_n 0, 1) := by decide +kernel
theorem dX8_isNear_12 : decode cX8_isNear 12 = .ok (.getfield 9, 3) := by decide +kernel
theorem dX8_isNear_15 : decode cX8_isNear 15 = .ok (.iconst 4, 1) := by decide +kernel
theorem dX8_isNear_16 : decode cX8_isNear 16 = .ok (.iaload, 1) := by decide +kernel
theorem dX8_isNear_17 : decode cX8_isNear 17 = .ok (.isub, 1) := by decide +kernel
theorem dX8_isNear_18 : decode cX8_isNear 18 = .ok (.invokestatic 157, 3) := by decide +kernel
theorem dX8_isNear_21 : decode cX8_isNear 21 = .ok (.istore 4, 2) := by decide +kernel
theorem dX8_isNear_23 : decode cX8_isNear 23 = .ok (.iload_n 2, 1) := by decide +kernel
theorem dX8_isNear_24 : decode cX8_isNear 24 = .ok (.bipush 16, 2) := by decide +kernel
theorem dX8_isNear_26 : decode cX8_isNear 26 = .ok (.irem, 1) := by decide +kernel
theorem dX8_isNear_27 : decode cX8_isNear 27 = .ok (.iload_n 3, 1) := by decide +kernel
theorem dX8_isNear_28 : decode cX8_isNear 28 = .ok (.bipush 16, 2) := by decide +kernel
theorem dX8_isNear_30 : decode cX8_isNear 30 = .ok (.irem, 1) := by decide +kernel
theorem dX8_isNear_31 : decode cX8_isNear 31 = .ok (.isub, 1) := by decide +kernel
theorem dX8_isNear_32 : decode cX8_isNear 32 = .ok (.istore 5, 2) := by decide +kernel
theorem dX8_isNear_34 : decode cX8_isNear 34 = .ok (.iload_n 2, 1) := by decide +kernel
theorem dX8_isNear_35 : decode cX8_isNear 35 = .ok (.bipush 16, 2) := by decide +kernel
theorem dX8_isNear_37 : decode cX8_isNear 37 = .ok (.idiv, 1) := by decide +kernel
theorem dX8_isNear_38 : decode cX8_isNear 38 = .ok (.iload_n 3, 1) := by decide +kernel
theorem dX8_isNear_39 : decode cX8_isNear 39 = .ok (.bipush 16, 2) := by decide +kernel
theorem dX8_isNear_41 : decode cX8_isNear 41 = .ok (.idiv, 1) := by decide +kernel
theorem dX8_isNear_42 : decode cX8_isNear 42 = .ok (.isub, 1) := by decide +kernel
theorem dX8_isNear_43 : decode cX8_isNear 43 = .ok (.istore 6, 2) := by decide +kernel
theorem dX8_isNear_45 : decode cX8_isNear 45 = .ok (.iload 5, 2) := by decide +kernel
theorem dX8_isNear_47 : decode cX8_isNear 47 = .ok (.iload 5, 2) := by decide +kernel
theorem dX8_isNear_49 : decode cX8_isNear 49 = .ok (.imul, 1) := by decide +kernel
theorem dX8_isNear_50 : decode cX8_isNear 50 = .ok (.iload 6, 2) := by decide +kernel
theorem dX8_isNear_52 : decode cX8_isNear 52 = .ok (.iload 6, 2) := by decide +kernel
theorem dX8_isNear_54 : decode cX8_isNear 54 = .ok (.imul, 1) := by decide +kernel
theorem dX8_isNear_55 : decode cX8_isNear 55 = .ok (.iadd, 1) := by decide +kernel
theorem dX8_isNear_56 : decode cX8_isNear 56 = .ok (.iload 4, 2) := by decide +kernel
theorem dX8_isNear_58 : decode cX8_isNear 58 = .ok (.iload 4, 2) := by decide +kernel
theorem dX8_isNear_60 : decode cX8_isNear 60 = .ok (.imul, 1) := by decide +kernel
theorem dX8_isNear_61 : decode cX8_isNear 61 = .ok (.if_icmp .gt 7, 3) := by decide +kernel
theorem dX8_isNear_64 : decode cX8_isNear 64 = .ok (.iconst 1, 1) := by decide +kernel
theorem dX8_isNear_65 : decode cX8_isNear 65 = .ok (.goto 4, 3) := by decide +kernel
theorem dX8_isNear_68 : decode cX8_isNear 68 = .ok (.iconst 0, 1) := by decide +kernel
theorem dX8_isNear_69 : decode cX8_isNear 69 = .ok (.ireturn, 1) := by decide +kernel
theorem dX8_isOut_0 : decode cX8_isOut 0 = .ok (.iconst 0, 1) := by decide +kernel
theorem dX8_isOut_1 : decode cX8_isOut 1 = .ok (.istore 4, 2) := by decide +kernel
theorem dX8_isOut_3 : decode cX8_isOut 3 = .ok (.iconst 0, 1) := by decide +kernel
theorem dX8_isOut_4 : decode cX8_isOut 4 = .ok (.istore 5, 2) := by decide +kernel
theorem dX8_isOut_6 : decode cX8_isOut 6 = .ok (.iload 5, 2) := by decide +kernel
theorem dX8_isOut_8 : decode cX8_isOut 8 = .ok (.aload_n 0, 1) := by decide +kernel
theorem dX8_isOut_9 : decode cX8_isOut 9 = .ok (.getfield 9, 3) := by decide +kernel
theorem dX8_isOut_12 : decode cX8_isOut 12 = .ok (.iconst 3, 1) := by decide +kernel
theorem dX8_isOut_13 : decode cX8_isOut 13 = .ok (.iaload, 1) := by decide +kernel
theorem dX8_isOut_14 : decode cX8_isOut 14 = .ok (.if_icmp .ge 105, 3) := by decide +kernel
theorem dX8_isOut_17 : decode cX8_isOut 17 = .ok (.sipush 266, 3) := by decide +kernel
theorem dX8_isOut_20 : decode cX8_isOut 20 = .ok (.iconst 5, 1) := by decide +kernel
theorem dX8_isOut_21 : decode cX8_isOut 21 = .ok (.iload 5, 2) := by decide +kernel
theorem dX8_isOut_23 : decode cX8_isOut 23 = .ok (.imul, 1) := by decide +kernel
theorem dX8_isOut_24 : decode cX8_isOut 24 = .ok (.iadd, 1) := by decide +kernel
theorem dX8_isOut_25 : decode cX8_isOut 25 = .ok (.istore 6, 2) := by decide +kernel
theorem dX8_isOut_27 : decode cX8_isOut 27 = .ok (.aload_n 0, 1) := by decide +kernel
theorem dX8_isOut_28 : decode cX8_isOut 28 = .ok (.getfield 9, 3) := by decide +kernel
theorem dX8_isOut_31 : decode cX8_isOut 31 = .ok (.iload 6, 2) := by decide +kernel
theorem dX8_isOut_33 : decode cX8_isOut 33 = .ok (.iaload, 1) := by decide +kernel
theorem dX8_isOut_34 : decode cX8_isOut 34 = .ok (.iload_n 1, 1) := by decide +kernel
theorem dX8_isOut_35 : decode cX8_isOut 35 = .ok (.if_icmp .ne 45, 3) := by decide +kernel
theorem dX8_isOut_38 : decode cX8_isOut 38 = .ok (.iload_n 2, 1) := by decide +kernel
theorem dX8_isOut_39 : decode cX8_isOut 39 = .ok (.aload_n 0, 1) := by decide +kernel
theorem dX8_isOut_40 : decode cX8_isOut 40 = .ok (.getfield 9, 3) := by decide +kernel
theorem dX8_isOut_43 : decode cX8_isOut 43 = .ok (.iload 6, 2) := by decide +kernel
theorem dX8_isOut_45 : decode cX8_isOut 45 = .ok (.iconst 1, 1) := by decide +kernel
theorem dX8_isOut_46 : decode cX8_isOut 46 = .ok (.iadd, 1) := by decide +kernel
theorem dX8_isOut_47 : decode cX8_isOut 47 = .ok (.iaload, 1) := by decide +kernel
theorem dX8_isOut_48 : decode cX8_isOut 48 = .ok (.aload_n 0, 1) := by decide +kernel
theorem dX8_isOut_49 : decode cX8_isOut 49 = .ok (.getfield 9, 3) := by decide +kernel
theorem dX8_isOut_52 : decode cX8_isOut 52 = .ok (.iload 6, 2) := by decide +kernel
theorem dX8_isOut_54 : decode cX8_isOut 54 = .ok (.iconst 2, 1) := by decide +kernel
theorem dX8_isOut_55 : decode cX8_isOut 55 = .ok (.iadd, 1) := by decide +kernel
theorem dX8_isOut_56 : decode cX8_isOut 56 = .ok (.iaload, 1) := by decide +kernel
theorem dX8_isOut_57 : decode cX8_isOut 57 = .ok (.invokestatic 41, 3) := by decide +kernel
theorem dX8_isOut_60 : decode cX8_isOut 60 = .ok (.ifCond .eq 20, 3) := by decide +kernel
theorem dX8_isOut_63 : decode cX8_isOut 63 = .ok (.aload_n 0, 1) := by decide +kernel
theorem dX8_isOut_64 : decode cX8_isOut 64 = .ok (.getfield 9, 3) := by decide +kernel
theorem dX8_isOut_67 : decode cX8_isOut 67 = .ok (.iload 6, 2) := by decide +kernel
theorem dX8_isOut_69 : decode cX8_isOut 69 = .ok (.iconst 3, 1) := by decide +kernel
theorem dX8_isOut_70 : decode cX8_isOut 70 = .ok (.iadd, 1) := by decide +kernel
theorem dX8_isOut_71 : decode cX8_isOut 71 = .ok (.iaload, 1) := by decide +kernel
theorem dX8_isOut_72 : decode cX8_isOut 72 = .ok (.iload_n 3, 1) := by decide +kernel
theorem dX8_isOut_73 : decode cX8_isOut 73 = .ok (.if_icmp .gt 7, 3) := by decide +kernel
theorem dX8_isOut_76 : decode cX8_isOut 76 = .ok (.iconst 1, 1) := by decide +kernel
theorem dX8_isOut_77 : decode cX8_isOut 77 = .ok (.goto 4, 3) := by decide +kernel
theorem dX8_isOut_80 : decode cX8_isOut 80 = .ok (.iconst 0, 1) := by decide +kernel
theorem dX8_isOut_81 : decode cX8_isOut 81 = .ok (.istore 7, 2) := by decide +kernel
theorem dX8_isOut_83 : decode cX8_isOut 83 = .ok (.iload 7, 2) := by decide +kernel
theorem dX8_isOut_85 : decode cX8_isOut 85 = .ok (.ifCond .eq 24, 3) := by decide +kernel
theorem dX8_isOut_88 : decode cX8_isOut 88 = .ok (.aload_n 0, 1) := by decide +kernel
theorem dX8_isOut_89 : decode cX8_isOut 89 = .ok (.getfield 9, 3) := by decide +kernel
theorem dX8_isOut_92 : decode cX8_isOut 92 = .ok (.iload 6, 2) := by decide +kernel
theorem dX8_isOut_94 : decode cX8_isOut 94 = .ok (.iconst 4, 1) := by decide +kernel
theorem dX8_isOut_95 : decode cX8_isOut 95 = .ok (.iadd, 1) := by decide +kernel
theorem dX8_isOut_96 : decode cX8_isOut 96 = .ok (.iaload, 1) := by decide +kernel
theorem dX8_isOut_97 : decode cX8_isOut 97 = .ok (.iconst 1, 1) := by decide +kernel
theorem dX8_isOut_98 : decode cX8_isOut 98 = .ok (.if_icmp .ne 7, 3) := by decide +kernel
theorem dX8_isOut_101 : decode cX8_isOut 101 = .ok (.iconst 1, 1) := by decide +kernel
theorem dX8_isOut_102 : decode cX8_isOut 102 = .ok (.goto 9, 3) := by decide +kernel
theorem dX8_isOut_105 : decode cX8_isOut 105 = .ok (.iconst 0, 1) := by decide +kernel
theorem dX8_isOut_106 : decode cX8_isOut 106 = .ok (.goto 5, 3) := by decide +kernel
theorem dX8_isOut_109 : decode cX8_isOut 109 = .ok (.iload 4, 2) := by decide +kernel
theorem dX8_isOut_111 : decode cX8_isOut 111 = .ok (.istore 4, 2) := by decide +kernel
theorem dX8_isOut_113 : decode cX8_isOut 113 = .ok (.iinc 5 1, 3) := by decide +kernel
theorem dX8_isOut_116 : decode cX8_isOut 116 = .ok (.goto (-110), 3) := by decide +kernel
theorem dX8_isOut_119 : decode cX8_isOut 119 = .ok (.iload 4, 2) := by decide +kernel
theorem dX8_isOut_121 : decode cX8_isOut 121 = .ok (.ireturn, 1) := by decide +kernel
theorem dX8_seenFrom_0 : decode cX8_seenFrom 0 = .ok (.iconst 0, 1) := by decide +kernel
theorem dX8_seenFrom_1 : decode cX8_seenFrom 1 = .ok (.istore_n 2, 1) := by decide +kernel
theorem dX8_seenFrom_2 : decode cX8_seenFrom 2 = .ok (.iconst 0, 1) := by decide +kernel
theorem dX8_seenFrom_3 : decode cX8_seenFrom 3 = .ok (.istore_n 3, 1) := by decide +kernel
theorem dX8_seenFrom_4 : decode cX8_seenFrom 4 = .ok (.iload_n 3, 1) := by decide +kernel
theorem dX8_seenFrom_5 : decode cX8_seenFrom 5 = .ok (.aload_n 0, 1) := by decide +kernel
theorem dX8_seenFrom_6 : decode cX8_seenFrom 6 = .ok (.getfield 9, 3) := by decide +kernel
theorem dX8_seenFrom_9 : decode cX8_seenFrom 9 = .ok (.iconst 0, 1) := by decide +kernel
theorem dX8_seenFrom_10 : decode cX8_seenFrom 10 = .ok (.iaload, 1) := by decide +kernel
theorem dX8_seenFrom_11 : decode cX8_seenFrom 11 = .ok (.if_icmp .ge 77, 3) := by decide +kernel
theorem dX8_seenFrom_14 : decode cX8_seenFrom 14 = .ok (.aload_n 0, 1) := by decide +kernel
theorem dX8_seenFrom_15 : decode cX8_seenFrom 15 = .ok (.iload_n 3, 1) := by decide +kernel
theorem dX8_seenFrom_16 : decode cX8_seenFrom 16 = .ok (.iload_n 1, 1) := by decide +kernel
theorem dX8_seenFrom_17 : decode cX8_seenFrom 17 = .ok (.aload_n 0, 1) := by decide +kernel
theorem dX8_seenFrom_18 : decode cX8_seenFrom 18 = .ok (.getfield 9, 3) := by decide +kernel
theorem dX8_seenFrom_21 : decode cX8_seenFrom 21 = .ok (.iload_n 3, 1) := by decide +kernel
theorem dX8_seenFrom_22 : decode cX8_seenFrom 22 = .ok (.iconst 1, 1) := by decide +kernel
theorem dX8_seenFrom_23 : decode cX8_seenFrom 23 = .ok (.invokestatic 45, 3) := by decide +kernel
theorem dX8_seenFrom_26 : decode cX8_seenFrom 26 = .ok (.iaload, 1) := by decide +kernel
theorem dX8_seenFrom_27 : decode cX8_seenFrom 27 = .ok (.invokevirtual 162, 3) := by decide +kernel
theorem dX8_seenFrom_30 : decode cX8_seenFrom 30 = .ok (.ifCond .eq 34, 3) := by decide +kernel
theorem dX8_seenFrom_33 : decode cX8_seenFrom 33 = .ok (.aload_n 0, 1) := by decide +kernel
theorem dX8_seenFrom_34 : decode cX8_seenFrom 34 = .ok (.iload_n 3, 1) := by decide +kernel
theorem dX8_seenFrom_35 : decode cX8_seenFrom 35 = .ok (.iload_n 1, 1) := by decide +kernel
theorem dX8_seenFrom_36 : decode cX8_seenFrom 36 = .ok (.invokevirtual 154, 3) := by decide +kernel
theorem dX8_seenFrom_39 : decode cX8_seenFrom 39 = .ok (.iconst 3, 1) := by decide +kernel
theorem dX8_seenFrom_40 : decode cX8_seenFrom 40 = .ok (.if_icmp .eq 24, 3) := by decide +kernel
theorem dX8_seenFrom_43 : decode cX8_seenFrom 43 = .ok (.aload_n 0, 1) := by decide +kernel
theorem dX8_seenFrom_44 : decode cX8_seenFrom 44 = .ok (.iload_n 3, 1) := by decide +kernel
theorem dX8_seenFrom_45 : decode cX8_seenFrom 45 = .ok (.aload_n 0, 1) := by decide +kernel
theorem dX8_seenFrom_46 : decode cX8_seenFrom 46 = .ok (.getfield 9, 3) := by decide +kernel
theorem dX8_seenFrom_49 : decode cX8_seenFrom 49 = .ok (.iconst 5, 1) := by decide +kernel
theorem dX8_seenFrom_50 : decode cX8_seenFrom 50 = .ok (.iaload, 1) := by decide +kernel
theorem dX8_seenFrom_51 : decode cX8_seenFrom 51 = .ok (.sipush 999, 3) := by decide +kernel
theorem dX8_seenFrom_54 : decode cX8_seenFrom 54 = .ok (.invokevirtual 165, 3) := by decide +kernel
theorem dX8_seenFrom_57 : decode cX8_seenFrom 57 = .ok (.ifCond .ne 7, 3) := by decide +kernel
theorem dX8_seenFrom_60 : decode cX8_seenFrom 60 = .ok (.iconst 1, 1) := by decide +kernel
theorem dX8_seenFrom_61 : decode cX8_seenFrom 61 = .ok (.goto 4, 3) := by decide +kernel
theorem dX8_seenFrom_64 : decode cX8_seenFrom 64 = .ok (.iconst 0, 1) := by decide +kernel
theorem dX8_seenFrom_65 : decode cX8_seenFrom 65 = .ok (.istore 4, 2) := by decide +kernel
theorem dX8_seenFrom_67 : decode cX8_seenFrom 67 = .ok (.iload_n 2, 1) := by decide +kernel
theorem dX8_seenFrom_68 : decode cX8_seenFrom 68 = .ok (.iload 4, 2) := by decide +kernel
theorem dX8_seenFrom_70 : decode cX8_seenFrom 70 = .ok (.ifCond .eq 9, 3) := by decide +kernel
theorem dX8_seenFrom_73 : decode cX8_seenFrom 73 = .ok (.iconst 1, 1) := by decide +kernel
theorem dX8_seenFrom_74 : decode cX8_seenFrom 74 = .ok (.iload_n 3, 1) := by decide +kernel
theorem dX8_seenFrom_75 : decode cX8_seenFrom 75 = .ok (.ishl, 1) := by decide +kernel
theorem dX8_seenFrom_76 : decode cX8_seenFrom 76 = .ok (.goto 4, 3) := by decide +kernel
theorem dX8_seenFrom_79 : decode cX8_seenFrom 79 = .ok (.iconst 0, 1) := by decide +kernel
theorem dX8_seenFrom_80 : decode cX8_seenFrom 80 = .ok (.ior, 1) := by decide +kernel
theorem dX8_seenFrom_81 : decode cX8_seenFrom 81 = .ok (.istore_n 2, 1) := by decide +kernel
theorem dX8_seenFrom_82 : decode cX8_seenFrom 82 = .ok (.iinc 3 1, 3) := by decide +kernel
theorem dX8_seenFrom_85 : decode cX8_seenFrom 85 = .ok (.goto (-81), 3) := by decide +kernel
theorem dX8_seenFrom_88 : decode cX8_seenFrom 88 = .ok (.iload_n 2, 1) := by decide +kernel
theorem dX8_seenFrom_89 : decode cX8_seenFrom 89 = .ok (.ireturn, 1) := by decide +kernel
theorem dX8_seen_0 : decode cX8_seen 0 = .ok (.iload_n 1, 1) := by decide +kernel
theorem dX8_seen_1 : decode cX8_seen 1 = .ok (.invokestatic 108, 3) := by decide +kernel
theorem dX8_seen_4 : decode cX8_seen 4 = .ok (.ifCond .eq 11, 3) := by decide +kernel
theorem dX8_seen_7 : decode cX8_seen 7 = .ok (.aload_n 0, 1) := by decide +kernel
theorem dX8_seen_8 : decode cX8_seen 8 = .ok (.iload_n 1, 1) := by decide +kernel
theorem dX8_seen_9 : decode cX8_seen 9 = .ok (.invokevirtual 168, 3) := by decide +kernel
theorem dX8_seen_12 : decode cX8_seen 12 = .ok (.goto 9, 3) := by decide +kernel
theorem dX8_seen_15 : decode cX8_seen 15 = .ok (.aload_n 0, 1) := by decide +kernel
theorem dX8_seen_16 : decode cX8_seen 16 = .ok (.ldc 57, 2) := by decide +kernel
theorem dX8_seen_18 : decode cX8_seen 18 = .ok (.invokevirtual 53, 3) := by decide +kernel
theorem dX8_seen_21 : decode cX8_seen 21 = .ok (.ireturn, 1) := by decide +kernel
theorem dX8_becomes_0 : decode cX8_becomes 0 = .ok (.aload_n 0, 1) := by decide +kernel
theorem dX8_becomes_1 : decode cX8_becomes 1 = .ok (.invokevirtual 114, 3) := by decide +kernel
theorem dX8_becomes_4 : decode cX8_becomes 4 = .ok (.aload_n 0, 1) := by decide +kernel
theorem dX8_becomes_5 : decode cX8_becomes 5 = .ok (.getfield 9, 3) := by decide +kernel
theorem dX8_becomes_8 : decode cX8_becomes 8 = .ok (.iload_n 1, 1) := by decide +kernel
theorem dX8_becomes_9 : decode cX8_becomes 9 = .ok (.iaload, 1) := by decide +kernel
theorem dX8_becomes_10 : decode cX8_becomes 10 = .ok (.istore_n 3, 1) := by decide +kernel
theorem dX8_becomes_11 : decode cX8_becomes 11 = .ok (.aload_n 0, 1) := by decide +kernel
theorem dX8_becomes_12 : decode cX8_becomes 12 = .ok (.getfield 9, 3) := by decide +kernel
theorem dX8_becomes_15 : decode cX8_becomes 15 = .ok (.iload_n 1, 1) := by decide +kernel
theorem dX8_becomes_16 : decode cX8_becomes 16 = .ok (.iload_n 2, 1) := by decide +kernel
theorem dX8_becomes_17 : decode cX8_becomes 17 = .ok (.iastore, 1) := by decide +kernel
theorem dX8_becomes_18 : decode cX8_becomes 18 = .ok (.iload_n 3, 1) := by decide +kernel
theorem dX8_becomes_19 : decode cX8_becomes 19 = .ok (.ireturn, 1) := by decide +kernel
theorem dX8_haze_0 : decode cX8_haze 0 = .ok (.iload_n 1, 1) := by decide +kernel
theorem dX8_haze_1 : decode cX8_haze 1 = .ok (.iconst 0, 1) := by decide +kernel
theorem dX8_haze_2 : decode cX8_haze 2 = .ok (.bipush 15, 2) := by decide +kernel
theorem dX8_haze_4 : decode cX8_haze 4 = .ok (.invokestatic 41, 3) := by decide +kernel
theorem dX8_haze_7 : decode cX8_haze 7 = .ok (.ifCond .eq 12, 3) := by decide +kernel
theorem dX8_haze_10 : decode cX8_haze 10 = .ok (.aload_n 0, 1) := by decide +kernel
theorem dX8_haze_11 : decode cX8_haze 11 = .ok (.iconst 4, 1) := by decide +kernel
theorem dX8_haze_12 : decode cX8_haze 12 = .ok (.iload_n 1, 1) := by decide +kernel
theorem dX8_haze_13 : decode cX8_haze 13 = .ok (.invokevirtual 171, 3) := by decide +kernel
theorem dX8_haze_16 : decode cX8_haze 16 = .ok (.goto 9, 3) := by decide +kernel
theorem dX8_haze_19 : decode cX8_haze 19 = .ok (.aload_n 0, 1) := by decide +kernel
theorem dX8_haze_20 : decode cX8_haze 20 = .ok (.ldc 57, 2) := by decide +kernel
theorem dX8_haze_22 : decode cX8_haze 22 = .ok (.invokevirtual 53, 3) := by decide +kernel
theorem dX8_haze_25 : decode cX8_haze 25 = .ok (.ireturn, 1) := by decide +kernel
theorem dX8_day_0 : decode cX8_day 0 = .ok (.iload_n 1, 1) := by decide +kernel
theorem dX8_day_1 : decode cX8_day 1 = .ok (.iconst 0, 1) := by decide +kernel
theorem dX8_day_2 : decode cX8_day 2 = .ok (.bipush 19, 2) := by decide +kernel
theorem dX8_day_4 : decode cX8_day 4 = .ok (.invokestatic 41, 3) := by decide +kernel
theorem dX8_day_7 : decode cX8_day 7 = .ok (.ifCond .eq 12, 3) := by decide +kernel
theorem dX8_day_10 : decode cX8_day 10 = .ok (.aload_n 0, 1) := by decide +kernel
theorem dX8_day_11 : decode cX8_day 11 = .ok (.iconst 5, 1) := by decide +kernel
theorem dX8_day_12 : decode cX8_day 12 = .ok (.iload_n 1, 1) := by decide +kernel
theorem dX8_day_13 : decode cX8_day 13 = .ok (.invokevirtual 171, 3) := by decide +kernel
theorem dX8_day_16 : decode cX8_day 16 = .ok (.goto 9, 3) := by decide +kernel
theorem dX8_day_19 : decode cX8_day 19 = .ok (.aload_n 0, 1) := by decide +kernel
theorem dX8_day_20 : decode cX8_day 20 = .ok (.ldc 57, 2) := by decide +kernel
theorem dX8_day_22 : decode cX8_day 22 = .ok (.invokevirtual 53, 3) := by decide +kernel
theorem dX8_day_25 : decode cX8_day 25 = .ok (.ireturn, 1) := by decide +kernel
theorem dX8_alike_0 : decode cX8_alike 0 = .ok (.iconst 0, 1) := by decide +kernel
theorem dX8_alike_1 : decode cX8_alike 1 = .ok (.istore_n 3, 1) := by decide +kernel
theorem dX8_alike_2 : decode cX8_alike 2 = .ok (.iconst 0, 1) := by decide +kernel
theorem dX8_alike_3 : decode cX8_alike 3 = .ok (.istore 4, 2) := by decide +kernel
theorem dX8_alike_5 : decode cX8_alike 5 = .ok (.iload 4, 2) := by decide +kernel
theorem dX8_alike_7 : decode cX8_alike 7 = .ok (.aload_n 0, 1) := by decide +kernel
theorem dX8_alike_8 : decode cX8_alike 8 = .ok (.getfield 9, 3) := by decide +kernel
theorem dX8_alike_11 : decode cX8_alike 11 = .ok (.iload_n 1, 1) := by decide +kernel
theorem dX8_alike_12 : decode cX8_alike 12 = .ok (.iconst 4, 1) := by decide +kernel
theorem dX8_alike_13 : decode cX8_alike 13 = .ok (.invokestatic 45, 3) := by decide +kernel
theorem dX8_alike_16 : decode cX8_alike 16 = .ok (.iaload, 1) := by decide +kernel
theorem dX8_alike_17 : decode cX8_alike 17 = .ok (.if_icmp .ge 79, 3) := by decide +kernel
theorem dX8_alike_20 : decode cX8_alike 20 = .ok (.iconst 0, 1) := by decide +kernel
theorem dX8_alike_21 : decode cX8_alike 21 = .ok (.istore 5, 2) := by decide +kernel
theorem dX8_alike_23 : decode cX8_alike 23 = .ok (.iload 5, 2) := by decide +kernel
theorem dX8_alike_25 : decode cX8_alike 25 = .ok (.aload_n 0, 1) := by decide +kernel
theorem dX8_alike_26 : decode cX8_alike 26 = .ok (.getfield 9, 3) := by decide +kernel
theorem dX8_alike_29 : decode cX8_alike 29 = .ok (.iload_n 2, 1) := by decide +kernel
theorem dX8_alike_30 : decode cX8_alike 30 = .ok (.iconst 4, 1) := by decide +kernel
theorem dX8_alike_31 : decode cX8_alike 31 = .ok (.invokestatic 45, 3) := by decide +kernel
theorem dX8_alike_34 : decode cX8_alike 34 = .ok (.iaload, 1) := by decide +kernel
theorem dX8_alike_35 : decode cX8_alike 35 = .ok (.if_icmp .ge 55, 3) := by decide +kernel
theorem dX8_alike_38 : decode cX8_alike 38 = .ok (.iconst 0, 1) := by decide +kernel
theorem dX8_alike_39 : decode cX8_alike 39 = .ok (.istore 6, 2) := by decide +kernel
theorem dX8_alike_41 : decode cX8_alike 41 = .ok (.iload 6, 2) := by decide +kernel
theorem dX8_alike_43 : decode cX8_alike 43 = .ok (.bipush 60, 2) := by decide +kernel
theorem dX8_alike_45 : decode cX8_alike 45 = .ok (.if_icmp .ge 32, 3) := by decide +kernel
theorem dX8_alike_48 : decode cX8_alike 48 = .ok (.aload_n 0, 1) := by decide +kernel
theorem dX8_alike_49 : decode cX8_alike 49 = .ok (.iload_n 1, 1) := by decide +kernel
theorem dX8_alike_50 : decode cX8_alike 50 = .ok (.iload 4, 2) := by decide +kernel
theorem dX8_alike_52 : decode cX8_alike 52 = .ok (.iload 6, 2) := by decide +kernel
theorem dX8_alike_54 : decode cX8_alike 54 = .ok (.iadd, 1) := by decide +kernel
theorem dX8_alike_55 : decode cX8_alike 55 = .ok (.invokevirtual 127, 3) := by decide +kernel
theorem dX8_alike_58 : decode cX8_alike 58 = .ok (.aload_n 0, 1) := by decide +kernel
theorem dX8_alike_59 : decode cX8_alike 59 = .ok (.iload_n 2, 1) := by decide +kernel
theorem dX8_alike_60 : decode cX8_alike 60 = .ok (.iload 5, 2) := by decide +kernel
theorem dX8_alike_62 : decode cX8_alike 62 = .ok (.iload 6, 2) := by decide +kernel
theorem dX8_alike_64 : decode cX8_alike 64 = .ok (.iadd, 1) := by decide +kernel
theorem dX8_alike_65 : decode cX8_alike 65 = .ok (.invokevirtual 127, 3) := by decide +kernel
theorem dX8_alike_68 : decode cX8_alike 68 = .ok (.if_icmp .ne 9, 3) := by decide +kernel
theorem dX8_alike_71 : decode cX8_alike 71 = .ok (.iinc 6 1, 3) := by decide +kernel
theorem dX8_alike_74 : decode cX8_alike 74 = .ok (.goto (-33), 3) := by decide +kernel
theorem dX8_alike_77 : decode cX8_alike 77 = .ok (.iload_n 3, 1) := by decide +kernel
theorem dX8_alike_78 : decode cX8_alike 78 = .ok (.iload 6, 2) := by decide +kernel
theorem dX8_alike_80 : decode cX8_alike 80 = .ok (.invokestatic 157, 3) := by decide +kernel
theorem dX8_alike_83 : decode cX8_alike 83 = .ok (.istore_n 3, 1) := by decide +kernel
theorem dX8_alike_84 : decode cX8_alike 84 = .ok (.iinc 5 1, 3) := by decide +kernel
theorem dX8_alike_87 : decode cX8_alike 87 = .ok (.goto (-64), 3) := by decide +kernel
theorem dX8_alike_90 : decode cX8_alike 90 = .ok (.iinc 4 1, 3) := by decide +kernel
theorem dX8_alike_93 : decode cX8_alike 93 = .ok (.goto (-88), 3) := by decide +kernel
theorem dX8_alike_96 : decode cX8_alike 96 = .ok (.iload_n 3, 1) := by decide +kernel
theorem dX8_alike_97 : decode cX8_alike 97 = .ok (.ireturn, 1) := by decide +kernel
theorem dX8_apart_0 : decode cX8_apart 0 = .ok (.aload_n 0, 1) := by decide +kernel
theorem dX8_apart_1 : decode cX8_apart 1 = .ok (.iload_n 1, 1) := by decide +kernel
theorem dX8_apart_2 : decode cX8_apart 2 = .ok (.invokevirtual 120, 3) := by decide +kernel
theorem dX8_apart_5 : decode cX8_apart 5 = .ok (.ifCond .eq 11, 3) := by decide +kernel
theorem dX8_apart_8 : decode cX8_apart 8 = .ok (.aload_n 0, 1) := by decide +kernel
theorem dX8_apart_9 : decode cX8_apart 9 = .ok (.iload_n 2, 1) := by decide +kernel
theorem dX8_apart_10 : decode cX8_apart 10 = .ok (.invokevirtual 120, 3) := by decide +kernel
theorem dX8_apart_13 : decode cX8_apart 13 = .ok (.ifCond .ne 10, 3) := by decide +kernel
theorem dX8_apart_16 : decode cX8_apart 16 = .ok (.aload_n 0, 1) := by decide +kernel
theorem dX8_apart_17 : decode cX8_apart 17 = .ok (.ldc 57, 2) := by decide +kernel
theorem dX8_apart_19 : decode cX8_apart 19 = .ok (.invokevirtual 53, 3) := by decide +kernel
theorem dX8_apart_22 : decode cX8_apart 22 = .ok (.ireturn, 1) := by decide +kernel
theorem dX8_apart_23 : decode cX8_apart 23 = .ok (.iload_n 1, 1) := by decide +kernel
theorem dX8_apart_24 : decode cX8_apart 24 = .ok (.iload_n 2, 1) := by decide +kernel
theorem dX8_apart_25 : decode cX8_apart 25 = .ok (.if_icmp .ne 10, 3) := by decide +kernel
theorem dX8_apart_28 : decode cX8_apart 28 = .ok (.aload_n 0, 1) := by decide +kernel
theorem dX8_apart_29 : decode cX8_apart 29 = .ok (.ldc 147, 2) := by decide +kernel
theorem dX8_apart_31 : decode cX8_apart 31 = .ok (.invokevirtual 53, 3) := by decide +kernel
theorem dX8_apart_34 : decode cX8_apart 34 = .ok (.ireturn, 1) := by decide +kernel
theorem dX8_apart_35 : decode cX8_apart 35 = .ok (.aload_n 0, 1) := by decide +kernel
theorem dX8_apart_36 : decode cX8_apart 36 = .ok (.iload_n 1, 1) := by decide +kernel
theorem dX8_apart_37 : decode cX8_apart 37 = .ok (.iload_n 2, 1) := by decide +kernel
theorem dX8_apart_38 : decode cX8_apart 38 = .ok (.invokevirtual 174, 3) := by decide +kernel
theorem dX8_apart_41 : decode cX8_apart 41 = .ok (.istore_n 3, 1) := by decide +kernel
theorem dX8_apart_42 : decode cX8_apart 42 = .ok (.iload_n 3, 1) := by decide +kernel
theorem dX8_apart_43 : decode cX8_apart 43 = .ok (.bipush 60, 2) := by decide +kernel
theorem dX8_apart_45 : decode cX8_apart 45 = .ok (.if_icmp .lt 12, 3) := by decide +kernel
theorem dX8_apart_48 : decode cX8_apart 48 = .ok (.aload_n 0, 1) := by decide +kernel
theorem dX8_apart_49 : decode cX8_apart 49 = .ok (.ldc 52, 2) := by decide +kernel
theorem dX8_apart_51 : decode cX8_apart 51 = .ok (.invokevirtual 53, 3) := by decide +kernel
theorem dX8_apart_54 : decode cX8_apart 54 = .ok (.goto 6, 3) := by decide +kernel
theorem dX8_apart_57 : decode cX8_apart 57 = .ok (.iload_n 3, 1) := by decide +kernel
theorem dX8_apart_58 : decode cX8_apart 58 = .ok (.iconst 1, 1) := by decide +kernel
theorem dX8_apart_59 : decode cX8_apart 59 = .ok (.iadd, 1) := by decide +kernel
theorem dX8_apart_60 : decode cX8_apart 60 = .ok (.ireturn, 1) := by decide +kernel
theorem dX8_allApart_0 : decode cX8_allApart 0 = .ok (.iload_n 1, 1) := by decide +kernel
theorem dX8_allApart_1 : decode cX8_allApart 1 = .ok (.ifCond .lt 15, 3) := by decide +kernel
theorem dX8_allApart_4 : decode cX8_allApart 4 = .ok (.iload_n 1, 1) := by decide +kernel
theorem dX8_allApart_5 : decode cX8_allApart 5 = .ok (.iconst 1, 1) := by decide +kernel
theorem dX8_allApart_6 : decode cX8_allApart 6 = .ok (.aload_n 0, 1) := by decide +kernel
theorem dX8_allApart_7 : decode cX8_allApart 7 = .ok (.getfield 9, 3) := by decide +kernel
theorem dX8_allApart_10 : decode cX8_allApart 10 = .ok (.iconst 0, 1) := by decide +kernel
theorem dX8_allApart_11 : decode cX8_allApart 11 = .ok (.iaload, 1) := by decide +kernel
theorem dX8_allApart_12 : decode cX8_allApart 12 = .ok (.ishl, 1) := by decide +kernel
theorem dX8_allApart_13 : decode cX8_allApart 13 = .ok (.if_icmp .lt 10, 3) := by decide +kernel
theorem dX8_allApart_16 : decode cX8_allApart 16 = .ok (.aload_n 0, 1) := by decide +kernel
theorem dX8_allApart_17 : decode cX8_allApart 17 = .ok (.ldc 57, 2) := by decide +kernel
theorem dX8_allApart_19 : decode cX8_allApart 19 = .ok (.invokevirtual 53, 3) := by decide +kernel
theorem dX8_allApart_22 : decode cX8_allApart 22 = .ok (.ireturn, 1) := by decide +kernel
theorem dX8_allApart_23 : decode cX8_allApart 23 = .ok (.iconst 0, 1) := by decide +kernel
theorem dX8_allApart_24 : decode cX8_allApart 24 = .ok (.istore_n 2, 1) := by decide +kernel
theorem dX8_allApart_25 : decode cX8_allApart 25 = .ok (.iconst 0, 1) := by decide +kernel
theorem dX8_allApart_26 : decode cX8_allApart 26 = .ok (.istore_n 3, 1) := by decide +kernel
theorem dX8_allApart_27 : decode cX8_allApart 27 = .ok (.iload_n 3, 1) := by decide +kernel
theorem dX8_allApart_28 : decode cX8_allApart 28 = .ok (.aload_n 0, 1) := by decide +kernel
theorem dX8_allApart_29 : decode cX8_allApart 29 = .ok (.getfield 9, 3) := by decide +kernel
theorem dX8_allApart_32 : decode cX8_allApart 32 = .ok (.iconst 0, 1) := by decide +kernel
theorem dX8_allApart_33 : decode cX8_allApart 33 = .ok (.iaload, 1) := by decide +kernel
theorem dX8_allApart_34 : decode cX8_allApart 34 = .ok (.if_icmp .ge 66, 3) := by decide +kernel
theorem dX8_allApart_37 : decode cX8_allApart 37 = .ok (.iload_n 3, 1) := by decide +kernel
theorem dX8_allApart_38 : decode cX8_allApart 38 = .ok (.iconst 1, 1) := by decide +kernel
theorem dX8_allApart_39 : decode cX8_allApart 39 = .ok (.iadd, 1) := by decide +kernel
theorem dX8_allApart_40 : decode cX8_allApart 40 = .ok (.istore 4, 2) := by decide +kernel
theorem dX8_allApart_42 : decode cX8_allApart 42 = .ok (.iload 4, 2) := by decide +kernel
theorem dX8_allApart_44 : decode cX8_allApart 44 = .ok (.aload_n 0, 1) := by decide +kernel
theorem dX8_allApart_45 : decode cX8_allApart 45 = .ok (.getfield 9, 3) := by decide +kernel
theorem dX8_allApart_48 : decode cX8_allApart 48 = .ok (.iconst 0, 1) := by decide +kernel
theorem dX8_allApart_49 : decode cX8_allApart 49 = .ok (.iaload, 1) := by decide +kernel
theorem dX8_allApart_50 : decode cX8_allApart 50 = .ok (.if_icmp .ge 44, 3) := by decide +kernel
theorem dX8_allApart_53 : decode cX8_allApart 53 = .ok (.iload_n 1, 1) := by decide +kernel
theorem dX8_allApart_54 : decode cX8_allApart 54 = .ok (.iload_n 3, 1) := by decide +kernel
theorem dX8_allApart_55 : decode cX8_allApart 55 = .ok (.ishr, 1) := by decide +kernel
theorem dX8_allApart_56 : decode cX8_allApart 56 = .ok (.iconst 1, 1) := by decide +kernel
theorem dX8_allApart_57 : decode cX8_allApart 57 = .ok (.iand, 1) := by decide +kernel
theorem dX8_allApart_58 : decode cX8_allApart 58 = .ok (.iconst 1, 1) := by decide +kernel
theorem dX8_allApart_59 : decode cX8_allApart 59 = .ok (.if_icmp .ne 27, 3) := by decide +kernel
theorem dX8_allApart_62 : decode cX8_allApart 62 = .ok (.iload_n 1, 1) := by decide +kernel
theorem dX8_allApart_63 : decode cX8_allApart 63 = .ok (.iload 4, 2) := by decide +kernel
theorem dX8_allApart_65 : decode cX8_allApart 65 = .ok (.ishr, 1) := by decide +kernel
theorem dX8_allApart_66 : decode cX8_allApart 66 = .ok (.iconst 1, 1) := by decide +kernel
theorem dX8_allApart_67 : decode cX8_allApart 67 = .ok (.iand, 1) := by decide +kernel
theorem dX8_allApart_68 : decode cX8_allApart 68 = .ok (.iconst 1, 1) := by decide +kernel
theorem dX8_allApart_69 : decode cX8_allApart 69 = .ok (.if_icmp .ne 17, 3) := by decide +kernel
theorem dX8_allApart_72 : decode cX8_allApart 72 = .ok (.iload_n 2, 1) := by decide +kernel
theorem dX8_allApart_73 : decode cX8_allApart 73 = .ok (.aload_n 0, 1) := by decide +kernel
theorem dX8_allApart_74 : decode cX8_allApart 74 = .ok (.iload_n 3, 1) := by decide +kernel
theorem dX8_allApart_75 : decode cX8_allApart 75 = .ok (.iload 4, 2) := by decide +kernel
theorem dX8_allApart_77 : decode cX8_allApart 77 = .ok (.invokevirtual 174, 3) := by decide +kernel
theorem dX8_allApart_80 : decode cX8_allApart 80 = .ok (.invokestatic 157, 3) := by decide +kernel
theorem dX8_allApart_83 : decode cX8_allApart 83 = .ok (.goto 4, 3) := by decide +kernel
theorem dX8_allApart_86 : decode cX8_allApart 86 = .ok (.iload_n 2, 1) := by decide +kernel
theorem dX8_allApart_87 : decode cX8_allApart 87 = .ok (.istore_n 2, 1) := by decide +kernel
theorem dX8_allApart_88 : decode cX8_allApart 88 = .ok (.iinc 4 1, 3) := by decide +kernel
theorem dX8_allApart_91 : decode cX8_allApart 91 = .ok (.goto (-49), 3) := by decide +kernel
theorem dX8_allApart_94 : decode cX8_allApart 94 = .ok (.iinc 3 1, 3) := by decide +kernel
theorem dX8_allApart_97 : decode cX8_allApart 97 = .ok (.goto (-70), 3) := by decide +kernel
theorem dX8_allApart_100 : decode cX8_allApart 100 = .ok (.iload_n 2, 1) := by decide +kernel
theorem dX8_allApart_101 : decode cX8_allApart 101 = .ok (.bipush 60, 2) := by decide +kernel
theorem dX8_allApart_103 : decode cX8_allApart 103 = .ok (.if_icmp .lt 12, 3) := by decide +kernel
theorem dX8_allApart_106 : decode cX8_allApart 106 = .ok (.aload_n 0, 1) := by decide +kernel
theorem dX8_allApart_107 : decode cX8_allApart 107 = .ok (.ldc 52, 2) := by decide +kernel
theorem dX8_allApart_109 : decode cX8_allApart 109 = .ok (.invokevirtual 53, 3) := by decide +kernel
theorem dX8_allApart_112 : decode cX8_allApart 112 = .ok (.goto 6, 3) := by decide +kernel
theorem dX8_allApart_115 : decode cX8_allApart 115 = .ok (.iload_n 2, 1) := by decide +kernel
theorem dX8_allApart_116 : decode cX8_allApart 116 = .ok (.iconst 1, 1) := by decide +kernel
theorem dX8_allApart_117 : decode cX8_allApart 117 = .ok (.iadd, 1) := by decide +kernel
theorem dX8_allApart_118 : decode cX8_allApart 118 = .ok (.ireturn, 1) := by decide +kernel
theorem dX8_fitsFrom_0 : decode cX8_fitsFrom 0 = .ok (.iconst 0, 1) := by decide +kernel
theorem dX8_fitsFrom_1 : decode cX8_fitsFrom 1 = .ok (.istore 4, 2) := by decide +kernel
theorem dX8_fitsFrom_3 : decode cX8_fitsFrom 3 = .ok (.iload 4, 2) := by decide +kernel
theorem dX8_fitsFrom_5 : decode cX8_fitsFrom 5 = .ok (.aload_n 0, 1) := by decide +kernel
theorem dX8_fitsFrom_6 : decode cX8_fitsFrom 6 = .ok (.getfield 22, 3) := by decide +kernel
theorem dX8_fitsFrom_9 : decode cX8_fitsFrom 9 = .ok (.iload_n 3, 1) := by decide +kernel
theorem dX8_fitsFrom_10 : decode cX8_fitsFrom 10 = .ok (.iaload, 1) := by decide +kernel
theorem dX8_fitsFrom_11 : decode cX8_fitsFrom 11 = .ok (.if_icmp .ge 43, 3) := by decide +kernel
theorem dX8_fitsFrom_14 : decode cX8_fitsFrom 14 = .ok (.aload_n 0, 1) := by decide +kernel
theorem dX8_fitsFrom_15 : decode cX8_fitsFrom 15 = .ok (.iload_n 1, 1) := by decide +kernel
theorem dX8_fitsFrom_16 : decode cX8_fitsFrom 16 = .ok (.iload_n 2, 1) := by decide +kernel
theorem dX8_fitsFrom_17 : decode cX8_fitsFrom 17 = .ok (.iload 4, 2) := by decide +kernel
theorem dX8_fitsFrom_19 : decode cX8_fitsFrom 19 = .ok (.iadd, 1) := by decide +kernel
theorem dX8_fitsFrom_20 : decode cX8_fitsFrom 20 = .ok (.invokevirtual 127, 3) := by decide +kernel
theorem dX8_fitsFrom_23 : decode cX8_fitsFrom 23 = .ok (.aload_n 0, 1) := by decide +kernel
theorem dX8_fitsFrom_24 : decode cX8_fitsFrom 24 = .ok (.getfield 25, 3) := by decide +kernel
theorem dX8_fitsFrom_27 : decode cX8_fitsFrom 27 = .ok (.bipush 30, 2) := by decide +kernel
theorem dX8_fitsFrom_29 : decode cX8_fitsFrom 29 = .ok (.iload_n 3, 1) := by decide +kernel
theorem dX8_fitsFrom_30 : decode cX8_fitsFrom 30 = .ok (.imul, 1) := by decide +kernel
theorem dX8_fitsFrom_31 : decode cX8_fitsFrom 31 = .ok (.iload 4, 2) := by decide +kernel
theorem dX8_fitsFrom_33 : decode cX8_fitsFrom 33 = .ok (.iadd, 1) := by decide +kernel
theorem dX8_fitsFrom_34 : decode cX8_fitsFrom 34 = .ok (.iaload, 1) := by decide +kernel
theorem dX8_fitsFrom_35 : decode cX8_fitsFrom 35 = .ok (.ifCond .eq 7, 3) := by decide +kernel
theorem dX8_fitsFrom_38 : decode cX8_fitsFrom 38 = .ok (.iconst 1, 1) := by decide +kernel
theorem dX8_fitsFrom_39 : decode cX8_fitsFrom 39 = .ok (.goto 4, 3) := by decide +kernel
theorem dX8_fitsFrom_42 : decode cX8_fitsFrom 42 = .ok (.iconst 0, 1) := by decide +kernel
theorem dX8_fitsFrom_43 : decode cX8_fitsFrom 43 = .ok (.if_icmp .eq 5, 3) := by decide +kernel
theorem dX8_fitsFrom_46 : decode cX8_fitsFrom 46 = .ok (.iconst 0, 1) := by decide +kernel
theorem dX8_fitsFrom_47 : decode cX8_fitsFrom 47 = .ok (.ireturn, 1) := by decide +kernel
theorem dX8_fitsFrom_48 : decode cX8_fitsFrom 48 = .ok (.iinc 4 1, 3) := by decide +kernel
theorem dX8_fitsFrom_51 : decode cX8_fitsFrom 51 = .ok (.goto (-48), 3) := by decide +kernel
theorem dX8_fitsFrom_54 : decode cX8_fitsFrom 54 = .ok (.iconst 1, 1) := by decide +kernel
theorem dX8_fitsFrom_55 : decode cX8_fitsFrom 55 = .ok (.ireturn, 1) := by decide +kernel
theorem dX8_fits_0 : decode cX8_fits 0 = .ok (.iload_n 1, 1) := by decide +kernel
theorem dX8_fits_1 : decode cX8_fits 1 = .ok (.invokestatic 177, 3) := by decide +kernel
theorem dX8_fits_4 : decode cX8_fits 4 = .ok (.ifCond .ne 10, 3) := by decide +kernel
theorem dX8_fits_7 : decode cX8_fits 7 = .ok (.aload_n 0, 1) := by decide +kernel
theorem dX8_fits_8 : decode cX8_fits 8 = .ok (.ldc 57, 2) := by decide +kernel
theorem dX8_fits_10 : decode cX8_fits 10 = .ok (.invokevirtual 53, 3) := by decide +kernel
theorem dX8_fits_13 : decode cX8_fits 13 = .ok (.ireturn, 1) := by decide +kernel
theorem dX8_fits_14 : decode cX8_fits 14 = .ok (.aload_n 0, 1) := by decide +kernel
theorem dX8_fits_15 : decode cX8_fits 15 = .ok (.getfield 19, 3) := by decide +kernel
theorem dX8_fits_18 : decode cX8_fits 18 = .ok (.iload_n 1, 1) := by decide +kernel
theorem dX8_fits_19 : decode cX8_fits 19 = .ok (.iaload, 1) := by decide +kernel
theorem dX8_fits_20 : decode cX8_fits 20 = .ok (.ifCond .ne 10, 3) := by decide +kernel
theorem dX8_fits_23 : decode cX8_fits 23 = .ok (.aload_n 0, 1) := by decide +kernel
theorem dX8_fits_24 : decode cX8_fits 24 = .ok (.ldc 180, 2) := by decide +kernel
theorem dX8_fits_26 : decode cX8_fits 26 = .ok (.invokevirtual 53, 3) := by decide +kernel
theorem dX8_fits_29 : decode cX8_fits 29 = .ok (.ireturn, 1) := by decide +kernel
theorem dX8_fits_30 : decode cX8_fits 30 = .ok (.iconst 0, 1) := by decide +kernel
theorem dX8_fits_31 : decode cX8_fits 31 = .ok (.istore_n 2, 1) := by decide +kernel
theorem dX8_fits_32 : decode cX8_fits 32 = .ok (.iconst 0, 1) := by decide +kernel
theorem dX8_fits_33 : decode cX8_fits 33 = .ok (.istore_n 3, 1) := by decide +kernel
theorem dX8_fits_34 : decode cX8_fits 34 = .ok (.iload_n 3, 1) := by decide +kernel
theorem dX8_fits_35 : decode cX8_fits 35 = .ok (.aload_n 0, 1) := by decide +kernel
theorem dX8_fits_36 : decode cX8_fits 36 = .ok (.getfield 9, 3) := by decide +kernel
theorem dX8_fits_39 : decode cX8_fits 39 = .ok (.iconst 0, 1) := by decide +kernel
theorem dX8_fits_40 : decode cX8_fits 40 = .ok (.iaload, 1) := by decide +kernel
theorem dX8_fits_41 : decode cX8_fits 41 = .ok (.if_icmp .ge 54, 3) := by decide +kernel
theorem dX8_fits_44 : decode cX8_fits 44 = .ok (.iconst 0, 1) := by decide +kernel
theorem dX8_fits_45 : decode cX8_fits 45 = .ok (.istore 4, 2) := by decide +kernel
theorem dX8_fits_47 : decode cX8_fits 47 = .ok (.iload 4, 2) := by decide +kernel
theorem dX8_fits_49 : decode cX8_fits 49 = .ok (.aload_n 0, 1) := by decide +kernel
theorem dX8_fits_50 : decode cX8_fits 50 = .ok (.getfield 9, 3) := by decide +kernel
theorem dX8_fits_53 : decode cX8_fits 53 = .ok (.iload_n 3, 1) := by decide +kernel
theorem dX8_fits_54 : decode cX8_fits 54 = .ok (.iconst 4, 1) := by decide +kernel
theorem dX8_fits_55 : decode cX8_fits 55 = .ok (.invokestatic 45, 3) := by decide +kernel
theorem dX8_fits_58 : decode cX8_fits 58 = .ok (.iaload, 1) := by decide +kernel
theorem dX8_fits_59 : decode cX8_fits 59 = .ok (.if_icmp .ge 30, 3) := by decide +kernel
theorem dX8_fits_62 : decode cX8_fits 62 = .ok (.iload_n 2, 1) := by decide +kernel
theorem dX8_fits_63 : decode cX8_fits 63 = .ok (.aload_n 0, 1) := by decide +kernel
theorem dX8_fits_64 : decode cX8_fits 64 = .ok (.iload_n 3, 1) := by decide +kernel
theorem dX8_fits_65 : decode cX8_fits 65 = .ok (.iload 4, 2) := by decide +kernel
theorem dX8_fits_67 : decode cX8_fits 67 = .ok (.iload_n 1, 1) := by decide +kernel
theorem dX8_fits_68 : decode cX8_fits 68 = .ok (.invokevirtual 181, 3) := by decide +kernel
theorem dX8_fits_71 : decode cX8_fits 71 = .ok (.ifCond .eq 9, 3) := by decide +kernel
theorem dX8_fits_74 : decode cX8_fits 74 = .ok (.iconst 1, 1) := by decide +kernel
theorem dX8_fits_75 : decode cX8_fits 75 = .ok (.iload_n 3, 1) := by decide +kernel
theorem dX8_fits_76 : decode cX8_fits 76 = .ok (.ishl, 1) := by decide +kernel
theorem dX8_fits_77 : decode cX8_fits 77 = .ok (.goto 4, 3) := by decide +kernel
theorem dX8_fits_80 : decode cX8_fits 80 = .ok (.iconst 0, 1) := by decide +kernel
theorem dX8_fits_81 : decode cX8_fits 81 = .ok (.ior, 1) := by decide +kernel
theorem dX8_fits_82 : decode cX8_fits 82 = .ok (.istore_n 2, 1) := by decide +kernel
theorem dX8_fits_83 : decode cX8_fits 83 = .ok (.iinc 4 1, 3) := by decide +kernel
theorem dX8_fits_86 : decode cX8_fits 86 = .ok (.goto (-39), 3) := by decide +kernel
theorem dX8_fits_89 : decode cX8_fits 89 = .ok (.iinc 3 1, 3) := by decide +kernel
theorem dX8_fits_92 : decode cX8_fits 92 = .ok (.goto (-58), 3) := by decide +kernel
theorem dX8_fits_95 : decode cX8_fits 95 = .ok (.iload_n 2, 1) := by decide +kernel
theorem dX8_fits_96 : decode cX8_fits 96 = .ok (.ireturn, 1) := by decide +kernel
theorem dX8_bearing_0 : decode cX8_bearing 0 = .ok (.aload_n 0, 1) := by decide +kernel
theorem dX8_bearing_1 : decode cX8_bearing 1 = .ok (.iload_n 1, 1) := by decide +kernel
theorem dX8_bearing_2 : decode cX8_bearing 2 = .ok (.invokevirtual 120, 3) := by decide +kernel
theorem dX8_bearing_5 : decode cX8_bearing 5 = .ok (.ifCond .eq 17, 3) := by decide +kernel
theorem dX8_bearing_8 : decode cX8_bearing 8 = .ok (.iload_n 2, 1) := by decide +kernel
theorem dX8_bearing_9 : decode cX8_bearing 9 = .ok (.invokestatic 131, 3) := by decide +kernel
theorem dX8_bearing_12 : decode cX8_bearing 12 = .ok (.ifCond .eq 10, 3) := by decide +kernel
theorem dX8_bearing_15 : decode cX8_bearing 15 = .ok (.iload_n 3, 1) := by decide +kernel
theorem dX8_bearing_16 : decode cX8_bearing 16 = .ok (.invokestatic 131, 3) := by decide +kernel
theorem dX8_bearing_19 : decode cX8_bearing 19 = .ok (.ifCond .ne 10, 3) := by decide +kernel
theorem dX8_bearing_22 : decode cX8_bearing 22 = .ok (.aload_n 0, 1) := by decide +kernel
theorem dX8_bearing_23 : decode cX8_bearing 23 = .ok (.ldc 57, 2) := by decide +kernel
theorem dX8_bearing_25 : decode cX8_bearing 25 = .ok (.invokevirtual 53, 3) := by decide +kernel
theorem dX8_bearing_28 : decode cX8_bearing 28 = .ok (.ireturn, 1) := by decide +kernel
theorem dX8_bearing_29 : decode cX8_bearing 29 = .ok (.aload_n 0, 1) := by decide +kernel
theorem dX8_bearing_30 : decode cX8_bearing 30 = .ok (.getfield 9, 3) := by decide +kernel
theorem dX8_bearing_33 : decode cX8_bearing 33 = .ok (.iconst 1, 1) := by decide +kernel
theorem dX8_bearing_34 : decode cX8_bearing 34 = .ok (.iaload, 1) := by decide +kernel
theorem dX8_bearing_35 : decode cX8_bearing 35 = .ok (.istore 4, 2) := by decide +kernel
theorem dX8_bearing_37 : decode cX8_bearing 37 = .ok (.iload 4, 2) := by decide +kernel
theorem dX8_bearing_39 : decode cX8_bearing 39 = .ok (.bipush 8, 2) := by decide +kernel
theorem dX8_bearing_41 : decode cX8_bearing 41 = .ok (.if_icmp .ne 10, 3) := by decide +kernel
theorem dX8_bearing_44 : decode cX8_bearing 44 = .ok (.aload_n 0, 1) := by decide +kernel
theorem dX8_bearing_45 : decode cX8_bearing 45 = .ok (.ldc 61, 2) := by decide +kernel
theorem dX8_bearing_47 : decode cX8_bearing 47 = .ok (.invokevirtual 53, 3) := by decide +kernel
theorem dX8_bearing_50 : decode cX8_bearing 50 = .ok (.ireturn, 1) := by decide +kernel
theorem dX8_bearing_51 : decode cX8_bearing 51 = .ok (.aload_n 0, 1) := by decide +kernel
theorem dX8_bearing_52 : decode cX8_bearing 52 = .ok (.invokevirtual 114, 3) := by decide +kernel
theorem dX8_bearing_55 : decode cX8_bearing 55 = .ok (.aload_n 0, 1) := by decide +kernel
theorem dX8_bearing_56 : decode cX8_bearing 56 = .ok (.getfield 9, 3) := by decide +kernel
theorem dX8_bearing_59 : decode cX8_bearing 59 = .ok (.sipush 230, 3) := by decide +kernel
theorem dX8_bearing_62 : decode cX8_bearing 62 = .ok (.iconst 3, 1) := by decide +kernel
theorem dX8_bearing_63 : decode cX8_bearing 63 = .ok (.iload 4, 2) := by decide +kernel
theorem dX8_bearing_65 : decode cX8_bearing 65 = .ok (.imul, 1) := by decide +kernel
theorem dX8_bearing_66 : decode cX8_bearing 66 = .ok (.iadd, 1) := by decide +kernel
theorem dX8_bearing_67 : decode cX8_bearing 67 = .ok (.iload_n 1, 1) := by decide +kernel
theorem dX8_bearing_68 : decode cX8_bearing 68 = .ok (.iastore, 1) := by decide +kernel
theorem dX8_bearing_69 : decode cX8_bearing 69 = .ok (.aload_n 0, 1) := by decide +kernel
theorem dX8_bearing_70 : decode cX8_bearing 70 = .ok (.getfield 9, 3) := by decide +kernel
theorem dX8_bearing_73 : decode cX8_bearing 73 = .ok (.sipush 230, 3) := by decide +kernel
theorem dX8_bearing_76 : decode cX8_bearing 76 = .ok (.iconst 3, 1) := by decide +kernel
theorem dX8_bearing_77 : decode cX8_bearing 77 = .ok (.iload 4, 2) := by decide +kernel
theorem dX8_bearing_79 : decode cX8_bearing 79 = .ok (.imul, 1) := by decide +kernel
theorem dX8_bearing_80 : decode cX8_bearing 80 = .ok (.iadd, 1) := by decide +kernel
theorem dX8_bearing_81 : decode cX8_bearing 81 = .ok (.iconst 1, 1) := by decide +kernel
theorem dX8_bearing_82 : decode cX8_bearing 82 = .ok (.iadd, 1) := by decide +kernel
theorem dX8_bearing_83 : decode cX8_bearing 83 = .ok (.iload_n 2, 1) := by decide +kernel
theorem dX8_bearing_84 : decode cX8_bearing 84 = .ok (.iastore, 1) := by decide +kernel
theorem dX8_bearing_85 : decode cX8_bearing 85 = .ok (.aload_n 0, 1) := by decide +kernel
theorem dX8_bearing_86 : decode cX8_bearing 86 = .ok (.getfield 9, 3) := by decide +kernel
theorem dX8_bearing_89 : decode cX8_bearing 89 = .ok (.sipush 230, 3) := by decide +kernel
theorem dX8_bearing_92 : decode cX8_bearing 92 = .ok (.iconst 3, 1) := by decide +kernel
theorem dX8_bearing_93 : decode cX8_bearing 93 = .ok (.iload 4, 2) := by decide +kernel
theorem dX8_bearing_95 : decode cX8_bearing 95 = .ok (.imul, 1) := by decide +kernel
theorem dX8_bearing_96 : decode cX8_bearing 96 = .ok (.iadd, 1) := by decide +kernel
theorem dX8_bearing_97 : decode cX8_bearing 97 = .ok (.iconst 2, 1) := by decide +kernel
theorem dX8_bearing_98 : decode cX8_bearing 98 = .ok (.iadd, 1) := by decide +kernel
theorem dX8_bearing_99 : decode cX8_bearing 99 = .ok (.iload_n 3, 1) := by decide +kernel
theorem dX8_bearing_100 : decode cX8_bearing 100 = .ok (.iastore, 1) := by decide +kernel
theorem dX8_bearing_101 : decode cX8_bearing 101 = .ok (.aload_n 0, 1) := by decide +kernel
theorem dX8_bearing_102 : decode cX8_bearing 102 = .ok (.getfield 9, 3) := by decide +kernel
theorem dX8_bearing_105 : decode cX8_bearing 105 = .ok (.iconst 1, 1) := by decide +kernel
theorem dX8_bearing_106 : decode cX8_bearing 106 = .ok (.dup2, 1) := by decide +kernel
theorem dX8_bearing_107 : decode cX8_bearing 107 = .ok (.iaload, 1) := by decide +kernel
theorem dX8_bearing_108 : decode cX8_bearing 108 = .ok (.iconst 1, 1) := by decide +kernel
theorem dX8_bearing_109 : decode cX8_bearing 109 = .ok (.iadd, 1) := by decide +kernel
theorem dX8_bearing_110 : decode cX8_bearing 110 = .ok (.iastore, 1) := by decide +kernel
theorem dX8_bearing_111 : decode cX8_bearing 111 = .ok (.iload 4, 2) := by decide +kernel
theorem dX8_bearing_113 : decode cX8_bearing 113 = .ok (.iconst 1, 1) := by decide +kernel
theorem dX8_bearing_114 : decode cX8_bearing 114 = .ok (.iadd, 1) := by decide +kernel
theorem dX8_bearing_115 : decode cX8_bearing 115 = .ok (.ireturn, 1) := by decide +kernel
theorem dX8_clear_0 : decode cX8_clear 0 = .ok (.aload_n 0, 1) := by decide +kernel
theorem dX8_clear_1 : decode cX8_clear 1 = .ok (.invokevirtual 114, 3) := by decide +kernel
theorem dX8_clear_4 : decode cX8_clear 4 = .ok (.aload_n 0, 1) := by decide +kernel
theorem dX8_clear_5 : decode cX8_clear 5 = .ok (.getfield 9, 3) := by decide +kernel
theorem dX8_clear_8 : decode cX8_clear 8 = .ok (.iconst 1, 1) := by decide +kernel
theorem dX8_clear_9 : decode cX8_clear 9 = .ok (.iaload, 1) := by decide +kernel
theorem dX8_clear_10 : decode cX8_clear 10 = .ok (.istore_n 1, 1) := by decide +kernel
theorem dX8_clear_11 : decode cX8_clear 11 = .ok (.aload_n 0, 1) := by decide +kernel
theorem dX8_clear_12 : decode cX8_clear 12 = .ok (.getfield 9, 3) := by decide +kernel
theorem dX8_clear_15 : decode cX8_clear 15 = .ok (.iconst 1, 1) := by decide +kernel
theorem dX8_clear_16 : decode cX8_clear 16 = .ok (.iconst 0, 1) := by decide +kernel
theorem dX8_clear_17 : decode cX8_clear 17 = .ok (.iastore, 1) := by decide +kernel
theorem dX8_clear_18 : decode cX8_clear 18 = .ok (.iload_n 1, 1) := by decide +kernel
theorem dX8_clear_19 : decode cX8_clear 19 = .ok (.ireturn, 1) := by decide +kernel
theorem dX8_holds_0 : decode cX8_holds 0 = .ok (.aload_n 0, 1) := by decide +kernel
theorem dX8_holds_1 : decode cX8_holds 1 = .ok (.getfield 9, 3) := by decide +kernel
theorem dX8_holds_4 : decode cX8_holds 4 = .ok (.sipush 230, 3) := by decide +kernel
theorem dX8_holds_7 : decode cX8_holds 7 = .ok (.iconst 3, 1) := by decide +kernel
theorem dX8_holds_8 : decode cX8_holds 8 = .ok (.iload_n 1, 1) := by decide +kernel
theorem dX8_holds_9 : decode cX8_holds 9 = .ok (.imul, 1) := by decide +kernel
theorem dX8_holds_10 : decode cX8_holds 10 = .ok (.iadd, 1) := by decide +kernel
theorem dX8_holds_11 : decode cX8_holds 11 = .ok (.iaload, 1) := by decide +kernel
theorem dX8_holds_12 : decode cX8_holds 12 = .ok (.istore_n 3, 1) := by decide +kernel
theorem dX8_holds_13 : decode cX8_holds 13 = .ok (.aload_n 0, 1) := by decide +kernel
theorem dX8_holds_14 : decode cX8_holds 14 = .ok (.getfield 9, 3) := by decide +kernel
theorem dX8_holds_17 : decode cX8_holds 17 = .ok (.iload_n 3, 1) := by decide +kernel
theorem dX8_holds_18 : decode cX8_holds 18 = .ok (.bipush 7, 2) := by decide +kernel
theorem dX8_holds_20 : decode cX8_holds 20 = .ok (.invokestatic 45, 3) := by decide +kernel
theorem dX8_holds_23 : decode cX8_holds 23 = .ok (.iaload, 1) := by decide +kernel
theorem dX8_holds_24 : decode cX8_holds 24 = .ok (.istore 4, 2) := by decide +kernel
theorem dX8_holds_26 : decode cX8_holds 26 = .ok (.aload_n 0, 1) := by decide +kernel
theorem dX8_holds_27 : decode cX8_holds 27 = .ok (.getfield 9, 3) := by decide +kernel
theorem dX8_holds_30 : decode cX8_holds 30 = .ok (.iload_n 3, 1) := by decide +kernel
theorem dX8_holds_31 : decode cX8_holds 31 = .ok (.iconst 1, 1) := by decide +kernel
theorem dX8_holds_32 : decode cX8_holds 32 = .ok (.invokestatic 45, 3) := by decide +kernel
theorem dX8_holds_35 : decode cX8_holds 35 = .ok (.iaload, 1) := by decide +kernel
theorem dX8_holds_36 : decode cX8_holds 36 = .ok (.bipush 16, 2) := by decide +kernel
theorem dX8_holds_38 : decode cX8_holds 38 = .ok (.irem, 1) := by decide +kernel
theorem dX8_holds_39 : decode cX8_holds 39 = .ok (.istore 5, 2) := by decide +kernel
theorem dX8_holds_41 : decode cX8_holds 41 = .ok (.aload_n 0, 1) := by decide +kernel
theorem dX8_holds_42 : decode cX8_holds 42 = .ok (.getfield 9, 3) := by decide +kernel
theorem dX8_holds_45 : decode cX8_holds 45 = .ok (.iload_n 3, 1) := by decide +kernel
theorem dX8_holds_46 : decode cX8_holds 46 = .ok (.iconst 1, 1) := by decide +kernel
theorem dX8_holds_47 : decode cX8_holds 47 = .ok (.invokestatic 45, 3) := by decide +kernel
theorem dX8_holds_50 : decode cX8_holds 50 = .ok (.iaload, 1) := by decide +kernel
theorem dX8_holds_51 : decode cX8_holds 51 = .ok (.bipush 16, 2) := by decide +kernel
theorem dX8_holds_53 : decode cX8_holds 53 = .ok (.idiv, 1) := by decide +kernel
theorem dX8_holds_54 : decode cX8_holds 54 = .ok (.istore 6, 2) := by decide +kernel
theorem dX8_holds_56 : decode cX8_holds 56 = .ok (.iconst 0, 1) := by decide +kernel
theorem dX8_holds_57 : decode cX8_holds 57 = .ok (.iload 6, 2) := by decide +kernel
theorem dX8_holds_59 : decode cX8_holds 59 = .ok (.iload 4, 2) := by decide +kernel
theorem dX8_holds_61 : decode cX8_holds 61 = .ok (.isub, 1) := by decide +kernel
theorem dX8_holds_62 : decode cX8_holds 62 = .ok (.invokestatic 157, 3) := by decide +kernel
theorem dX8_holds_65 : decode cX8_holds 65 = .ok (.istore 7, 2) := by decide +kernel
theorem dX8_holds_67 : decode cX8_holds 67 = .ok (.iload 7, 2) := by decide +kernel
theorem dX8_holds_69 : decode cX8_holds 69 = .ok (.bipush 15, 2) := by decide +kernel
theorem dX8_holds_71 : decode cX8_holds 71 = .ok (.iload 6, 2) := by decide +kernel
theorem dX8_holds_73 : decode cX8_holds 73 = .ok (.iload 4, 2) := by decide +kernel
theorem dX8_holds_75 : decode cX8_holds 75 = .ok (.iadd, 1) := by decide +kernel
theorem dX8_holds_76 : decode cX8_holds 76 = .ok (.invokestatic 184, 3) := by decide +kernel
theorem dX8_holds_79 : decode cX8_holds 79 = .ok (.if_icmp .gt 110, 3) := by decide +kernel
theorem dX8_holds_82 : decode cX8_holds 82 = .ok (.iconst 0, 1) := by decide +kernel
theorem dX8_holds_83 : decode cX8_holds 83 = .ok (.iload 5, 2) := by decide +kernel
theorem dX8_holds_85 : decode cX8_holds 85 = .ok (.iload 4, 2) := by decide +kernel
theorem dX8_holds_87 : decode cX8_holds 87 = .ok (.isub, 1) := by decide +kernel
theorem dX8_holds_88 : decode cX8_holds 88 = .ok (.invokestatic 157, 3) := by decide +kernel
theorem dX8_holds_91 : decode cX8_holds 91 = .ok (.istore 8, 2) := by decide +kernel
theorem dX8_holds_93 : decode cX8_holds 93 = .ok (.iload 8, 2) := by decide +kernel
theorem dX8_holds_95 : decode cX8_holds 95 = .ok (.bipush 15, 2) := by decide +kernel
theorem dX8_holds_97 : decode cX8_holds 97 = .ok (.iload 5, 2) := by decide +kernel
theorem dX8_holds_99 : decode cX8_holds 99 = .ok (.iload 4, 2) := by decide +kernel
theorem dX8_holds_101 : decode cX8_holds 101 = .ok (.iadd, 1) := by decide +kernel
theorem dX8_holds_102 : decode cX8_holds 102 = .ok (.invokestatic 184, 3) := by decide +kernel
theorem dX8_holds_105 : decode cX8_holds 105 = .ok (.if_icmp .gt 78, 3) := by decide +kernel
theorem dX8_holds_108 : decode cX8_holds 108 = .ok (.bipush 16, 2) := by decide +kernel
theorem dX8_holds_110 : decode cX8_holds 110 = .ok (.iload 7, 2) := by decide +kernel
theorem dX8_holds_112 : decode cX8_holds 112 = .ok (.imul, 1) := by decide +kernel
theorem dX8_holds_113 : decode cX8_holds 113 = .ok (.iload 8, 2) := by decide +kernel
theorem dX8_holds_115 : decode cX8_holds 115 = .ok (.iadd, 1) := by decide +kernel
theorem dX8_holds_116 : decode cX8_holds 116 = .ok (.istore 9, 2) := by decide +kernel
theorem dX8_holds_118 : decode cX8_holds 118 = .ok (.aload_n 0, 1) := by decide +kernel
theorem dX8_holds_119 : decode cX8_holds 119 = .ok (.iload_n 3, 1) := by decide +kernel
theorem dX8_holds_120 : decode cX8_holds 120 = .ok (.iload_n 2, 1) := by decide +kernel
theorem dX8_holds_121 : decode cX8_holds 121 = .ok (.iload 9, 2) := by decide +kernel
theorem dX8_holds_123 : decode cX8_holds 123 = .ok (.invokevirtual 162, 3) := by decide +kernel
theorem dX8_holds_126 : decode cX8_holds 126 = .ok (.ifCond .eq 51, 3) := by decide +kernel
theorem dX8_holds_129 : decode cX8_holds 129 = .ok (.iload 9, 2) := by decide +kernel
theorem dX8_holds_131 : decode cX8_holds 131 = .ok (.iload_n 2, 1) := by decide +kernel
theorem dX8_holds_132 : decode cX8_holds 132 = .ok (.if_icmp .eq 43, 3) := by decide +kernel
theorem dX8_holds_135 : decode cX8_holds 135 = .ok (.iload_n 2, 1) := by decide +kernel
theorem dX8_holds_136 : decode cX8_holds 136 = .ok (.iload 9, 2) := by decide +kernel
theorem dX8_holds_138 : decode cX8_holds 138 = .ok (.invokestatic 148, 3) := by decide +kernel
theorem dX8_holds_141 : decode cX8_holds 141 = .ok (.aload_n 0, 1) := by decide +kernel
theorem dX8_holds_142 : decode cX8_holds 142 = .ok (.getfield 9, 3) := by decide +kernel
theorem dX8_holds_145 : decode cX8_holds 145 = .ok (.sipush 230, 3) := by decide +kernel
theorem dX8_holds_148 : decode cX8_holds 148 = .ok (.iconst 3, 1) := by decide +kernel
theorem dX8_holds_149 : decode cX8_holds 149 = .ok (.iload_n 1, 1) := by decide +kernel
theorem dX8_holds_150 : decode cX8_holds 150 = .ok (.imul, 1) := by decide +kernel
theorem dX8_holds_151 : decode cX8_holds 151 = .ok (.iadd, 1) := by decide +kernel
theorem dX8_holds_152 : decode cX8_holds 152 = .ok (.iconst 1, 1) := by decide +kernel
theorem dX8_holds_153 : decode cX8_holds 153 = .ok (.iadd, 1) := by decide +kernel
theorem dX8_holds_154 : decode cX8_holds 154 = .ok (.iaload, 1) := by decide +kernel
theorem dX8_holds_155 : decode cX8_holds 155 = .ok (.aload_n 0, 1) := by decide +kernel
theorem dX8_holds_156 : decode cX8_holds 156 = .ok (.getfield 9, 3) := by decide +kernel
theorem dX8_holds_159 : decode cX8_holds 159 = .ok (.sipush 230, 3) := by decide +kernel
theorem dX8_holds_162 : decode cX8_holds 162 = .ok (.iconst 3, 1) := by decide +kernel
theorem dX8_holds_163 : decode cX8_holds 163 = .ok (.iload_n 1, 1) := by decide +kernel
theorem dX8_holds_164 : decode cX8_holds 164 = .ok (.imul, 1) := by decide +kernel
theorem dX8_holds_165 : decode cX8_holds 165 = .ok (.iadd, 1) := by decide +kernel
theorem dX8_holds_166 : decode cX8_holds 166 = .ok (.iconst 2, 1) := by decide +kernel
theorem dX8_holds_167 : decode cX8_holds 167 = .ok (.iadd, 1) := by decide +kernel
theorem dX8_holds_168 : decode cX8_holds 168 = .ok (.iaload, 1) := by decide +kernel
theorem dX8_holds_169 : decode cX8_holds 169 = .ok (.invokestatic 151, 3) := by decide +kernel
theorem dX8_holds_172 : decode cX8_holds 172 = .ok (.ifCond .eq 5, 3) := by decide +kernel
theorem dX8_holds_175 : decode cX8_holds 175 = .ok (.iconst 1, 1) := by decide +kernel
theorem dX8_holds_176 : decode cX8_holds 176 = .ok (.ireturn, 1) := by decide +kernel
theorem dX8_holds_177 : decode cX8_holds 177 = .ok (.iinc 8 1, 3) := by decide +kernel
theorem dX8_holds_180 : decode cX8_holds 180 = .ok (.goto (-87), 3) := by decide +kernel
theorem dX8_holds_183 : decode cX8_holds 183 = .ok (.iinc 7 1, 3) := by decide +kernel
theorem dX8_holds_186 : decode cX8_holds 186 = .ok (.goto (-119), 3) := by decide +kernel
theorem dX8_holds_189 : decode cX8_holds 189 = .ok (.iconst 0, 1) := by decide +kernel
theorem dX8_holds_190 : decode cX8_holds 190 = .ok (.ireturn, 1) := by decide +kernel
theorem dX8_isInFix_0 : decode cX8_isInFix 0 = .ok (.iconst 1, 1) := by decide +kernel
theorem dX8_isInFix_1 : decode cX8_isInFix 1 = .ok (.istore_n 2, 1) := by decide +kernel
theorem dX8_isInFix_2 : decode cX8_isInFix 2 = .ok (.iconst 0, 1) := by decide +kernel
theorem dX8_isInFix_3 : decode cX8_isInFix 3 = .ok (.istore_n 3, 1) := by decide +kernel
theorem dX8_isInFix_4 : decode cX8_isInFix 4 = .ok (.iload_n 3, 1) := by decide +kernel
theorem dX8_isInFix_5 : decode cX8_isInFix 5 = .ok (.aload_n 0, 1) := by decide +kernel
theorem dX8_isInFix_6 : decode cX8_isInFix 6 = .ok (.getfield 9, 3) := by decide +kernel
theorem dX8_isInFix_9 : decode cX8_isInFix 9 = .ok (.iconst 1, 1) := by decide +kernel
theorem dX8_isInFix_10 : decode cX8_isInFix 10 = .ok (.iaload, 1) := by decide +kernel
theorem dX8_isInFix_11 : decode cX8_isInFix 11 = .ok (.if_icmp .ge 28, 3) := by decide +kernel
theorem dX8_isInFix_14 : decode cX8_isInFix 14 = .ok (.iload_n 2, 1) := by decide +kernel
theorem dX8_isInFix_15 : decode cX8_isInFix 15 = .ok (.ifCond .eq 16, 3) := by decide +kernel
theorem dX8_isInFix_18 : decode cX8_isInFix 18 = .ok (.aload_n 0, 1) := by decide +kernel
theorem dX8_isInFix_19 : decode cX8_isInFix 19 = .ok (.iload_n 3, 1) := by decide +kernel
theorem dX8_isInFix_20 : decode cX8_isInFix 20 = .ok (.iload_n 1, 1) := by decide +kernel
theorem dX8_isInFix_21 : decode cX8_isInFix 21 = .ok (.invokevirtual 187, 3) := by decide +kernel
theorem dX8_isInFix_24 : decode cX8_isInFix 24 = .ok (.ifCond .eq 7, 3) := by decide +kernel
theorem dX8_isInFix_27 : decode cX8_isInFix 27 = .ok (.iconst 1, 1) := by decide +kernel
theorem dX8_isInFix_28 : decode cX8_isInFix 28 = .ok (.goto 4, 3) := by decide +kernel
theorem dX8_isInFix_31 : decode cX8_isInFix 31 = .ok (.iconst 0, 1) := by decide +kernel
theorem dX8_isInFix_32 : decode cX8_isInFix 32 = .ok (.istore_n 2, 1) := by decide +kernel
theorem dX8_isInFix_33 : decode cX8_isInFix 33 = .ok (.iinc 3 1, 3) := by decide +kernel
theorem dX8_isInFix_36 : decode cX8_isInFix 36 = .ok (.goto (-32), 3) := by decide +kernel
theorem dX8_isInFix_39 : decode cX8_isInFix 39 = .ok (.iload_n 2, 1) := by decide +kernel
theorem dX8_isInFix_40 : decode cX8_isInFix 40 = .ok (.ireturn, 1) := by decide +kernel
theorem dX8_fix_0 : decode cX8_fix 0 = .ok (.iconst 0, 1) := by decide +kernel
theorem dX8_fix_1 : decode cX8_fix 1 = .ok (.istore_n 2, 1) := by decide +kernel
theorem dX8_fix_2 : decode cX8_fix 2 = .ok (.iconst 0, 1) := by decide +kernel
theorem dX8_fix_3 : decode cX8_fix 3 = .ok (.istore_n 3, 1) := by decide +kernel
theorem dX8_fix_4 : decode cX8_fix 4 = .ok (.iload_n 3, 1) := by decide +kernel
theorem dX8_fix_5 : decode cX8_fix 5 = .ok (.sipush 256, 3) := by decide +kernel
theorem dX8_fix_8 : decode cX8_fix 8 = .ok (.if_icmp .ge 40, 3) := by decide +kernel
theorem dX8_fix_11 : decode cX8_fix 11 = .ok (.aload_n 0, 1) := by decide +kernel
theorem dX8_fix_12 : decode cX8_fix 12 = .ok (.iload_n 3, 1) := by decide +kernel
theorem dX8_fix_13 : decode cX8_fix 13 = .ok (.invokevirtual 190, 3) := by decide +kernel
theorem dX8_fix_16 : decode cX8_fix 16 = .ok (.istore 4, 2) := by decide +kernel
theorem dX8_fix_18 : decode cX8_fix 18 = .ok (.iload 4, 2) := by decide +kernel
theorem dX8_fix_20 : decode cX8_fix 20 = .ok (.ifCond .eq 9, 3) := by decide +kernel
theorem dX8_fix_23 : decode cX8_fix 23 = .ok (.iload_n 1, 1) := by decide +kernel
theorem dX8_fix_24 : decode cX8_fix 24 = .ok (.ifCond .eq 5, 3) := by decide +kernel
theorem dX8_fix_27 : decode cX8_fix 27 = .ok (.iload_n 3, 1) := by decide +kernel
theorem dX8_fix_28 : decode cX8_fix 28 = .ok (.ireturn, 1) := by decide +kernel
theorem dX8_fix_29 : decode cX8_fix 29 = .ok (.iload_n 2, 1) := by decide +kernel
theorem dX8_fix_30 : decode cX8_fix 30 = .ok (.iload 4, 2) := by decide +kernel
theorem dX8_fix_32 : decode cX8_fix 32 = .ok (.ifCond .eq 7, 3) := by decide +kernel
theorem dX8_fix_35 : decode cX8_fix 35 = .ok (.iconst 1, 1) := by decide +kernel
theorem dX8_fix_36 : decode cX8_fix 36 = .ok (.goto 4, 3) := by decide +kernel
theorem dX8_fix_39 : decode cX8_fix 39 = .ok (.iconst 0, 1) := by decide +kernel
theorem dX8_fix_40 : decode cX8_fix 40 = .ok (.iadd, 1) := by decide +kernel
theorem dX8_fix_41 : decode cX8_fix 41 = .ok (.istore_n 2, 1) := by decide +kernel
theorem dX8_fix_42 : decode cX8_fix 42 = .ok (.iinc 3 1, 3) := by decide +kernel
theorem dX8_fix_45 : decode cX8_fix 45 = .ok (.goto (-41), 3) := by decide +kernel
theorem dX8_fix_48 : decode cX8_fix 48 = .ok (.iload_n 1, 1) := by decide +kernel
theorem dX8_fix_49 : decode cX8_fix 49 = .ok (.ifCond .eq 12, 3) := by decide +kernel
theorem dX8_fix_52 : decode cX8_fix 52 = .ok (.aload_n 0, 1) := by decide +kernel
theorem dX8_fix_53 : decode cX8_fix 53 = .ok (.ldc 52, 2) := by decide +kernel
theorem dX8_fix_55 : decode cX8_fix 55 = .ok (.invokevirtual 53, 3) := by decide +kernel
theorem dX8_fix_58 : decode cX8_fix 58 = .ok (.goto 4, 3) := by decide +kernel
theorem dX8_fix_61 : decode cX8_fix 61 = .ok (.iload_n 2, 1) := by decide +kernel
theorem dX8_fix_62 : decode cX8_fix 62 = .ok (.ireturn, 1) := by decide +kernel
theorem dX8_may_0 : decode cX8_may 0 = .ok (.iload_n 1, 1) := by decide +kernel
theorem dX8_may_1 : decode cX8_may 1 = .ok (.invokestatic 108, 3) := by decide +kernel
theorem dX8_may_4 : decode cX8_may 4 = .ok (.ifCond .ne 12, 3) := by decide +kernel
theorem dX8_may_7 : decode cX8_may 7 = .ok (.aload_n 0, 1) := by decide +kernel
theorem dX8_may_8 : decode cX8_may 8 = .ok (.ldc 57, 2) := by decide +kernel
theorem dX8_may_10 : decode cX8_may 10 = .ok (.invokevirtual 53, 3) := by decide +kernel
theorem dX8_may_13 : decode cX8_may 13 = .ok (.goto 16, 3) := by decide +kernel
theorem dX8_may_16 : decode cX8_may 16 = .ok (.aload_n 0, 1) := by decide +kernel
theorem dX8_may_17 : decode cX8_may 17 = .ok (.iload_n 1, 1) := by decide +kernel
theorem dX8_may_18 : decode cX8_may 18 = .ok (.invokevirtual 190, 3) := by decide +kernel
theorem dX8_may_21 : decode cX8_may 21 = .ok (.ifCond .eq 7, 3) := by decide +kernel
theorem dX8_may_24 : decode cX8_may 24 = .ok (.iconst 1, 1) := by decide +kernel
theorem dX8_may_25 : decode cX8_may 25 = .ok (.goto 4, 3) := by decide +kernel
theorem dX8_may_28 : decode cX8_may 28 = .ok (.iconst 0, 1) := by decide +kernel
theorem dX8_may_29 : decode cX8_may 29 = .ok (.ireturn, 1) := by decide +kernel
theorem dX8_fairway_0 : decode cX8_fairway 0 = .ok (.iload_n 1, 1) := by decide +kernel
theorem dX8_fairway_1 : decode cX8_fairway 1 = .ok (.invokestatic 108, 3) := by decide +kernel
theorem dX8_fairway_4 : decode cX8_fairway 4 = .ok (.ifCond .ne 10, 3) := by decide +kernel
theorem dX8_fairway_7 : decode cX8_fairway 7 = .ok (.aload_n 0, 1) := by decide +kernel
theorem dX8_fairway_8 : decode cX8_fairway 8 = .ok (.ldc 57, 2) := by decide +kernel
theorem dX8_fairway_10 : decode cX8_fairway 10 = .ok (.invokevirtual 53, 3) := by decide +kernel
theorem dX8_fairway_13 : decode cX8_fairway 13 = .ok (.ireturn, 1) := by decide +kernel
theorem dX8_fairway_14 : decode cX8_fairway 14 = .ok (.aload_n 0, 1) := by decide +kernel
theorem dX8_fairway_15 : decode cX8_fairway 15 = .ok (.getfield 9, 3) := by decide +kernel
theorem dX8_fairway_18 : decode cX8_fairway 18 = .ok (.iconst 2, 1) := by decide +kernel
theorem dX8_fairway_19 : decode cX8_fairway 19 = .ok (.iaload, 1) := by decide +kernel
theorem dX8_fairway_20 : decode cX8_fairway 20 = .ok (.istore_n 3, 1) := by decide +kernel
theorem dX8_fairway_21 : decode cX8_fairway 21 = .ok (.iconst 0, 1) := by decide +kernel
theorem dX8_fairway_22 : decode cX8_fairway 22 = .ok (.istore 4, 2) := by decide +kernel
theorem dX8_fairway_24 : decode cX8_fairway 24 = .ok (.iload 4, 2) := by decide +kernel
theorem dX8_fairway_26 : decode cX8_fairway 26 = .ok (.iload_n 3, 1) := by decide +kernel
theorem dX8_fairway_27 : decode cX8_fairway 27 = .ok (.if_icmp .ge 24, 3) := by decide +kernel
theorem dX8_fairway_30 : decode cX8_fairway 30 = .ok (.aload_n 0, 1) := by decide +kernel
theorem dX8_fairway_31 : decode cX8_fairway 31 = .ok (.getfield 9, 3) := by decide +kernel
theorem dX8_fairway_34 : decode cX8_fairway 34 = .ok (.sipush 254, 3) := by decide +kernel
theorem dX8_fairway_37 : decode cX8_fairway 37 = .ok (.iload 4, 2) := by decide +kernel
theorem dX8_fairway_39 : decode cX8_fairway 39 = .ok (.iadd, 1) := by decide +kernel
theorem dX8_fairway_40 : decode cX8_fairway 40 = .ok (.iaload, 1) := by decide +kernel
theorem dX8_fairway_41 : decode cX8_fairway 41 = .ok (.iload_n 1, 1) := by decide +kernel
theorem dX8_fairway_42 : decode cX8_fairway 42 = .ok (.if_icmp .eq 9, 3) := by decide +kernel
theorem dX8_fairway_45 : decode cX8_fairway 45 = .ok (.iinc 4 1, 3) := by decide +kernel
theorem dX8_fairway_48 : decode cX8_fairway 48 = .ok (.goto (-24), 3) := by decide +kernel
theorem dX8_fairway_51 : decode cX8_fairway 51 = .ok (.iload_n 2, 1) := by decide +kernel
theorem dX8_fairway_52 : decode cX8_fairway 52 = .ok (.ifCond .eq 22, 3) := by decide +kernel
theorem dX8_fairway_55 : decode cX8_fairway 55 = .ok (.iload 4, 2) := by decide +kernel
theorem dX8_fairway_57 : decode cX8_fairway 57 = .ok (.iload_n 3, 1) := by decide +kernel
theorem dX8_fairway_58 : decode cX8_fairway 58 = .ok (.if_icmp .ne 16, 3) := by decide +kernel
theorem dX8_fairway_61 : decode cX8_fairway 61 = .ok (.iload_n 3, 1) := by decide +kernel
theorem dX8_fairway_62 : decode cX8_fairway 62 = .ok (.bipush 12, 2) := by decide +kernel
theorem dX8_fairway_64 : decode cX8_fairway 64 = .ok (.if_icmp .ne 10, 3) := by decide +kernel
theorem dX8_fairway_67 : decode cX8_fairway 67 = .ok (.aload_n 0, 1) := by decide +kernel
theorem dX8_fairway_68 : decode cX8_fairway 68 = .ok (.ldc 61, 2) := by decide +kernel
theorem dX8_fairway_70 : decode cX8_fairway 70 = .ok (.invokevirtual 53, 3) := by decide +kernel
theorem dX8_fairway_73 : decode cX8_fairway 73 = .ok (.ireturn, 1) := by decide +kernel
theorem dX8_fairway_74 : decode cX8_fairway 74 = .ok (.aload_n 0, 1) := by decide +kernel
theorem dX8_fairway_75 : decode cX8_fairway 75 = .ok (.invokevirtual 114, 3) := by decide +kernel
theorem dX8_fairway_78 : decode cX8_fairway 78 = .ok (.iload_n 2, 1) := by decide +kernel
theorem dX8_fairway_79 : decode cX8_fairway 79 = .ok (.ifCond .eq 33, 3) := by decide +kernel
theorem dX8_fairway_82 : decode cX8_fairway 82 = .ok (.iload 4, 2) := by decide +kernel
theorem dX8_fairway_84 : decode cX8_fairway 84 = .ok (.iload_n 3, 1) := by decide +kernel
theorem dX8_fairway_85 : decode cX8_fairway 85 = .ok (.if_icmp .ne 27, 3) := by decide +kernel
theorem dX8_fairway_88 : decode cX8_fairway 88 = .ok (.aload_n 0, 1) := by decide +kernel
theorem dX8_fairway_89 : decode cX8_fairway 89 = .ok (.getfield 9, 3) := by decide +kernel
theorem dX8_fairway_92 : decode cX8_fairway 92 = .ok (.sipush 254, 3) := by decide +kernel
theorem dX8_fairway_95 : decode cX8_fairway 95 = .ok (.iload_n 3, 1) := by decide +kernel
theorem dX8_fairway_96 : decode cX8_fairway 96 = .ok (.iadd, 1) := by decide +kernel
theorem dX8_fairway_97 : decode cX8_fairway 97 = .ok (.iload_n 1, 1) := by decide +kernel
theorem dX8_fairway_98 : decode cX8_fairway 98 = .ok (.iastore, 1) := by decide +kernel
theorem dX8_fairway_99 : decode cX8_fairway 99 = .ok (.aload_n 0, 1) := by decide +kernel
theorem dX8_fairway_100 : decode cX8_fairway 100 = .ok (.getfield 9, 3) := by decide +kernel
theorem dX8_fairway_103 : decode cX8_fairway 103 = .ok (.iconst 2, 1) := by decide +kernel
theorem dX8_fairway_104 : decode cX8_fairway 104 = .ok (.dup2, 1) := by decide +kernel
theorem dX8_fairway_105 : decode cX8_fairway 105 = .ok (.iaload, 1) := by decide +kernel
theorem dX8_fairway_106 : decode cX8_fairway 106 = .ok (.iconst 1, 1) := by decide +kernel
theorem dX8_fairway_107 : decode cX8_fairway 107 = .ok (.iadd, 1) := by decide +kernel
theorem dX8_fairway_108 : decode cX8_fairway 108 = .ok (.iastore, 1) := by decide +kernel
theorem dX8_fairway_109 : decode cX8_fairway 109 = .ok (.goto 46, 3) := by decide +kernel
theorem dX8_fairway_112 : decode cX8_fairway 112 = .ok (.iload_n 2, 1) := by decide +kernel
theorem dX8_fairway_113 : decode cX8_fairway 113 = .ok (.ifCond .ne 42, 3) := by decide +kernel
theorem dX8_fairway_116 : decode cX8_fairway 116 = .ok (.iload 4, 2) := by decide +kernel
theorem dX8_fairway_118 : decode cX8_fairway 118 = .ok (.iload_n 3, 1) := by decide +kernel
theorem dX8_fairway_119 : decode cX8_fairway 119 = .ok (.if_icmp .ge 36, 3) := by decide +kernel
theorem dX8_fairway_122 : decode cX8_fairway 122 = .ok (.aload_n 0, 1) := by decide +kernel
theorem dX8_fairway_123 : decode cX8_fairway 123 = .ok (.getfield 9, 3) := by decide +kernel
theorem dX8_fairway_126 : decode cX8_fairway 126 = .ok (.sipush 254, 3) := by decide +kernel
theorem dX8_fairway_129 : decode cX8_fairway 129 = .ok (.iload 4, 2) := by decide +kernel
theorem dX8_fairway_131 : decode cX8_fairway 131 = .ok (.iadd, 1) := by decide +kernel
theorem dX8_fairway_132 : decode cX8_fairway 132 = .ok (.aload_n 0, 1) := by decide +kernel
theorem dX8_fairway_133 : decode cX8_fairway 133 = .ok (.getfield 9, 3) := by decide +kernel
theorem dX8_fairway_136 : decode cX8_fairway 136 = .ok (.sipush 254, 3) := by decide +kernel
theorem dX8_fairway_139 : decode cX8_fairway 139 = .ok (.iload_n 3, 1) := by decide +kernel
theorem dX8_fairway_140 : decode cX8_fairway 140 = .ok (.iadd, 1) := by decide +kernel
theorem dX8_fairway_141 : decode cX8_fairway 141 = .ok (.iconst 1, 1) := by decide +kernel
theorem dX8_fairway_142 : decode cX8_fairway 142 = .ok (.isub, 1) := by decide +kernel
theorem dX8_fairway_143 : decode cX8_fairway 143 = .ok (.iaload, 1) := by decide +kernel
theorem dX8_fairway_144 : decode cX8_fairway 144 = .ok (.iastore, 1) := by decide +kernel
theorem dX8_fairway_145 : decode cX8_fairway 145 = .ok (.aload_n 0, 1) := by decide +kernel
theorem dX8_fairway_146 : decode cX8_fairway 146 = .ok (.getfield 9, 3) := by decide +kernel
theorem dX8_fairway_149 : decode cX8_fairway 149 = .ok (.iconst 2, 1) := by decide +kernel
theorem dX8_fairway_150 : decode cX8_fairway 150 = .ok (.dup2, 1) := by decide +kernel
theorem dX8_fairway_151 : decode cX8_fairway 151 = .ok (.iaload, 1) := by decide +kernel
theorem dX8_fairway_152 : decode cX8_fairway 152 = .ok (.iconst 1, 1) := by decide +kernel
theorem dX8_fairway_153 : decode cX8_fairway 153 = .ok (.isub, 1) := by decide +kernel
theorem dX8_fairway_154 : decode cX8_fairway 154 = .ok (.iastore, 1) := by decide +kernel
theorem dX8_fairway_155 : decode cX8_fairway 155 = .ok (.aload_n 0, 1) := by decide +kernel
theorem dX8_fairway_156 : decode cX8_fairway 156 = .ok (.getfield 9, 3) := by decide +kernel
theorem dX8_fairway_159 : decode cX8_fairway 159 = .ok (.iconst 2, 1) := by decide +kernel
theorem dX8_fairway_160 : decode cX8_fairway 160 = .ok (.iaload, 1) := by decide +kernel
theorem dX8_fairway_161 : decode cX8_fairway 161 = .ok (.ireturn, 1) := by decide +kernel
theorem dX8_kept_0 : decode cX8_kept 0 = .ok (.iconst 0, 1) := by decide +kernel
theorem dX8_kept_1 : decode cX8_kept 1 = .ok (.istore_n 1, 1) := by decide +kernel
theorem dX8_kept_2 : decode cX8_kept 2 = .ok (.iload_n 1, 1) := by decide +kernel
theorem dX8_kept_3 : decode cX8_kept 3 = .ok (.aload_n 0, 1) := by decide +kernel
theorem dX8_kept_4 : decode cX8_kept 4 = .ok (.getfield 9, 3) := by decide +kernel
theorem dX8_kept_7 : decode cX8_kept 7 = .ok (.iconst 2, 1) := by decide +kernel
theorem dX8_kept_8 : decode cX8_kept 8 = .ok (.iaload, 1) := by decide +kernel
theorem dX8_kept_9 : decode cX8_kept 9 = .ok (.if_icmp .ge 29, 3) := by decide +kernel
theorem dX8_kept_12 : decode cX8_kept 12 = .ok (.aload_n 0, 1) := by decide +kernel
theorem dX8_kept_13 : decode cX8_kept 13 = .ok (.getfield 28, 3) := by decide +kernel
theorem dX8_kept_16 : decode cX8_kept 16 = .ok (.iload_n 1, 1) := by decide +kernel
theorem dX8_kept_17 : decode cX8_kept 17 = .ok (.aload_n 0, 1) := by decide +kernel
theorem dX8_kept_18 : decode cX8_kept 18 = .ok (.aload_n 0, 1) := by decide +kernel
theorem dX8_kept_19 : decode cX8_kept 19 = .ok (.getfield 9, 3) := by decide +kernel
theorem dX8_kept_22 : decode cX8_kept 22 = .ok (.sipush 254, 3) := by decide +kernel
theorem dX8_kept_25 : decode cX8_kept 25 = .ok (.iload_n 1, 1) := by decide +kernel
theorem dX8_kept_26 : decode cX8_kept 26 = .ok (.iadd, 1) := by decide +kernel
theorem dX8_kept_27 : decode cX8_kept 27 = .ok (.iaload, 1) := by decide +kernel
theorem dX8_kept_28 : decode cX8_kept 28 = .ok (.invokevirtual 168, 3) := by decide +kernel
theorem dX8_kept_31 : decode cX8_kept 31 = .ok (.iastore, 1) := by decide +kernel
theorem dX8_kept_32 : decode cX8_kept 32 = .ok (.iinc 1 1, 3) := by decide +kernel
theorem dX8_kept_35 : decode cX8_kept 35 = .ok (.goto (-33), 3) := by decide +kernel
theorem dX8_kept_38 : decode cX8_kept 38 = .ok (.iconst (-1), 1) := by decide +kernel
theorem dX8_kept_39 : decode cX8_kept 39 = .ok (.istore_n 1, 1) := by decide +kernel
theorem dX8_kept_40 : decode cX8_kept 40 = .ok (.iconst 0, 1) := by decide +kernel
theorem dX8_kept_41 : decode cX8_kept 41 = .ok (.istore_n 2, 1) := by decide +kernel
theorem dX8_kept_42 : decode cX8_kept 42 = .ok (.iload_n 2, 1) := by decide +kernel
theorem dX8_kept_43 : decode cX8_kept 43 = .ok (.iconst 1, 1) := by decide +kernel
theorem dX8_kept_44 : decode cX8_kept 44 = .ok (.aload_n 0, 1) := by decide +kernel
theorem dX8_kept_45 : decode cX8_kept 45 = .ok (.getfield 9, 3) := by decide +kernel
theorem dX8_kept_48 : decode cX8_kept 48 = .ok (.iconst 0, 1) := by decide +kernel
theorem dX8_kept_49 : decode cX8_kept 49 = .ok (.iaload, 1) := by decide +kernel
theorem dX8_kept_50 : decode cX8_kept 50 = .ok (.ishl, 1) := by decide +kernel
theorem dX8_kept_51 : decode cX8_kept 51 = .ok (.if_icmp .ge 86, 3) := by decide +kernel
theorem dX8_kept_54 : decode cX8_kept 54 = .ok (.iload_n 1, 1) := by decide +kernel
theorem dX8_kept_55 : decode cX8_kept 55 = .ok (.ifCond .lt 14, 3) := by decide +kernel
theorem dX8_kept_58 : decode cX8_kept 58 = .ok (.iload_n 2, 1) := by decide +kernel
theorem dX8_kept_59 : decode cX8_kept 59 = .ok (.invokestatic 124, 3) := by decide +kernel
theorem dX8_kept_62 : decode cX8_kept 62 = .ok (.iload_n 1, 1) := by decide +kernel
theorem dX8_kept_63 : decode cX8_kept 63 = .ok (.invokestatic 124, 3) := by decide +kernel
theorem dX8_kept_66 : decode cX8_kept 66 = .ok (.if_icmp .ge 7, 3) := by decide +kernel
theorem dX8_kept_69 : decode cX8_kept 69 = .ok (.iconst 1, 1) := by decide +kernel
theorem dX8_kept_70 : decode cX8_kept 70 = .ok (.goto 4, 3) := by decide +kernel
theorem dX8_kept_73 : decode cX8_kept 73 = .ok (.iconst 0, 1) := by decide +kernel
theorem dX8_kept_74 : decode cX8_kept 74 = .ok (.istore_n 3, 1) := by decide +kernel
theorem dX8_kept_75 : decode cX8_kept 75 = .ok (.iconst 0, 1) := by decide +kernel
theorem dX8_kept_76 : decode cX8_kept 76 = .ok (.istore 4, 2) := by decide +kernel
theorem dX8_kept_78 : decode cX8_kept 78 = .ok (.iload 4, 2) := by decide +kernel
theorem dX8_kept_80 : decode cX8_kept 80 = .ok (.aload_n 0, 1) := by decide +kernel
theorem dX8_kept_81 : decode cX8_kept 81 = .ok (.getfield 9, 3) := by decide +kernel
theorem dX8_kept_84 : decode cX8_kept 84 = .ok (.iconst 2, 1) := by decide +kernel
theorem dX8_kept_85 : decode cX8_kept 85 = .ok (.iaload, 1) := by decide +kernel
theorem dX8_kept_86 : decode cX8_kept 86 = .ok (.if_icmp .ge 35, 3) := by decide +kernel
theorem dX8_kept_89 : decode cX8_kept 89 = .ok (.iload_n 3, 1) := by decide +kernel
theorem dX8_kept_90 : decode cX8_kept 90 = .ok (.ifCond .eq 23, 3) := by decide +kernel
theorem dX8_kept_93 : decode cX8_kept 93 = .ok (.iload_n 2, 1) := by decide +kernel
theorem dX8_kept_94 : decode cX8_kept 94 = .ok (.aload_n 0, 1) := by decide +kernel
theorem dX8_kept_95 : decode cX8_kept 95 = .ok (.getfield 28, 3) := by decide +kernel
theorem dX8_kept_98 : decode cX8_kept 98 = .ok (.iload 4, 2) := by decide +kernel
theorem dX8_kept_100 : decode cX8_kept 100 = .ok (.iaload, 1) := by decide +kernel
theorem dX8_kept_101 : decode cX8_kept 101 = .ok (.iand, 1) := by decide +kernel
theorem dX8_kept_102 : decode cX8_kept 102 = .ok (.invokestatic 124, 3) := by decide +kernel
theorem dX8_kept_105 : decode cX8_kept 105 = .ok (.iconst 2, 1) := by decide +kernel
theorem dX8_kept_106 : decode cX8_kept 106 = .ok (.if_icmp .lt 7, 3) := by decide +kernel
theorem dX8_kept_109 : decode cX8_kept 109 = .ok (.iconst 1, 1) := by decide +kernel
theorem dX8_kept_110 : decode cX8_kept 110 = .ok (.goto 4, 3) := by decide +kernel
theorem dX8_kept_113 : decode cX8_kept 113 = .ok (.iconst 0, 1) := by decide +kernel
theorem dX8_kept_114 : decode cX8_kept 114 = .ok (.istore_n 3, 1) := by decide +kernel
theorem dX8_kept_115 : decode cX8_kept 115 = .ok (.iinc 4 1, 3) := by decide +kernel
theorem dX8_kept_118 : decode cX8_kept 118 = .ok (.goto (-40), 3) := by decide +kernel
theorem dX8_kept_121 : decode cX8_kept 121 = .ok (.iload_n 3, 1) := by decide +kernel
theorem dX8_kept_122 : decode cX8_kept 122 = .ok (.ifCond .eq 7, 3) := by decide +kernel
theorem dX8_kept_125 : decode cX8_kept 125 = .ok (.iload_n 2, 1) := by decide +kernel
theorem dX8_kept_126 : decode cX8_kept 126 = .ok (.goto 4, 3) := by decide +kernel
theorem dX8_kept_129 : decode cX8_kept 129 = .ok (.iload_n 1, 1) := by decide +kernel
theorem dX8_kept_130 : decode cX8_kept 130 = .ok (.istore_n 1, 1) := by decide +kernel
theorem dX8_kept_131 : decode cX8_kept 131 = .ok (.iinc 2 1, 3) := by decide +kernel
theorem dX8_kept_134 : decode cX8_kept 134 = .ok (.goto (-92), 3) := by decide +kernel
theorem dX8_kept_137 : decode cX8_kept 137 = .ok (.iload_n 1, 1) := by decide +kernel
theorem dX8_kept_138 : decode cX8_kept 138 = .ok (.ifCond .ge 12, 3) := by decide +kernel
theorem dX8_kept_141 : decode cX8_kept 141 = .ok (.aload_n 0, 1) := by decide +kernel
theorem dX8_kept_142 : decode cX8_kept 142 = .ok (.ldc 52, 2) := by decide +kernel
theorem dX8_kept_144 : decode cX8_kept 144 = .ok (.invokevirtual 53, 3) := by decide +kernel
theorem dX8_kept_147 : decode cX8_kept 147 = .ok (.goto 4, 3) := by decide +kernel
theorem dX8_kept_150 : decode cX8_kept 150 = .ok (.iload_n 1, 1) := by decide +kernel
theorem dX8_kept_151 : decode cX8_kept 151 = .ok (.ireturn, 1) := by decide +kernel
theorem dX8_word_0 : decode cX8_word 0 = .ok (.aload_n 0, 1) := by decide +kernel
theorem dX8_word_1 : decode cX8_word 1 = .ok (.iload_n 1, 1) := by decide +kernel
theorem dX8_word_2 : decode cX8_word 2 = .ok (.invokevirtual 120, 3) := by decide +kernel
theorem dX8_word_5 : decode cX8_word 5 = .ok (.ifCond .eq 25, 3) := by decide +kernel
theorem dX8_word_8 : decode cX8_word 8 = .ok (.iload_n 2, 1) := by decide +kernel
theorem dX8_word_9 : decode cX8_word 9 = .ok (.iconst 0, 1) := by decide +kernel
theorem dX8_word_10 : decode cX8_word 10 = .ok (.sipush 9999, 3) := by decide +kernel
theorem dX8_word_13 : decode cX8_word 13 = .ok (.invokestatic 41, 3) := by decide +kernel
theorem dX8_word_16 : decode cX8_word 16 = .ok (.ifCond .eq 14, 3) := by decide +kernel
theorem dX8_word_19 : decode cX8_word 19 = .ok (.iload_n 3, 1) := by decide +kernel
theorem dX8_word_20 : decode cX8_word 20 = .ok (.iconst 0, 1) := by decide +kernel
theorem dX8_word_21 : decode cX8_word 21 = .ok (.sipush 999, 3) := by decide +kernel
theorem dX8_word_24 : decode cX8_word 24 = .ok (.invokestatic 41, 3) := by decide +kernel
theorem dX8_word_27 : decode cX8_word 27 = .ok (.ifCond .ne 10, 3) := by decide +kernel
theorem dX8_word_30 : decode cX8_word 30 = .ok (.aload_n 0, 1) := by decide +kernel
theorem dX8_word_31 : decode cX8_word 31 = .ok (.ldc 57, 2) := by decide +kernel
theorem dX8_word_33 : decode cX8_word 33 = .ok (.invokevirtual 53, 3) := by decide +kernel
theorem dX8_word_36 : decode cX8_word 36 = .ok (.ireturn, 1) := by decide +kernel
theorem dX8_word_37 : decode cX8_word 37 = .ok (.aload_n 0, 1) := by decide +kernel
theorem dX8_word_38 : decode cX8_word 38 = .ok (.getfield 9, 3) := by decide +kernel
theorem dX8_word_41 : decode cX8_word 41 = .ok (.iconst 3, 1) := by decide +kernel
theorem dX8_word_42 : decode cX8_word 42 = .ok (.iaload, 1) := by decide +kernel
theorem dX8_word_43 : decode cX8_word 43 = .ok (.istore 5, 2) := by decide +kernel
theorem dX8_word_45 : decode cX8_word 45 = .ok (.iload_n 2, 1) := by decide +kernel
theorem dX8_word_46 : decode cX8_word 46 = .ok (.bipush 100, 2) := by decide +kernel
theorem dX8_word_48 : decode cX8_word 48 = .ok (.idiv, 1) := by decide +kernel
theorem dX8_word_49 : decode cX8_word 49 = .ok (.iload_n 2, 1) := by decide +kernel
theorem dX8_word_50 : decode cX8_word 50 = .ok (.bipush 100, 2) := by decide +kernel
theorem dX8_word_52 : decode cX8_word 52 = .ok (.irem, 1) := by decide +kernel
theorem dX8_word_53 : decode cX8_word 53 = .ok (.if_icmp .gt 27, 3) := by decide +kernel
theorem dX8_word_56 : decode cX8_word 56 = .ok (.iload 5, 2) := by decide +kernel
theorem dX8_word_58 : decode cX8_word 58 = .ok (.ifCond .le 29, 3) := by decide +kernel
theorem dX8_word_61 : decode cX8_word 61 = .ok (.iload_n 3, 1) := by decide +kernel
theorem dX8_word_62 : decode cX8_word 62 = .ok (.aload_n 0, 1) := by decide +kernel
theorem dX8_word_63 : decode cX8_word 63 = .ok (.getfield 9, 3) := by decide +kernel
theorem dX8_word_66 : decode cX8_word 66 = .ok (.sipush 266, 3) := by decide +kernel
theorem dX8_word_69 : decode cX8_word 69 = .ok (.iconst 5, 1) := by decide +kernel
theorem dX8_word_70 : decode cX8_word 70 = .ok (.iload 5, 2) := by decide +kernel
theorem dX8_word_72 : decode cX8_word 72 = .ok (.imul, 1) := by decide +kernel
theorem dX8_word_73 : decode cX8_word 73 = .ok (.iadd, 1) := by decide +kernel
theorem dX8_word_74 : decode cX8_word 74 = .ok (.iconst 2, 1) := by decide +kernel
theorem dX8_word_75 : decode cX8_word 75 = .ok (.isub, 1) := by decide +kernel
theorem dX8_word_76 : decode cX8_word 76 = .ok (.iaload, 1) := by decide +kernel
theorem dX8_word_77 : decode cX8_word 77 = .ok (.if_icmp .ge 10, 3) := by decide +kernel
theorem dX8_word_80 : decode cX8_word 80 = .ok (.aload_n 0, 1) := by decide +kernel
theorem dX8_word_81 : decode cX8_word 81 = .ok (.ldc 147, 2) := by decide +kernel
theorem dX8_word_83 : decode cX8_word 83 = .ok (.invokevirtual 53, 3) := by decide +kernel
theorem dX8_word_86 : decode cX8_word 86 = .ok (.ireturn, 1) := by decide +kernel
theorem dX8_word_87 : decode cX8_word 87 = .ok (.iload 5, 2) := by decide +kernel
theorem dX8_word_89 : decode cX8_word 89 = .ok (.bipush 20, 2) := by decide +kernel
theorem dX8_word_91 : decode cX8_word 91 = .ok (.if_icmp .ne 10, 3) := by decide +kernel
theorem dX8_word_94 : decode cX8_word 94 = .ok (.aload_n 0, 1) := by decide +kernel
theorem dX8_word_95 : decode cX8_word 95 = .ok (.ldc 61, 2) := by decide +kernel
theorem dX8_word_97 : decode cX8_word 97 = .ok (.invokevirtual 53, 3) := by decide +kernel
theorem dX8_word_100 : decode cX8_word 100 = .ok (.ireturn, 1) := by decide +kernel
theorem dX8_word_101 : decode cX8_word 101 = .ok (.aload_n 0, 1) := by decide +kernel
theorem dX8_word_102 : decode cX8_word 102 = .ok (.invokevirtual 114, 3) := by decide +kernel
theorem dX8_word_105 : decode cX8_word 105 = .ok (.aload_n 0, 1) := by decide +kernel
theorem dX8_word_106 : decode cX8_word 106 = .ok (.getfield 9, 3) := by decide +kernel
theorem dX8_word_109 : decode cX8_word 109 = .ok (.sipush 266, 3) := by decide +kernel
theorem dX8_word_112 : decode cX8_word 112 = .ok (.iconst 5, 1) := by decide +kernel
theorem dX8_word_113 : decode cX8_word 113 = .ok (.iload 5, 2) := by decide +kernel
theorem dX8_word_115 : decode cX8_word 115 = .ok (.imul, 1) := by decide +kernel
theorem dX8_word_116 : decode cX8_word 116 = .ok (.iadd, 1) := by decide +kernel
theorem dX8_word_117 : decode cX8_word 117 = .ok (.iload_n 1, 1) := by decide +kernel
theorem dX8_word_118 : decode cX8_word 118 = .ok (.iastore, 1) := by decide +kernel
theorem dX8_word_119 : decode cX8_word 119 = .ok (.aload_n 0, 1) := by decide +kernel
theorem dX8_word_120 : decode cX8_word 120 = .ok (.getfield 9, 3) := by decide +kernel
theorem dX8_word_123 : decode cX8_word 123 = .ok (.sipush 266, 3) := by decide +kernel
theorem dX8_word_126 : decode cX8_word 126 = .ok (.iconst 5, 1) := by decide +kernel
theorem dX8_word_127 : decode cX8_word 127 = .ok (.iload 5, 2) := by decide +kernel
theorem dX8_word_129 : decode cX8_word 129 = .ok (.imul, 1) := by decide +kernel
theorem dX8_word_130 : decode cX8_word 130 = .ok (.iadd, 1) := by decide +kernel
theorem dX8_word_131 : decode cX8_word 131 = .ok (.iconst 1, 1) := by decide +kernel
theorem dX8_word_132 : decode cX8_word 132 = .ok (.iadd, 1) := by decide +kernel
theorem dX8_word_133 : decode cX8_word 133 = .ok (.iload_n 2, 1) := by decide +kernel
theorem dX8_word_134 : decode cX8_word 134 = .ok (.bipush 100, 2) := by decide +kernel
theorem dX8_word_136 : decode cX8_word 136 = .ok (.idiv, 1) := by decide +kernel
theorem dX8_word_137 : decode cX8_word 137 = .ok (.iastore, 1) := by decide +kernel
theorem dX8_word_138 : decode cX8_word 138 = .ok (.aload_n 0, 1) := by decide +kernel
theorem dX8_word_139 : decode cX8_word 139 = .ok (.getfield 9, 3) := by decide +kernel
theorem dX8_word_142 : decode cX8_word 142 = .ok (.sipush 266, 3) := by decide +kernel
theorem dX8_word_145 : decode cX8_word 145 = .ok (.iconst 5, 1) := by decide +kernel
theorem dX8_word_146 : decode cX8_word 146 = .ok (.iload 5, 2) := by decide +kernel
theorem dX8_word_148 : decode cX8_word 148 = .ok (.imul, 1) := by decide +kernel
theorem dX8_word_149 : decode cX8_word 149 = .ok (.iadd, 1) := by decide +kernel
theorem dX8_word_150 : decode cX8_word 150 = .ok (.iconst 2, 1) := by decide +kernel
theorem dX8_word_151 : decode cX8_word 151 = .ok (.iadd, 1) := by decide +kernel
theorem dX8_word_152 : decode cX8_word 152 = .ok (.iload_n 2, 1) := by decide +kernel
theorem dX8_word_153 : decode cX8_word 153 = .ok (.bipush 100, 2) := by decide +kernel
theorem dX8_word_155 : decode cX8_word 155 = .ok (.irem, 1) := by decide +kernel
theorem dX8_word_156 : decode cX8_word 156 = .ok (.iastore, 1) := by decide +kernel
theorem dX8_word_157 : decode cX8_word 157 = .ok (.aload_n 0, 1) := by decide +kernel
theorem dX8_word_158 : decode cX8_word 158 = .ok (.getfield 9, 3) := by decide +kernel
theorem dX8_word_161 : decode cX8_word 161 = .ok (.sipush 266, 3) := by decide +kernel
theorem dX8_word_164 : decode cX8_word 164 = .ok (.iconst 5, 1) := by decide +kernel
theorem dX8_word_165 : decode cX8_word 165 = .ok (.iload 5, 2) := by decide +kernel
theorem dX8_word_167 : decode cX8_word 167 = .ok (.imul, 1) := by decide +kernel
theorem dX8_word_168 : decode cX8_word 168 = .ok (.iadd, 1) := by decide +kernel
theorem dX8_word_169 : decode cX8_word 169 = .ok (.iconst 3, 1) := by decide +kernel
theorem dX8_word_170 : decode cX8_word 170 = .ok (.iadd, 1) := by decide +kernel
theorem dX8_word_171 : decode cX8_word 171 = .ok (.iload_n 3, 1) := by decide +kernel
theorem dX8_word_172 : decode cX8_word 172 = .ok (.iastore, 1) := by decide +kernel
theorem dX8_word_173 : decode cX8_word 173 = .ok (.aload_n 0, 1) := by decide +kernel
theorem dX8_word_174 : decode cX8_word 174 = .ok (.getfield 9, 3) := by decide +kernel
theorem dX8_word_177 : decode cX8_word 177 = .ok (.sipush 266, 3) := by decide +kernel
theorem dX8_word_180 : decode cX8_word 180 = .ok (.iconst 5, 1) := by decide +kernel
theorem dX8_word_181 : decode cX8_word 181 = .ok (.iload 5, 2) := by decide +kernel
theorem dX8_word_183 : decode cX8_word 183 = .ok (.imul, 1) := by decide +kernel
theorem dX8_word_184 : decode cX8_word 184 = .ok (.iadd, 1) := by decide +kernel
theorem dX8_word_185 : decode cX8_word 185 = .ok (.iconst 4, 1) := by decide +kernel
theorem dX8_word_186 : decode cX8_word 186 = .ok (.iadd, 1) := by decide +kernel
theorem dX8_word_187 : decode cX8_word 187 = .ok (.iload 4, 2) := by decide +kernel
theorem dX8_word_189 : decode cX8_word 189 = .ok (.ifCond .eq 7, 3) := by decide +kernel
theorem dX8_word_192 : decode cX8_word 192 = .ok (.iconst 1, 1) := by decide +kernel
theorem dX8_word_193 : decode cX8_word 193 = .ok (.goto 4, 3) := by decide +kernel
theorem dX8_word_196 : decode cX8_word 196 = .ok (.iconst 0, 1) := by decide +kernel
theorem dX8_word_197 : decode cX8_word 197 = .ok (.iastore, 1) := by decide +kernel
theorem dX8_word_198 : decode cX8_word 198 = .ok (.aload_n 0, 1) := by decide +kernel
theorem dX8_word_199 : decode cX8_word 199 = .ok (.getfield 9, 3) := by decide +kernel
theorem dX8_word_202 : decode cX8_word 202 = .ok (.iconst 3, 1) := by decide +kernel
theorem dX8_word_203 : decode cX8_word 203 = .ok (.dup2, 1) := by decide +kernel
theorem dX8_word_204 : decode cX8_word 204 = .ok (.iaload, 1) := by decide +kernel
theorem dX8_word_205 : decode cX8_word 205 = .ok (.iconst 1, 1) := by decide +kernel
theorem dX8_word_206 : decode cX8_word 206 = .ok (.iadd, 1) := by decide +kernel
theorem dX8_word_207 : decode cX8_word 207 = .ok (.iastore, 1) := by decide +kernel
theorem dX8_word_208 : decode cX8_word 208 = .ok (.iload 5, 2) := by decide +kernel
theorem dX8_word_210 : decode cX8_word 210 = .ok (.iconst 1, 1) := by decide +kernel
theorem dX8_word_211 : decode cX8_word 211 = .ok (.iadd, 1) := by decide +kernel
theorem dX8_word_212 : decode cX8_word 212 = .ok (.ireturn, 1) := by decide +kernel
theorem dX8_out_0 : decode cX8_out 0 = .ok (.aload_n 0, 1) := by decide +kernel
theorem dX8_out_1 : decode cX8_out 1 = .ok (.iload_n 1, 1) := by decide +kernel
theorem dX8_out_2 : decode cX8_out 2 = .ok (.invokevirtual 120, 3) := by decide +kernel
theorem dX8_out_5 : decode cX8_out 5 = .ok (.ifCond .eq 24, 3) := by decide +kernel
theorem dX8_out_8 : decode cX8_out 8 = .ok (.iload_n 2, 1) := by decide +kernel
theorem dX8_out_9 : decode cX8_out 9 = .ok (.iconst 0, 1) := by decide +kernel
theorem dX8_out_10 : decode cX8_out 10 = .ok (.bipush 99, 2) := by decide +kernel
theorem dX8_out_12 : decode cX8_out 12 = .ok (.invokestatic 41, 3) := by decide +kernel
theorem dX8_out_15 : decode cX8_out 15 = .ok (.ifCond .eq 14, 3) := by decide +kernel
theorem dX8_out_18 : decode cX8_out 18 = .ok (.iload_n 3, 1) := by decide +kernel
theorem dX8_out_19 : decode cX8_out 19 = .ok (.iconst 0, 1) := by decide +kernel
theorem dX8_out_20 : decode cX8_out 20 = .ok (.sipush 999, 3) := by decide +kernel
theorem dX8_out_23 : decode cX8_out 23 = .ok (.invokestatic 41, 3) := by decide +kernel
theorem dX8_out_26 : decode cX8_out 26 = .ok (.ifCond .ne 10, 3) := by decide +kernel
theorem dX8_out_29 : decode cX8_out 29 = .ok (.aload_n 0, 1) := by decide +kernel
theorem dX8_out_30 : decode cX8_out 30 = .ok (.ldc 57, 2) := by decide +kernel
theorem dX8_out_32 : decode cX8_out 32 = .ok (.invokevirtual 53, 3) := by decide +kernel
theorem dX8_out_35 : decode cX8_out 35 = .ok (.ireturn, 1) := by decide +kernel
theorem dX8_out_36 : decode cX8_out 36 = .ok (.aload_n 0, 1) := by decide +kernel
theorem dX8_out_37 : decode cX8_out 37 = .ok (.iload_n 1, 1) := by decide +kernel
theorem dX8_out_38 : decode cX8_out 38 = .ok (.iload_n 2, 1) := by decide +kernel
theorem dX8_out_39 : decode cX8_out 39 = .ok (.iload_n 3, 1) := by decide +kernel
theorem dX8_out_40 : decode cX8_out 40 = .ok (.invokevirtual 165, 3) := by decide +kernel
theorem dX8_out_43 : decode cX8_out 43 = .ok (.ifCond .eq 7, 3) := by decide +kernel
theorem dX8_out_46 : decode cX8_out 46 = .ok (.iconst 1, 1) := by decide +kernel
theorem dX8_out_47 : decode cX8_out 47 = .ok (.goto 4, 3) := by decide +kernel
theorem dX8_out_50 : decode cX8_out 50 = .ok (.iconst 0, 1) := by decide +kernel
theorem dX8_out_51 : decode cX8_out 51 = .ok (.ireturn, 1) := by decide +kernel
theorem dX8_ofRock_0 : decode cX8_ofRock 0 = .ok (.aload_n 0, 1) := by decide +kernel
theorem dX8_ofRock_1 : decode cX8_ofRock 1 = .ok (.iload_n 1, 1) := by decide +kernel
theorem dX8_ofRock_2 : decode cX8_ofRock 2 = .ok (.invokevirtual 120, 3) := by decide +kernel
theorem dX8_ofRock_5 : decode cX8_ofRock 5 = .ok (.ifCond .eq 12, 3) := by decide +kernel
theorem dX8_ofRock_8 : decode cX8_ofRock 8 = .ok (.iload_n 2, 1) := by decide +kernel
theorem dX8_ofRock_9 : decode cX8_ofRock 9 = .ok (.iconst 0, 1) := by decide +kernel
theorem dX8_ofRock_10 : decode cX8_ofRock 10 = .ok (.iload_n 3, 1) := by decide +kernel
theorem dX8_ofRock_11 : decode cX8_ofRock 11 = .ok (.invokestatic 41, 3) := by decide +kernel
theorem dX8_ofRock_14 : decode cX8_ofRock 14 = .ok (.ifCond .ne 10, 3) := by decide +kernel
theorem dX8_ofRock_17 : decode cX8_ofRock 17 = .ok (.aload_n 0, 1) := by decide +kernel
theorem dX8_ofRock_18 : decode cX8_ofRock 18 = .ok (.ldc 57, 2) := by decide +kernel
theorem dX8_ofRock_20 : decode cX8_ofRock 20 = .ok (.invokevirtual 53, 3) := by decide +kernel
theorem dX8_ofRock_23 : decode cX8_ofRock 23 = .ok (.ireturn, 1) := by decide +kernel
theorem dX8_ofRock_24 : decode cX8_ofRock 24 = .ok (.aload_n 0, 1) := by decide +kernel
theorem dX8_ofRock_25 : decode cX8_ofRock 25 = .ok (.iload_n 1, 1) := by decide +kernel
theorem dX8_ofRock_26 : decode cX8_ofRock 26 = .ok (.invokevirtual 193, 3) := by decide +kernel
theorem dX8_ofRock_29 : decode cX8_ofRock 29 = .ok (.ifCond .eq 17, 3) := by decide +kernel
theorem dX8_ofRock_32 : decode cX8_ofRock 32 = .ok (.aload_n 0, 1) := by decide +kernel
theorem dX8_ofRock_33 : decode cX8_ofRock 33 = .ok (.iload_n 1, 1) := by decide +kernel
theorem dX8_ofRock_34 : decode cX8_ofRock 34 = .ok (.iload 4, 2) := by decide +kernel
theorem dX8_ofRock_36 : decode cX8_ofRock 36 = .ok (.invokestatic 45, 3) := by decide +kernel
theorem dX8_ofRock_39 : decode cX8_ofRock 39 = .ok (.iload_n 2, 1) := by decide +kernel
theorem dX8_ofRock_40 : decode cX8_ofRock 40 = .ok (.invokevirtual 171, 3) := by decide +kernel
theorem dX8_ofRock_43 : decode cX8_ofRock 43 = .ok (.goto 9, 3) := by decide +kernel
theorem dX8_ofRock_46 : decode cX8_ofRock 46 = .ok (.aload_n 0, 1) := by decide +kernel
theorem dX8_ofRock_47 : decode cX8_ofRock 47 = .ok (.ldc 123, 2) := by decide +kernel
theorem dX8_ofRock_49 : decode cX8_ofRock 49 = .ok (.invokevirtual 53, 3) := by decide +kernel
theorem dX8_ofRock_52 : decode cX8_ofRock 52 = .ok (.ireturn, 1) := by decide +kernel
theorem dX8_keeper_0 : decode cX8_keeper 0 = .ok (.aload_n 0, 1) := by decide +kernel
theorem dX8_keeper_1 : decode cX8_keeper 1 = .ok (.iload_n 1, 1) := by decide +kernel
theorem dX8_keeper_2 : decode cX8_keeper 2 = .ok (.iload_n 2, 1) := by decide +kernel
theorem dX8_keeper_3 : decode cX8_keeper 3 = .ok (.bipush 19, 2) := by decide +kernel
theorem dX8_keeper_5 : decode cX8_keeper 5 = .ok (.bipush 8, 2) := by decide +kernel
theorem dX8_keeper_7 : decode cX8_keeper 7 = .ok (.invokevirtual 196, 3) := by decide +kernel
theorem dX8_keeper_10 : decode cX8_keeper 10 = .ok (.ireturn, 1) := by decide +kernel
theorem dX8_limit_0 : decode cX8_limit 0 = .ok (.aload_n 0, 1) := by decide +kernel
theorem dX8_limit_1 : decode cX8_limit 1 = .ok (.iload_n 1, 1) := by decide +kernel
theorem dX8_limit_2 : decode cX8_limit 2 = .ok (.iload_n 2, 1) := by decide +kernel
theorem dX8_limit_3 : decode cX8_limit 3 = .ok (.bipush 9, 2) := by decide +kernel
theorem dX8_limit_5 : decode cX8_limit 5 = .ok (.bipush 9, 2) := by decide +kernel
theorem dX8_limit_7 : decode cX8_limit 7 = .ok (.invokevirtual 196, 3) := by decide +kernel
theorem dX8_limit_10 : decode cX8_limit 10 = .ok (.ireturn, 1) := by decide +kernel
theorem dX8_seas_0 : decode cX8_seas 0 = .ok (.iload_n 1, 1) := by decide +kernel
theorem dX8_seas_1 : decode cX8_seas 1 = .ok (.invokestatic 177, 3) := by decide +kernel
theorem dX8_seas_4 : decode cX8_seas 4 = .ok (.ifCond .ne 10, 3) := by decide +kernel
theorem dX8_seas_7 : decode cX8_seas 7 = .ok (.aload_n 0, 1) := by decide +kernel
theorem dX8_seas_8 : decode cX8_seas 8 = .ok (.ldc 57, 2) := by decide +kernel
theorem dX8_seas_10 : decode cX8_seas 10 = .ok (.invokevirtual 53, 3) := by decide +kernel
theorem dX8_seas_13 : decode cX8_seas 13 = .ok (.ireturn, 1) := by decide +kernel
theorem dX8_seas_14 : decode cX8_seas 14 = .ok (.aload_n 0, 1) := by decide +kernel
theorem dX8_seas_15 : decode cX8_seas 15 = .ok (.getfield 19, 3) := by decide +kernel
theorem dX8_seas_18 : decode cX8_seas 18 = .ok (.iload_n 1, 1) := by decide +kernel
theorem dX8_seas_19 : decode cX8_seas 19 = .ok (.iaload, 1) := by decide +kernel
theorem dX8_seas_20 : decode cX8_seas 20 = .ok (.ifCond .ne 10, 3) := by decide +kernel
theorem dX8_seas_23 : decode cX8_seas 23 = .ok (.aload_n 0, 1) := by decide +kernel
theorem dX8_seas_24 : decode cX8_seas 24 = .ok (.ldc 180, 2) := by decide +kernel
theorem dX8_seas_26 : decode cX8_seas 26 = .ok (.invokevirtual 53, 3) := by decide +kernel
theorem dX8_seas_29 : decode cX8_seas 29 = .ok (.ireturn, 1) := by decide +kernel
theorem dX8_seas_30 : decode cX8_seas 30 = .ok (.aload_n 0, 1) := by decide +kernel
theorem dX8_seas_31 : decode cX8_seas 31 = .ok (.invokevirtual 114, 3) := by decide +kernel
theorem dX8_seas_34 : decode cX8_seas 34 = .ok (.iconst 0, 1) := by decide +kernel
theorem dX8_seas_35 : decode cX8_seas 35 = .ok (.istore_n 2, 1) := by decide +kernel
theorem dX8_seas_36 : decode cX8_seas 36 = .ok (.iconst 0, 1) := by decide +kernel
theorem dX8_seas_37 : decode cX8_seas 37 = .ok (.istore_n 3, 1) := by decide +kernel
theorem dX8_seas_38 : decode cX8_seas 38 = .ok (.iload_n 3, 1) := by decide +kernel
theorem dX8_seas_39 : decode cX8_seas 39 = .ok (.bipush 20, 2) := by decide +kernel
theorem dX8_seas_41 : decode cX8_seas 41 = .ok (.if_icmp .ge 58, 3) := by decide +kernel
theorem dX8_seas_44 : decode cX8_seas 44 = .ok (.iload_n 3, 1) := by decide +kernel
theorem dX8_seas_45 : decode cX8_seas 45 = .ok (.aload_n 0, 1) := by decide +kernel
theorem dX8_seas_46 : decode cX8_seas 46 = .ok (.getfield 22, 3) := by decide +kernel
theorem dX8_seas_49 : decode cX8_seas 49 = .ok (.iload_n 1, 1) := by decide +kernel
end
section
theorem dX8_seas_50 : decode cX8_seas 50 = .ok (.iaload, 1) := by decide +kernel
theorem dX8_seas_51 : decode cX8_seas 51 = .ok (.if_icmp .ge 48, 3) := by decide +kernel
theorem dX8_seas_54 : decode cX8_seas 54 = .ok (.aload_n 0, 1) := by decide +kernel
theorem dX8_seas_55 : decode cX8_seas 55 = .ok (.getfield 25, 3) := by decide +kernel
theorem dX8_seas_58 : decode cX8_seas 58 = .ok (.bipush 30, 2) := by decide +kernel
theorem dX8_seas_60 : decode cX8_seas 60 = .ok (.iload_n 1, 1) := by decide +kernel
theorem dX8_seas_61 : decode cX8_seas 61 = .ok (.imul, 1) := by decide +kernel
theorem dX8_seas_62 : decode cX8_seas 62 = .ok (.iload_n 3, 1) := by decide +kernel
theorem dX8_seas_63 : decode cX8_seas 63 = .ok (.iadd, 1) := by decide +kernel
theorem dX8_seas_64 : decode cX8_seas 64 = .ok (.iaload, 1) := by decide +kernel
theorem dX8_seas_65 : decode cX8_seas 65 = .ok (.istore 4, 2) := by decide +kernel
theorem dX8_seas_67 : decode cX8_seas 67 = .ok (.iload 4, 2) := by decide +kernel
theorem dX8_seas_69 : decode cX8_seas 69 = .ok (.iconst 0, 1) := by decide +kernel
theorem dX8_seas_70 : decode cX8_seas 70 = .ok (.bipush 9, 2) := by decide +kernel
theorem dX8_seas_72 : decode cX8_seas 72 = .ok (.invokestatic 41, 3) := by decide +kernel
theorem dX8_seas_75 : decode cX8_seas 75 = .ok (.ifCond .eq 18, 3) := by decide +kernel
theorem dX8_seas_78 : decode cX8_seas 78 = .ok (.aload_n 0, 1) := by decide +kernel
theorem dX8_seas_79 : decode cX8_seas 79 = .ok (.getfield 9, 3) := by decide +kernel
theorem dX8_seas_82 : decode cX8_seas 82 = .ok (.sipush 366, 3) := by decide +kernel
theorem dX8_seas_85 : decode cX8_seas 85 = .ok (.iload_n 3, 1) := by decide +kernel
theorem dX8_seas_86 : decode cX8_seas 86 = .ok (.iadd, 1) := by decide +kernel
theorem dX8_seas_87 : decode cX8_seas 87 = .ok (.iload 4, 2) := by decide +kernel
theorem dX8_seas_89 : decode cX8_seas 89 = .ok (.iastore, 1) := by decide +kernel
theorem dX8_seas_90 : decode cX8_seas 90 = .ok (.iinc 2 1, 3) := by decide +kernel
theorem dX8_seas_93 : decode cX8_seas 93 = .ok (.iinc 3 1, 3) := by decide +kernel
theorem dX8_seas_96 : decode cX8_seas 96 = .ok (.goto (-58), 3) := by decide +kernel
theorem dX8_seas_99 : decode cX8_seas 99 = .ok (.iload_n 2, 1) := by decide +kernel
theorem dX8_seas_100 : decode cX8_seas 100 = .ok (.ireturn, 1) := by decide +kernel
theorem dX8_overdueOf_0 : decode cX8_overdueOf 0 = .ok (.iconst 0, 1) := by decide +kernel
theorem dX8_overdueOf_1 : decode cX8_overdueOf 1 = .ok (.iload_n 2, 1) := by decide +kernel
theorem dX8_overdueOf_2 : decode cX8_overdueOf 2 = .ok (.aload_n 0, 1) := by decide +kernel
theorem dX8_overdueOf_3 : decode cX8_overdueOf 3 = .ok (.getfield 9, 3) := by decide +kernel
theorem dX8_overdueOf_6 : decode cX8_overdueOf 6 = .ok (.iload_n 1, 1) := by decide +kernel
theorem dX8_overdueOf_7 : decode cX8_overdueOf 7 = .ok (.bipush 8, 2) := by decide +kernel
theorem dX8_overdueOf_9 : decode cX8_overdueOf 9 = .ok (.invokestatic 45, 3) := by decide +kernel
theorem dX8_overdueOf_12 : decode cX8_overdueOf 12 = .ok (.iaload, 1) := by decide +kernel
theorem dX8_overdueOf_13 : decode cX8_overdueOf 13 = .ok (.isub, 1) := by decide +kernel
theorem dX8_overdueOf_14 : decode cX8_overdueOf 14 = .ok (.bipush 10, 2) := by decide +kernel
theorem dX8_overdueOf_16 : decode cX8_overdueOf 16 = .ok (.isub, 1) := by decide +kernel
theorem dX8_overdueOf_17 : decode cX8_overdueOf 17 = .ok (.invokestatic 157, 3) := by decide +kernel
theorem dX8_overdueOf_20 : decode cX8_overdueOf 20 = .ok (.ireturn, 1) := by decide +kernel
theorem dX8_isLandable_0 : decode cX8_isLandable 0 = .ok (.aload_n 0, 1) := by decide +kernel
theorem dX8_isLandable_1 : decode cX8_isLandable 1 = .ok (.iload_n 1, 1) := by decide +kernel
theorem dX8_isLandable_2 : decode cX8_isLandable 2 = .ok (.invokevirtual 120, 3) := by decide +kernel
theorem dX8_isLandable_5 : decode cX8_isLandable 5 = .ok (.ifCond .eq 39, 3) := by decide +kernel
theorem dX8_isLandable_8 : decode cX8_isLandable 8 = .ok (.aload_n 0, 1) := by decide +kernel
theorem dX8_isLandable_9 : decode cX8_isLandable 9 = .ok (.iload_n 1, 1) := by decide +kernel
theorem dX8_isLandable_10 : decode cX8_isLandable 10 = .ok (.invokevirtual 193, 3) := by decide +kernel
theorem dX8_isLandable_13 : decode cX8_isLandable 13 = .ok (.ifCond .eq 31, 3) := by decide +kernel
theorem dX8_isLandable_16 : decode cX8_isLandable 16 = .ok (.aload_n 0, 1) := by decide +kernel
theorem dX8_isLandable_17 : decode cX8_isLandable 17 = .ok (.getfield 9, 3) := by decide +kernel
theorem dX8_isLandable_20 : decode cX8_isLandable 20 = .ok (.sipush 366, 3) := by decide +kernel
theorem dX8_isLandable_23 : decode cX8_isLandable 23 = .ok (.iload_n 2, 1) := by decide +kernel
theorem dX8_isLandable_24 : decode cX8_isLandable 24 = .ok (.iadd, 1) := by decide +kernel
theorem dX8_isLandable_25 : decode cX8_isLandable 25 = .ok (.iaload, 1) := by decide +kernel
theorem dX8_isLandable_26 : decode cX8_isLandable 26 = .ok (.aload_n 0, 1) := by decide +kernel
theorem dX8_isLandable_27 : decode cX8_isLandable 27 = .ok (.getfield 9, 3) := by decide +kernel
theorem dX8_isLandable_30 : decode cX8_isLandable 30 = .ok (.iload_n 1, 1) := by decide +kernel
theorem dX8_isLandable_31 : decode cX8_isLandable 31 = .ok (.bipush 9, 2) := by decide +kernel
theorem dX8_isLandable_33 : decode cX8_isLandable 33 = .ok (.invokestatic 45, 3) := by decide +kernel
theorem dX8_isLandable_36 : decode cX8_isLandable 36 = .ok (.iaload, 1) := by decide +kernel
theorem dX8_isLandable_37 : decode cX8_isLandable 37 = .ok (.if_icmp .gt 7, 3) := by decide +kernel
theorem dX8_isLandable_40 : decode cX8_isLandable 40 = .ok (.iconst 1, 1) := by decide +kernel
theorem dX8_isLandable_41 : decode cX8_isLandable 41 = .ok (.goto 4, 3) := by decide +kernel
theorem dX8_isLandable_44 : decode cX8_isLandable 44 = .ok (.iconst 0, 1) := by decide +kernel
theorem dX8_isLandable_45 : decode cX8_isLandable 45 = .ok (.ireturn, 1) := by decide +kernel
theorem dX8_restOf_0 : decode cX8_restOf 0 = .ok (.iconst 0, 1) := by decide +kernel
theorem dX8_restOf_1 : decode cX8_restOf 1 = .ok (.istore_n 2, 1) := by decide +kernel
theorem dX8_restOf_2 : decode cX8_restOf 2 = .ok (.iconst 0, 1) := by decide +kernel
theorem dX8_restOf_3 : decode cX8_restOf 3 = .ok (.istore_n 3, 1) := by decide +kernel
theorem dX8_restOf_4 : decode cX8_restOf 4 = .ok (.iload_n 3, 1) := by decide +kernel
theorem dX8_restOf_5 : decode cX8_restOf 5 = .ok (.aload_n 0, 1) := by decide +kernel
theorem dX8_restOf_6 : decode cX8_restOf 6 = .ok (.getfield 9, 3) := by decide +kernel
theorem dX8_restOf_9 : decode cX8_restOf 9 = .ok (.iconst 0, 1) := by decide +kernel
theorem dX8_restOf_10 : decode cX8_restOf 10 = .ok (.iaload, 1) := by decide +kernel
theorem dX8_restOf_11 : decode cX8_restOf 11 = .ok (.if_icmp .ge 39, 3) := by decide +kernel
theorem dX8_restOf_14 : decode cX8_restOf 14 = .ok (.iload_n 2, 1) := by decide +kernel
theorem dX8_restOf_15 : decode cX8_restOf 15 = .ok (.aload_n 0, 1) := by decide +kernel
theorem dX8_restOf_16 : decode cX8_restOf 16 = .ok (.iload_n 3, 1) := by decide +kernel
theorem dX8_restOf_17 : decode cX8_restOf 17 = .ok (.invokevirtual 193, 3) := by decide +kernel
theorem dX8_restOf_20 : decode cX8_restOf 20 = .ok (.ifCond .eq 21, 3) := by decide +kernel
theorem dX8_restOf_23 : decode cX8_restOf 23 = .ok (.iload_n 1, 1) := by decide +kernel
theorem dX8_restOf_24 : decode cX8_restOf 24 = .ok (.iload_n 3, 1) := by decide +kernel
theorem dX8_restOf_25 : decode cX8_restOf 25 = .ok (.ishr, 1) := by decide +kernel
theorem dX8_restOf_26 : decode cX8_restOf 26 = .ok (.iconst 1, 1) := by decide +kernel
theorem dX8_restOf_27 : decode cX8_restOf 27 = .ok (.iand, 1) := by decide +kernel
theorem dX8_restOf_28 : decode cX8_restOf 28 = .ok (.ifCond .ne 13, 3) := by decide +kernel
theorem dX8_restOf_31 : decode cX8_restOf 31 = .ok (.aload_n 0, 1) := by decide +kernel
theorem dX8_restOf_32 : decode cX8_restOf 32 = .ok (.iload_n 3, 1) := by decide +kernel
theorem dX8_restOf_33 : decode cX8_restOf 33 = .ok (.bipush 20, 2) := by decide +kernel
theorem dX8_restOf_35 : decode cX8_restOf 35 = .ok (.invokevirtual 200, 3) := by decide +kernel
theorem dX8_restOf_38 : decode cX8_restOf 38 = .ok (.goto 4, 3) := by decide +kernel
theorem dX8_restOf_41 : decode cX8_restOf 41 = .ok (.iconst 0, 1) := by decide +kernel
theorem dX8_restOf_42 : decode cX8_restOf 42 = .ok (.iadd, 1) := by decide +kernel
theorem dX8_restOf_43 : decode cX8_restOf 43 = .ok (.istore_n 2, 1) := by decide +kernel
theorem dX8_restOf_44 : decode cX8_restOf 44 = .ok (.iinc 3 1, 3) := by decide +kernel
theorem dX8_restOf_47 : decode cX8_restOf 47 = .ok (.goto (-43), 3) := by decide +kernel
theorem dX8_restOf_50 : decode cX8_restOf 50 = .ok (.iload_n 2, 1) := by decide +kernel
theorem dX8_restOf_51 : decode cX8_restOf 51 = .ok (.ireturn, 1) := by decide +kernel
theorem dX8_byLanding_0 : decode cX8_byLanding 0 = .ok (.aload_n 0, 1) := by decide +kernel
theorem dX8_byLanding_1 : decode cX8_byLanding 1 = .ok (.iload_n 1, 1) := by decide +kernel
theorem dX8_byLanding_2 : decode cX8_byLanding 2 = .ok (.iload_n 2, 1) := by decide +kernel
theorem dX8_byLanding_3 : decode cX8_byLanding 3 = .ok (.invokevirtual 200, 3) := by decide +kernel
theorem dX8_byLanding_6 : decode cX8_byLanding 6 = .ok (.aload_n 0, 1) := by decide +kernel
theorem dX8_byLanding_7 : decode cX8_byLanding 7 = .ok (.getfield 31, 3) := by decide +kernel
theorem dX8_byLanding_10 : decode cX8_byLanding 10 = .ok (.sipush 1024, 3) := by decide +kernel
theorem dX8_byLanding_13 : decode cX8_byLanding 13 = .ok (.iload_n 2, 1) := by decide +kernel
theorem dX8_byLanding_14 : decode cX8_byLanding 14 = .ok (.iconst 1, 1) := by decide +kernel
theorem dX8_byLanding_15 : decode cX8_byLanding 15 = .ok (.iadd, 1) := by decide +kernel
theorem dX8_byLanding_16 : decode cX8_byLanding 16 = .ok (.imul, 1) := by decide +kernel
theorem dX8_byLanding_17 : decode cX8_byLanding 17 = .ok (.iload_n 3, 1) := by decide +kernel
theorem dX8_byLanding_18 : decode cX8_byLanding 18 = .ok (.iconst 1, 1) := by decide +kernel
theorem dX8_byLanding_19 : decode cX8_byLanding 19 = .ok (.iload_n 1, 1) := by decide +kernel
theorem dX8_byLanding_20 : decode cX8_byLanding 20 = .ok (.ishl, 1) := by decide +kernel
theorem dX8_byLanding_21 : decode cX8_byLanding 21 = .ok (.ior, 1) := by decide +kernel
theorem dX8_byLanding_22 : decode cX8_byLanding 22 = .ok (.iadd, 1) := by decide +kernel
theorem dX8_byLanding_23 : decode cX8_byLanding 23 = .ok (.iaload, 1) := by decide +kernel
theorem dX8_byLanding_24 : decode cX8_byLanding 24 = .ok (.iadd, 1) := by decide +kernel
theorem dX8_byLanding_25 : decode cX8_byLanding 25 = .ok (.ireturn, 1) := by decide +kernel
theorem dX8_findLandings_0 : decode cX8_findLandings 0 = .ok (.iconst 1, 1) := by decide +kernel
theorem dX8_findLandings_1 : decode cX8_findLandings 1 = .ok (.aload_n 0, 1) := by decide +kernel
theorem dX8_findLandings_2 : decode cX8_findLandings 2 = .ok (.getfield 9, 3) := by decide +kernel
theorem dX8_findLandings_5 : decode cX8_findLandings 5 = .ok (.iconst 0, 1) := by decide +kernel
theorem dX8_findLandings_6 : decode cX8_findLandings 6 = .ok (.iaload, 1) := by decide +kernel
theorem dX8_findLandings_7 : decode cX8_findLandings 7 = .ok (.ishl, 1) := by decide +kernel
theorem dX8_findLandings_8 : decode cX8_findLandings 8 = .ok (.istore_n 1, 1) := by decide +kernel
theorem dX8_findLandings_9 : decode cX8_findLandings 9 = .ok (.iconst 0, 1) := by decide +kernel
theorem dX8_findLandings_10 : decode cX8_findLandings 10 = .ok (.istore_n 2, 1) := by decide +kernel
theorem dX8_findLandings_11 : decode cX8_findLandings 11 = .ok (.iload_n 2, 1) := by decide +kernel
theorem dX8_findLandings_12 : decode cX8_findLandings 12 = .ok (.iload_n 1, 1) := by decide +kernel
theorem dX8_findLandings_13 : decode cX8_findLandings 13 = .ok (.if_icmp .ge 24, 3) := by decide +kernel
theorem dX8_findLandings_16 : decode cX8_findLandings 16 = .ok (.aload_n 0, 1) := by decide +kernel
theorem dX8_findLandings_17 : decode cX8_findLandings 17 = .ok (.getfield 31, 3) := by decide +kernel
theorem dX8_findLandings_20 : decode cX8_findLandings 20 = .ok (.sipush 20480, 3) := by decide +kernel
theorem dX8_findLandings_23 : decode cX8_findLandings 23 = .ok (.iload_n 2, 1) := by decide +kernel
theorem dX8_findLandings_24 : decode cX8_findLandings 24 = .ok (.iadd, 1) := by decide +kernel
theorem dX8_findLandings_25 : decode cX8_findLandings 25 = .ok (.aload_n 0, 1) := by decide +kernel
theorem dX8_findLandings_26 : decode cX8_findLandings 26 = .ok (.iload_n 2, 1) := by decide +kernel
theorem dX8_findLandings_27 : decode cX8_findLandings 27 = .ok (.invokevirtual 203, 3) := by decide +kernel
theorem dX8_findLandings_30 : decode cX8_findLandings 30 = .ok (.iastore, 1) := by decide +kernel
theorem dX8_findLandings_31 : decode cX8_findLandings 31 = .ok (.iinc 2 1, 3) := by decide +kernel
theorem dX8_findLandings_34 : decode cX8_findLandings 34 = .ok (.goto (-23), 3) := by decide +kernel
theorem dX8_findLandings_37 : decode cX8_findLandings 37 = .ok (.bipush 19, 2) := by decide +kernel
theorem dX8_findLandings_39 : decode cX8_findLandings 39 = .ok (.istore_n 2, 1) := by decide +kernel
theorem dX8_findLandings_40 : decode cX8_findLandings 40 = .ok (.iload_n 2, 1) := by decide +kernel
theorem dX8_findLandings_41 : decode cX8_findLandings 41 = .ok (.aload_n 0, 1) := by decide +kernel
theorem dX8_findLandings_42 : decode cX8_findLandings 42 = .ok (.getfield 9, 3) := by decide +kernel
theorem dX8_findLandings_45 : decode cX8_findLandings 45 = .ok (.iconst 5, 1) := by decide +kernel
theorem dX8_findLandings_46 : decode cX8_findLandings 46 = .ok (.iaload, 1) := by decide +kernel
theorem dX8_findLandings_47 : decode cX8_findLandings 47 = .ok (.if_icmp .lt 106, 3) := by decide +kernel
theorem dX8_findLandings_50 : decode cX8_findLandings 50 = .ok (.iconst 0, 1) := by decide +kernel
theorem dX8_findLandings_51 : decode cX8_findLandings 51 = .ok (.istore_n 3, 1) := by decide +kernel
theorem dX8_findLandings_52 : decode cX8_findLandings 52 = .ok (.iload_n 3, 1) := by decide +kernel
theorem dX8_findLandings_53 : decode cX8_findLandings 53 = .ok (.iload_n 1, 1) := by decide +kernel
theorem dX8_findLandings_54 : decode cX8_findLandings 54 = .ok (.if_icmp .ge 93, 3) := by decide +kernel
theorem dX8_findLandings_57 : decode cX8_findLandings 57 = .ok (.aload_n 0, 1) := by decide +kernel
theorem dX8_findLandings_58 : decode cX8_findLandings 58 = .ok (.getfield 31, 3) := by decide +kernel
theorem dX8_findLandings_61 : decode cX8_findLandings 61 = .ok (.sipush 1024, 3) := by decide +kernel
theorem dX8_findLandings_64 : decode cX8_findLandings 64 = .ok (.iload_n 2, 1) := by decide +kernel
theorem dX8_findLandings_65 : decode cX8_findLandings 65 = .ok (.iconst 1, 1) := by decide +kernel
theorem dX8_findLandings_66 : decode cX8_findLandings 66 = .ok (.iadd, 1) := by decide +kernel
theorem dX8_findLandings_67 : decode cX8_findLandings 67 = .ok (.imul, 1) := by decide +kernel
theorem dX8_findLandings_68 : decode cX8_findLandings 68 = .ok (.iload_n 3, 1) := by decide +kernel
theorem dX8_findLandings_69 : decode cX8_findLandings 69 = .ok (.iadd, 1) := by decide +kernel
theorem dX8_findLandings_70 : decode cX8_findLandings 70 = .ok (.iaload, 1) := by decide +kernel
theorem dX8_findLandings_71 : decode cX8_findLandings 71 = .ok (.istore 4, 2) := by decide +kernel
theorem dX8_findLandings_73 : decode cX8_findLandings 73 = .ok (.iconst 0, 1) := by decide +kernel
theorem dX8_findLandings_74 : decode cX8_findLandings 74 = .ok (.istore 5, 2) := by decide +kernel
theorem dX8_findLandings_76 : decode cX8_findLandings 76 = .ok (.iload 5, 2) := by decide +kernel
theorem dX8_findLandings_78 : decode cX8_findLandings 78 = .ok (.aload_n 0, 1) := by decide +kernel
theorem dX8_findLandings_79 : decode cX8_findLandings 79 = .ok (.getfield 9, 3) := by decide +kernel
theorem dX8_findLandings_82 : decode cX8_findLandings 82 = .ok (.iconst 0, 1) := by decide +kernel
theorem dX8_findLandings_83 : decode cX8_findLandings 83 = .ok (.iaload, 1) := by decide +kernel
theorem dX8_findLandings_84 : decode cX8_findLandings 84 = .ok (.if_icmp .ge 43, 3) := by decide +kernel
theorem dX8_findLandings_87 : decode cX8_findLandings 87 = .ok (.iload_n 3, 1) := by decide +kernel
theorem dX8_findLandings_88 : decode cX8_findLandings 88 = .ok (.iload 5, 2) := by decide +kernel
theorem dX8_findLandings_90 : decode cX8_findLandings 90 = .ok (.ishr, 1) := by decide +kernel
theorem dX8_findLandings_91 : decode cX8_findLandings 91 = .ok (.iconst 1, 1) := by decide +kernel
theorem dX8_findLandings_92 : decode cX8_findLandings 92 = .ok (.iand, 1) := by decide +kernel
theorem dX8_findLandings_93 : decode cX8_findLandings 93 = .ok (.ifCond .ne 28, 3) := by decide +kernel
theorem dX8_findLandings_96 : decode cX8_findLandings 96 = .ok (.aload_n 0, 1) := by decide +kernel
theorem dX8_findLandings_97 : decode cX8_findLandings 97 = .ok (.iload 5, 2) := by decide +kernel
theorem dX8_findLandings_99 : decode cX8_findLandings 99 = .ok (.iload_n 2, 1) := by decide +kernel
theorem dX8_findLandings_100 : decode cX8_findLandings 100 = .ok (.invokevirtual 206, 3) := by decide +kernel
theorem dX8_findLandings_103 : decode cX8_findLandings 103 = .ok (.ifCond .eq 18, 3) := by decide +kernel
theorem dX8_findLandings_106 : decode cX8_findLandings 106 = .ok (.iload 4, 2) := by decide +kernel
theorem dX8_findLandings_108 : decode cX8_findLandings 108 = .ok (.aload_n 0, 1) := by decide +kernel
theorem dX8_findLandings_109 : decode cX8_findLandings 109 = .ok (.iload 5, 2) := by decide +kernel
theorem dX8_findLandings_111 : decode cX8_findLandings 111 = .ok (.iload_n 2, 1) := by decide +kernel
theorem dX8_findLandings_112 : decode cX8_findLandings 112 = .ok (.iload_n 3, 1) := by decide +kernel
theorem dX8_findLandings_113 : decode cX8_findLandings 113 = .ok (.invokevirtual 209, 3) := by decide +kernel
theorem dX8_findLandings_116 : decode cX8_findLandings 116 = .ok (.invokestatic 184, 3) := by decide +kernel
theorem dX8_findLandings_119 : decode cX8_findLandings 119 = .ok (.istore 4, 2) := by decide +kernel
theorem dX8_findLandings_121 : decode cX8_findLandings 121 = .ok (.iinc 5 1, 3) := by decide +kernel
theorem dX8_findLandings_124 : decode cX8_findLandings 124 = .ok (.goto (-48), 3) := by decide +kernel
theorem dX8_findLandings_127 : decode cX8_findLandings 127 = .ok (.aload_n 0, 1) := by decide +kernel
theorem dX8_findLandings_128 : decode cX8_findLandings 128 = .ok (.getfield 31, 3) := by decide +kernel
theorem dX8_findLandings_131 : decode cX8_findLandings 131 = .ok (.sipush 1024, 3) := by decide +kernel
theorem dX8_findLandings_134 : decode cX8_findLandings 134 = .ok (.iload_n 2, 1) := by decide +kernel
theorem dX8_findLandings_135 : decode cX8_findLandings 135 = .ok (.imul, 1) := by decide +kernel
theorem dX8_findLandings_136 : decode cX8_findLandings 136 = .ok (.iload_n 3, 1) := by decide +kernel
theorem dX8_findLandings_137 : decode cX8_findLandings 137 = .ok (.iadd, 1) := by decide +kernel
theorem dX8_findLandings_138 : decode cX8_findLandings 138 = .ok (.iload 4, 2) := by decide +kernel
theorem dX8_findLandings_140 : decode cX8_findLandings 140 = .ok (.iastore, 1) := by decide +kernel
theorem dX8_findLandings_141 : decode cX8_findLandings 141 = .ok (.iinc 3 1, 3) := by decide +kernel
theorem dX8_findLandings_144 : decode cX8_findLandings 144 = .ok (.goto (-92), 3) := by decide +kernel
theorem dX8_findLandings_147 : decode cX8_findLandings 147 = .ok (.iinc 2 (-1), 3) := by decide +kernel
theorem dX8_findLandings_150 : decode cX8_findLandings 150 = .ok (.goto (-110), 3) := by decide +kernel
theorem dX8_findLandings_153 : decode cX8_findLandings 153 = .ok (.return_, 1) := by decide +kernel
theorem dX8_overdue_0 : decode cX8_overdue 0 = .ok (.aload_n 0, 1) := by decide +kernel
theorem dX8_overdue_1 : decode cX8_overdue 1 = .ok (.invokevirtual 212, 3) := by decide +kernel
theorem dX8_overdue_4 : decode cX8_overdue 4 = .ok (.aload_n 0, 1) := by decide +kernel
theorem dX8_overdue_5 : decode cX8_overdue 5 = .ok (.getfield 31, 3) := by decide +kernel
theorem dX8_overdue_8 : decode cX8_overdue 8 = .ok (.sipush 1024, 3) := by decide +kernel
theorem dX8_overdue_11 : decode cX8_overdue 11 = .ok (.aload_n 0, 1) := by decide +kernel
theorem dX8_overdue_12 : decode cX8_overdue 12 = .ok (.getfield 9, 3) := by decide +kernel
theorem dX8_overdue_15 : decode cX8_overdue 15 = .ok (.iconst 5, 1) := by decide +kernel
theorem dX8_overdue_16 : decode cX8_overdue 16 = .ok (.iaload, 1) := by decide +kernel
theorem dX8_overdue_17 : decode cX8_overdue 17 = .ok (.imul, 1) := by decide +kernel
theorem dX8_overdue_18 : decode cX8_overdue 18 = .ok (.iaload, 1) := by decide +kernel
theorem dX8_overdue_19 : decode cX8_overdue 19 = .ok (.ireturn, 1) := by decide +kernel
theorem dX8_firstOn_0 : decode cX8_firstOn 0 = .ok (.aload_n 0, 1) := by decide +kernel
theorem dX8_firstOn_1 : decode cX8_firstOn 1 = .ok (.getfield 31, 3) := by decide +kernel
theorem dX8_firstOn_4 : decode cX8_firstOn 4 = .ok (.sipush 1024, 3) := by decide +kernel
theorem dX8_firstOn_7 : decode cX8_firstOn 7 = .ok (.iload_n 1, 1) := by decide +kernel
theorem dX8_firstOn_8 : decode cX8_firstOn 8 = .ok (.imul, 1) := by decide +kernel
theorem dX8_firstOn_9 : decode cX8_firstOn 9 = .ok (.iload_n 2, 1) := by decide +kernel
theorem dX8_firstOn_10 : decode cX8_firstOn 10 = .ok (.iadd, 1) := by decide +kernel
theorem dX8_firstOn_11 : decode cX8_firstOn 11 = .ok (.iaload, 1) := by decide +kernel
theorem dX8_firstOn_12 : decode cX8_firstOn 12 = .ok (.istore_n 3, 1) := by decide +kernel
theorem dX8_firstOn_13 : decode cX8_firstOn 13 = .ok (.aload_n 0, 1) := by decide +kernel
theorem dX8_firstOn_14 : decode cX8_firstOn 14 = .ok (.getfield 31, 3) := by decide +kernel
theorem dX8_firstOn_17 : decode cX8_firstOn 17 = .ok (.sipush 1024, 3) := by decide +kernel
theorem dX8_firstOn_20 : decode cX8_firstOn 20 = .ok (.iload_n 1, 1) := by decide +kernel
theorem dX8_firstOn_21 : decode cX8_firstOn 21 = .ok (.iconst 1, 1) := by decide +kernel
theorem dX8_firstOn_22 : decode cX8_firstOn 22 = .ok (.iadd, 1) := by decide +kernel
theorem dX8_firstOn_23 : decode cX8_firstOn 23 = .ok (.imul, 1) := by decide +kernel
theorem dX8_firstOn_24 : decode cX8_firstOn 24 = .ok (.iload_n 2, 1) := by decide +kernel
theorem dX8_firstOn_25 : decode cX8_firstOn 25 = .ok (.iadd, 1) := by decide +kernel
theorem dX8_firstOn_26 : decode cX8_firstOn 26 = .ok (.iaload, 1) := by decide +kernel
theorem dX8_firstOn_27 : decode cX8_firstOn 27 = .ok (.iload_n 3, 1) := by decide +kernel
theorem dX8_firstOn_28 : decode cX8_firstOn 28 = .ok (.if_icmp .ne 5, 3) := by decide +kernel
theorem dX8_firstOn_31 : decode cX8_firstOn 31 = .ok (.iconst (-1), 1) := by decide +kernel
theorem dX8_firstOn_32 : decode cX8_firstOn 32 = .ok (.ireturn, 1) := by decide +kernel
theorem dX8_firstOn_33 : decode cX8_firstOn 33 = .ok (.iconst 0, 1) := by decide +kernel
theorem dX8_firstOn_34 : decode cX8_firstOn 34 = .ok (.istore 4, 2) := by decide +kernel
theorem dX8_firstOn_36 : decode cX8_firstOn 36 = .ok (.iload_n 2, 1) := by decide +kernel
theorem dX8_firstOn_37 : decode cX8_firstOn 37 = .ok (.iload 4, 2) := by decide +kernel
theorem dX8_firstOn_39 : decode cX8_firstOn 39 = .ok (.ishr, 1) := by decide +kernel
theorem dX8_firstOn_40 : decode cX8_firstOn 40 = .ok (.iconst 1, 1) := by decide +kernel
theorem dX8_firstOn_41 : decode cX8_firstOn 41 = .ok (.iand, 1) := by decide +kernel
theorem dX8_firstOn_42 : decode cX8_firstOn 42 = .ok (.iconst 1, 1) := by decide +kernel
theorem dX8_firstOn_43 : decode cX8_firstOn 43 = .ok (.if_icmp .eq 25, 3) := by decide +kernel
theorem dX8_firstOn_46 : decode cX8_firstOn 46 = .ok (.aload_n 0, 1) := by decide +kernel
theorem dX8_firstOn_47 : decode cX8_firstOn 47 = .ok (.iload 4, 2) := by decide +kernel
theorem dX8_firstOn_49 : decode cX8_firstOn 49 = .ok (.iload_n 1, 1) := by decide +kernel
theorem dX8_firstOn_50 : decode cX8_firstOn 50 = .ok (.invokevirtual 206, 3) := by decide +kernel
theorem dX8_firstOn_53 : decode cX8_firstOn 53 = .ok (.ifCond .eq 15, 3) := by decide +kernel
theorem dX8_firstOn_56 : decode cX8_firstOn 56 = .ok (.aload_n 0, 1) := by decide +kernel
theorem dX8_firstOn_57 : decode cX8_firstOn 57 = .ok (.iload 4, 2) := by decide +kernel
theorem dX8_firstOn_59 : decode cX8_firstOn 59 = .ok (.iload_n 1, 1) := by decide +kernel
theorem dX8_firstOn_60 : decode cX8_firstOn 60 = .ok (.iload_n 2, 1) := by decide +kernel
theorem dX8_firstOn_61 : decode cX8_firstOn 61 = .ok (.invokevirtual 209, 3) := by decide +kernel
theorem dX8_firstOn_64 : decode cX8_firstOn 64 = .ok (.iload_n 3, 1) := by decide +kernel
theorem dX8_firstOn_65 : decode cX8_firstOn 65 = .ok (.if_icmp .eq 9, 3) := by decide +kernel
theorem dX8_firstOn_68 : decode cX8_firstOn 68 = .ok (.iinc 4 1, 3) := by decide +kernel
theorem dX8_firstOn_71 : decode cX8_firstOn 71 = .ok (.goto (-35), 3) := by decide +kernel
theorem dX8_firstOn_74 : decode cX8_firstOn 74 = .ok (.iload 4, 2) := by decide +kernel
theorem dX8_firstOn_76 : decode cX8_firstOn 76 = .ok (.ireturn, 1) := by decide +kernel
theorem dX8_landing_0 : decode cX8_landing 0 = .ok (.iload_n 1, 1) := by decide +kernel
theorem dX8_landing_1 : decode cX8_landing 1 = .ok (.iconst 0, 1) := by decide +kernel
theorem dX8_landing_2 : decode cX8_landing 2 = .ok (.bipush 19, 2) := by decide +kernel
theorem dX8_landing_4 : decode cX8_landing 4 = .ok (.invokestatic 41, 3) := by decide +kernel
theorem dX8_landing_7 : decode cX8_landing 7 = .ok (.ifCond .ne 10, 3) := by decide +kernel
theorem dX8_landing_10 : decode cX8_landing 10 = .ok (.aload_n 0, 1) := by decide +kernel
theorem dX8_landing_11 : decode cX8_landing 11 = .ok (.ldc 57, 2) := by decide +kernel
theorem dX8_landing_13 : decode cX8_landing 13 = .ok (.invokevirtual 53, 3) := by decide +kernel
theorem dX8_landing_16 : decode cX8_landing 16 = .ok (.ireturn, 1) := by decide +kernel
theorem dX8_landing_17 : decode cX8_landing 17 = .ok (.aload_n 0, 1) := by decide +kernel
theorem dX8_landing_18 : decode cX8_landing 18 = .ok (.invokevirtual 212, 3) := by decide +kernel
theorem dX8_landing_21 : decode cX8_landing 21 = .ok (.iconst 0, 1) := by decide +kernel
theorem dX8_landing_22 : decode cX8_landing 22 = .ok (.istore_n 2, 1) := by decide +kernel
theorem dX8_landing_23 : decode cX8_landing 23 = .ok (.iconst (-1), 1) := by decide +kernel
theorem dX8_landing_24 : decode cX8_landing 24 = .ok (.istore_n 3, 1) := by decide +kernel
theorem dX8_landing_25 : decode cX8_landing 25 = .ok (.aload_n 0, 1) := by decide +kernel
theorem dX8_landing_26 : decode cX8_landing 26 = .ok (.getfield 9, 3) := by decide +kernel
theorem dX8_landing_29 : decode cX8_landing 29 = .ok (.iconst 5, 1) := by decide +kernel
theorem dX8_landing_30 : decode cX8_landing 30 = .ok (.iaload, 1) := by decide +kernel
theorem dX8_landing_31 : decode cX8_landing 31 = .ok (.istore 4, 2) := by decide +kernel
theorem dX8_landing_33 : decode cX8_landing 33 = .ok (.iload 4, 2) := by decide +kernel
theorem dX8_landing_35 : decode cX8_landing 35 = .ok (.iload_n 1, 1) := by decide +kernel
theorem dX8_landing_36 : decode cX8_landing 36 = .ok (.if_icmp .gt 31, 3) := by decide +kernel
theorem dX8_landing_39 : decode cX8_landing 39 = .ok (.aload_n 0, 1) := by decide +kernel
theorem dX8_landing_40 : decode cX8_landing 40 = .ok (.iload 4, 2) := by decide +kernel
theorem dX8_landing_42 : decode cX8_landing 42 = .ok (.iload_n 2, 1) := by decide +kernel
theorem dX8_landing_43 : decode cX8_landing 43 = .ok (.invokevirtual 215, 3) := by decide +kernel
theorem dX8_landing_46 : decode cX8_landing 46 = .ok (.istore_n 3, 1) := by decide +kernel
theorem dX8_landing_47 : decode cX8_landing 47 = .ok (.iload_n 2, 1) := by decide +kernel
theorem dX8_landing_48 : decode cX8_landing 48 = .ok (.iload_n 3, 1) := by decide +kernel
theorem dX8_landing_49 : decode cX8_landing 49 = .ok (.ifCond .ge 7, 3) := by decide +kernel
theorem dX8_landing_52 : decode cX8_landing 52 = .ok (.iconst 0, 1) := by decide +kernel
theorem dX8_landing_53 : decode cX8_landing 53 = .ok (.goto 6, 3) := by decide +kernel
theorem dX8_landing_56 : decode cX8_landing 56 = .ok (.iconst 1, 1) := by decide +kernel
theorem dX8_landing_57 : decode cX8_landing 57 = .ok (.iload_n 3, 1) := by decide +kernel
theorem dX8_landing_58 : decode cX8_landing 58 = .ok (.ishl, 1) := by decide +kernel
theorem dX8_landing_59 : decode cX8_landing 59 = .ok (.ior, 1) := by decide +kernel
theorem dX8_landing_60 : decode cX8_landing 60 = .ok (.istore_n 2, 1) := by decide +kernel
theorem dX8_landing_61 : decode cX8_landing 61 = .ok (.iinc 4 1, 3) := by decide +kernel
theorem dX8_landing_64 : decode cX8_landing 64 = .ok (.goto (-31), 3) := by decide +kernel
theorem dX8_landing_67 : decode cX8_landing 67 = .ok (.iload_n 3, 1) := by decide +kernel
theorem dX8_landing_68 : decode cX8_landing 68 = .ok (.ifCond .ge 12, 3) := by decide +kernel
theorem dX8_landing_71 : decode cX8_landing 71 = .ok (.aload_n 0, 1) := by decide +kernel
theorem dX8_landing_72 : decode cX8_landing 72 = .ok (.ldc 52, 2) := by decide +kernel
theorem dX8_landing_74 : decode cX8_landing 74 = .ok (.invokevirtual 53, 3) := by decide +kernel
theorem dX8_landing_77 : decode cX8_landing 77 = .ok (.goto 4, 3) := by decide +kernel
theorem dX8_landing_80 : decode cX8_landing 80 = .ok (.iload_n 3, 1) := by decide +kernel
theorem dX8_landing_81 : decode cX8_landing 81 = .ok (.ireturn, 1) := by decide +kernel
theorem dX8_proves_0 : decode cX8_proves 0 = .ok (.iload_n 1, 1) := by decide +kernel
theorem dX8_proves_1 : decode cX8_proves 1 = .ok (.invokestatic 177, 3) := by decide +kernel
theorem dX8_proves_4 : decode cX8_proves 4 = .ok (.ifCond .ne 10, 3) := by decide +kernel
theorem dX8_proves_7 : decode cX8_proves 7 = .ok (.aload_n 0, 1) := by decide +kernel
theorem dX8_proves_8 : decode cX8_proves 8 = .ok (.ldc 57, 2) := by decide +kernel
theorem dX8_proves_10 : decode cX8_proves 10 = .ok (.invokevirtual 53, 3) := by decide +kernel
theorem dX8_proves_13 : decode cX8_proves 13 = .ok (.ireturn, 1) := by decide +kernel
theorem dX8_proves_14 : decode cX8_proves 14 = .ok (.aload_n 0, 1) := by decide +kernel
theorem dX8_proves_15 : decode cX8_proves 15 = .ok (.getfield 19, 3) := by decide +kernel
theorem dX8_proves_18 : decode cX8_proves 18 = .ok (.iload_n 1, 1) := by decide +kernel
theorem dX8_proves_19 : decode cX8_proves 19 = .ok (.iaload, 1) := by decide +kernel
theorem dX8_proves_20 : decode cX8_proves 20 = .ok (.ifCond .ne 10, 3) := by decide +kernel
theorem dX8_proves_23 : decode cX8_proves 23 = .ok (.aload_n 0, 1) := by decide +kernel
theorem dX8_proves_24 : decode cX8_proves 24 = .ok (.ldc 180, 2) := by decide +kernel
theorem dX8_proves_26 : decode cX8_proves 26 = .ok (.invokevirtual 53, 3) := by decide +kernel
theorem dX8_proves_29 : decode cX8_proves 29 = .ok (.ireturn, 1) := by decide +kernel
theorem dX8_proves_30 : decode cX8_proves 30 = .ok (.aload_n 0, 1) := by decide +kernel
theorem dX8_proves_31 : decode cX8_proves 31 = .ok (.getfield 22, 3) := by decide +kernel
theorem dX8_proves_34 : decode cX8_proves 34 = .ok (.iload_n 1, 1) := by decide +kernel
theorem dX8_proves_35 : decode cX8_proves 35 = .ok (.iaload, 1) := by decide +kernel
theorem dX8_proves_36 : decode cX8_proves 36 = .ok (.bipush 20, 2) := by decide +kernel
theorem dX8_proves_38 : decode cX8_proves 38 = .ok (.aload_n 0, 1) := by decide +kernel
theorem dX8_proves_39 : decode cX8_proves 39 = .ok (.getfield 9, 3) := by decide +kernel
theorem dX8_proves_42 : decode cX8_proves 42 = .ok (.iconst 5, 1) := by decide +kernel
theorem dX8_proves_43 : decode cX8_proves 43 = .ok (.iaload, 1) := by decide +kernel
theorem dX8_proves_44 : decode cX8_proves 44 = .ok (.isub, 1) := by decide +kernel
theorem dX8_proves_45 : decode cX8_proves 45 = .ok (.if_icmp .eq 10, 3) := by decide +kernel
theorem dX8_proves_48 : decode cX8_proves 48 = .ok (.aload_n 0, 1) := by decide +kernel
theorem dX8_proves_49 : decode cX8_proves 49 = .ok (.ldc 147, 2) := by decide +kernel
theorem dX8_proves_51 : decode cX8_proves 51 = .ok (.invokevirtual 53, 3) := by decide +kernel
theorem dX8_proves_54 : decode cX8_proves 54 = .ok (.ireturn, 1) := by decide +kernel
theorem dX8_proves_55 : decode cX8_proves 55 = .ok (.aload_n 0, 1) := by decide +kernel
theorem dX8_proves_56 : decode cX8_proves 56 = .ok (.invokevirtual 212, 3) := by decide +kernel
theorem dX8_proves_59 : decode cX8_proves 59 = .ok (.iconst 0, 1) := by decide +kernel
theorem dX8_proves_60 : decode cX8_proves 60 = .ok (.istore_n 2, 1) := by decide +kernel
theorem dX8_proves_61 : decode cX8_proves 61 = .ok (.iconst 0, 1) := by decide +kernel
theorem dX8_proves_62 : decode cX8_proves 62 = .ok (.istore_n 3, 1) := by decide +kernel
theorem dX8_proves_63 : decode cX8_proves 63 = .ok (.iconst 0, 1) := by decide +kernel
theorem dX8_proves_64 : decode cX8_proves 64 = .ok (.istore 4, 2) := by decide +kernel
theorem dX8_proves_66 : decode cX8_proves 66 = .ok (.iload 4, 2) := by decide +kernel
theorem dX8_proves_68 : decode cX8_proves 68 = .ok (.aload_n 0, 1) := by decide +kernel
theorem dX8_proves_69 : decode cX8_proves 69 = .ok (.getfield 22, 3) := by decide +kernel
theorem dX8_proves_72 : decode cX8_proves 72 = .ok (.iload_n 1, 1) := by decide +kernel
theorem dX8_proves_73 : decode cX8_proves 73 = .ok (.iaload, 1) := by decide +kernel
theorem dX8_proves_74 : decode cX8_proves 74 = .ok (.if_icmp .ge 85, 3) := by decide +kernel
theorem dX8_proves_77 : decode cX8_proves 77 = .ok (.aload_n 0, 1) := by decide +kernel
theorem dX8_proves_78 : decode cX8_proves 78 = .ok (.getfield 25, 3) := by decide +kernel
theorem dX8_proves_81 : decode cX8_proves 81 = .ok (.bipush 30, 2) := by decide +kernel
theorem dX8_proves_83 : decode cX8_proves 83 = .ok (.iload_n 1, 1) := by decide +kernel
theorem dX8_proves_84 : decode cX8_proves 84 = .ok (.imul, 1) := by decide +kernel
theorem dX8_proves_85 : decode cX8_proves 85 = .ok (.iload 4, 2) := by decide +kernel
theorem dX8_proves_87 : decode cX8_proves 87 = .ok (.iadd, 1) := by decide +kernel
theorem dX8_proves_88 : decode cX8_proves 88 = .ok (.iaload, 1) := by decide +kernel
theorem dX8_proves_89 : decode cX8_proves 89 = .ok (.istore 5, 2) := by decide +kernel
theorem dX8_proves_91 : decode cX8_proves 91 = .ok (.aload_n 0, 1) := by decide +kernel
theorem dX8_proves_92 : decode cX8_proves 92 = .ok (.getfield 9, 3) := by decide +kernel
theorem dX8_proves_95 : decode cX8_proves 95 = .ok (.iconst 5, 1) := by decide +kernel
theorem dX8_proves_96 : decode cX8_proves 96 = .ok (.iaload, 1) := by decide +kernel
theorem dX8_proves_97 : decode cX8_proves 97 = .ok (.iload 4, 2) := by decide +kernel
theorem dX8_proves_99 : decode cX8_proves 99 = .ok (.iadd, 1) := by decide +kernel
theorem dX8_proves_100 : decode cX8_proves 100 = .ok (.istore 6, 2) := by decide +kernel
theorem dX8_proves_102 : decode cX8_proves 102 = .ok (.iload 5, 2) := by decide +kernel
theorem dX8_proves_104 : decode cX8_proves 104 = .ok (.iconst (-1), 1) := by decide +kernel
theorem dX8_proves_105 : decode cX8_proves 105 = .ok (.if_icmp .ne 6, 3) := by decide +kernel
theorem dX8_proves_108 : decode cX8_proves 108 = .ok (.goto 45, 3) := by decide +kernel
theorem dX8_proves_111 : decode cX8_proves 111 = .ok (.aload_n 0, 1) := by decide +kernel
theorem dX8_proves_112 : decode cX8_proves 112 = .ok (.iload 5, 2) := by decide +kernel
theorem dX8_proves_114 : decode cX8_proves 114 = .ok (.iload 6, 2) := by decide +kernel
theorem dX8_proves_116 : decode cX8_proves 116 = .ok (.invokevirtual 206, 3) := by decide +kernel
theorem dX8_proves_119 : decode cX8_proves 119 = .ok (.ifCond .eq 13, 3) := by decide +kernel
theorem dX8_proves_122 : decode cX8_proves 122 = .ok (.iload_n 2, 1) := by decide +kernel
theorem dX8_proves_123 : decode cX8_proves 123 = .ok (.iload 5, 2) := by decide +kernel
theorem dX8_proves_125 : decode cX8_proves 125 = .ok (.ishr, 1) := by decide +kernel
theorem dX8_proves_126 : decode cX8_proves 126 = .ok (.iconst 1, 1) := by decide +kernel
theorem dX8_proves_127 : decode cX8_proves 127 = .ok (.iand, 1) := by decide +kernel
theorem dX8_proves_128 : decode cX8_proves 128 = .ok (.iconst 1, 1) := by decide +kernel
theorem dX8_proves_129 : decode cX8_proves 129 = .ok (.if_icmp .ne 6, 3) := by decide +kernel
theorem dX8_proves_132 : decode cX8_proves 132 = .ok (.iload 4, 2) := by decide +kernel
theorem dX8_proves_134 : decode cX8_proves 134 = .ok (.ireturn, 1) := by decide +kernel
theorem dX8_proves_135 : decode cX8_proves 135 = .ok (.iload_n 2, 1) := by decide +kernel
theorem dX8_proves_136 : decode cX8_proves 136 = .ok (.iconst 1, 1) := by decide +kernel
theorem dX8_proves_137 : decode cX8_proves 137 = .ok (.iload 5, 2) := by decide +kernel
theorem dX8_proves_139 : decode cX8_proves 139 = .ok (.ishl, 1) := by decide +kernel
theorem dX8_proves_140 : decode cX8_proves 140 = .ok (.ior, 1) := by decide +kernel
theorem dX8_proves_141 : decode cX8_proves 141 = .ok (.istore_n 2, 1) := by decide +kernel
theorem dX8_proves_142 : decode cX8_proves 142 = .ok (.iload_n 3, 1) := by decide +kernel
theorem dX8_proves_143 : decode cX8_proves 143 = .ok (.aload_n 0, 1) := by decide +kernel
theorem dX8_proves_144 : decode cX8_proves 144 = .ok (.iload 5, 2) := by decide +kernel
theorem dX8_proves_146 : decode cX8_proves 146 = .ok (.iload 6, 2) := by decide +kernel
theorem dX8_proves_148 : decode cX8_proves 148 = .ok (.invokevirtual 200, 3) := by decide +kernel
theorem dX8_proves_151 : decode cX8_proves 151 = .ok (.iadd, 1) := by decide +kernel
theorem dX8_proves_152 : decode cX8_proves 152 = .ok (.istore_n 3, 1) := by decide +kernel
theorem dX8_proves_153 : decode cX8_proves 153 = .ok (.iinc 4 1, 3) := by decide +kernel
theorem dX8_proves_156 : decode cX8_proves 156 = .ok (.goto (-90), 3) := by decide +kernel
theorem dX8_proves_159 : decode cX8_proves 159 = .ok (.iload_n 3, 1) := by decide +kernel
theorem dX8_proves_160 : decode cX8_proves 160 = .ok (.aload_n 0, 1) := by decide +kernel
theorem dX8_proves_161 : decode cX8_proves 161 = .ok (.iload_n 2, 1) := by decide +kernel
theorem dX8_proves_162 : decode cX8_proves 162 = .ok (.invokevirtual 203, 3) := by decide +kernel
theorem dX8_proves_165 : decode cX8_proves 165 = .ok (.iadd, 1) := by decide +kernel
theorem dX8_proves_166 : decode cX8_proves 166 = .ok (.aload_n 0, 1) := by decide +kernel
theorem dX8_proves_167 : decode cX8_proves 167 = .ok (.getfield 31, 3) := by decide +kernel
theorem dX8_proves_170 : decode cX8_proves 170 = .ok (.sipush 1024, 3) := by decide +kernel
theorem dX8_proves_173 : decode cX8_proves 173 = .ok (.aload_n 0, 1) := by decide +kernel
theorem dX8_proves_174 : decode cX8_proves 174 = .ok (.getfield 9, 3) := by decide +kernel
theorem dX8_proves_177 : decode cX8_proves 177 = .ok (.iconst 5, 1) := by decide +kernel
theorem dX8_proves_178 : decode cX8_proves 178 = .ok (.iaload, 1) := by decide +kernel
theorem dX8_proves_179 : decode cX8_proves 179 = .ok (.imul, 1) := by decide +kernel
theorem dX8_proves_180 : decode cX8_proves 180 = .ok (.iaload, 1) := by decide +kernel
theorem dX8_proves_181 : decode cX8_proves 181 = .ok (.if_icmp .ne 7, 3) := by decide +kernel
theorem dX8_proves_184 : decode cX8_proves 184 = .ok (.iconst (-1), 1) := by decide +kernel
theorem dX8_proves_185 : decode cX8_proves 185 = .ok (.goto 9, 3) := by decide +kernel
theorem dX8_proves_188 : decode cX8_proves 188 = .ok (.aload_n 0, 1) := by decide +kernel
theorem dX8_proves_189 : decode cX8_proves 189 = .ok (.getfield 22, 3) := by decide +kernel
theorem dX8_proves_192 : decode cX8_proves 192 = .ok (.iload_n 1, 1) := by decide +kernel
theorem dX8_proves_193 : decode cX8_proves 193 = .ok (.iaload, 1) := by decide +kernel
theorem dX8_proves_194 : decode cX8_proves 194 = .ok (.ireturn, 1) := by decide +kernel
theorem dX8_isSheet_0 : decode cX8_isSheet 0 = .ok (.iload_n 0, 1) := by decide +kernel
theorem dX8_isSheet_1 : decode cX8_isSheet 1 = .ok (.iconst 0, 1) := by decide +kernel
theorem dX8_isSheet_2 : decode cX8_isSheet 2 = .ok (.iconst 3, 1) := by decide +kernel
theorem dX8_isSheet_3 : decode cX8_isSheet 3 = .ok (.invokestatic 41, 3) := by decide +kernel
theorem dX8_isSheet_6 : decode cX8_isSheet 6 = .ok (.ireturn, 1) := by decide +kernel
theorem dX8_sheet_0 : decode cX8_sheet 0 = .ok (.iload_n 1, 1) := by decide +kernel
theorem dX8_sheet_1 : decode cX8_sheet 1 = .ok (.invokestatic 177, 3) := by decide +kernel
theorem dX8_sheet_4 : decode cX8_sheet 4 = .ok (.ifCond .eq 25, 3) := by decide +kernel
theorem dX8_sheet_7 : decode cX8_sheet 7 = .ok (.iload_n 2, 1) := by decide +kernel
theorem dX8_sheet_8 : decode cX8_sheet 8 = .ok (.ifCond .eq 28, 3) := by decide +kernel
theorem dX8_sheet_11 : decode cX8_sheet 11 = .ok (.iload_n 2, 1) := by decide +kernel
theorem dX8_sheet_12 : decode cX8_sheet 12 = .ok (.bipush 8, 2) := by decide +kernel
theorem dX8_sheet_14 : decode cX8_sheet 14 = .ok (.if_icmp .eq 22, 3) := by decide +kernel
theorem dX8_sheet_17 : decode cX8_sheet 17 = .ok (.iload_n 2, 1) := by decide +kernel
theorem dX8_sheet_18 : decode cX8_sheet 18 = .ok (.bipush 16, 2) := by decide +kernel
theorem dX8_sheet_20 : decode cX8_sheet 20 = .ok (.if_icmp .eq 16, 3) := by decide +kernel
theorem dX8_sheet_23 : decode cX8_sheet 23 = .ok (.iload_n 2, 1) := by decide +kernel
theorem dX8_sheet_24 : decode cX8_sheet 24 = .ok (.bipush 32, 2) := by decide +kernel
theorem dX8_sheet_26 : decode cX8_sheet 26 = .ok (.if_icmp .eq 10, 3) := by decide +kernel
theorem dX8_sheet_29 : decode cX8_sheet 29 = .ok (.aload_n 0, 1) := by decide +kernel
theorem dX8_sheet_30 : decode cX8_sheet 30 = .ok (.ldc 57, 2) := by decide +kernel
theorem dX8_sheet_32 : decode cX8_sheet 32 = .ok (.invokevirtual 53, 3) := by decide +kernel
theorem dX8_sheet_35 : decode cX8_sheet 35 = .ok (.ireturn, 1) := by decide +kernel
theorem dX8_sheet_36 : decode cX8_sheet 36 = .ok (.iload_n 3, 1) := by decide +kernel
theorem dX8_sheet_37 : decode cX8_sheet 37 = .ok (.ifCond .ge 10, 3) := by decide +kernel
theorem dX8_sheet_40 : decode cX8_sheet 40 = .ok (.aload_n 0, 1) := by decide +kernel
theorem dX8_sheet_41 : decode cX8_sheet 41 = .ok (.ldc 147, 2) := by decide +kernel
theorem dX8_sheet_43 : decode cX8_sheet 43 = .ok (.invokevirtual 53, 3) := by decide +kernel
theorem dX8_sheet_46 : decode cX8_sheet 46 = .ok (.ireturn, 1) := by decide +kernel
theorem dX8_sheet_47 : decode cX8_sheet 47 = .ok (.iload_n 3, 1) := by decide +kernel
theorem dX8_sheet_48 : decode cX8_sheet 48 = .ok (.bipush 30, 2) := by decide +kernel
theorem dX8_sheet_50 : decode cX8_sheet 50 = .ok (.if_icmp .le 10, 3) := by decide +kernel
theorem dX8_sheet_53 : decode cX8_sheet 53 = .ok (.aload_n 0, 1) := by decide +kernel
theorem dX8_sheet_54 : decode cX8_sheet 54 = .ok (.ldc 57, 2) := by decide +kernel
theorem dX8_sheet_56 : decode cX8_sheet 56 = .ok (.invokevirtual 53, 3) := by decide +kernel
theorem dX8_sheet_59 : decode cX8_sheet 59 = .ok (.ireturn, 1) := by decide +kernel
theorem dX8_sheet_60 : decode cX8_sheet 60 = .ok (.aload_n 0, 1) := by decide +kernel
theorem dX8_sheet_61 : decode cX8_sheet 61 = .ok (.getfield 19, 3) := by decide +kernel
theorem dX8_sheet_64 : decode cX8_sheet 64 = .ok (.iload_n 1, 1) := by decide +kernel
theorem dX8_sheet_65 : decode cX8_sheet 65 = .ok (.iload_n 2, 1) := by decide +kernel
theorem dX8_sheet_66 : decode cX8_sheet 66 = .ok (.iastore, 1) := by decide +kernel
theorem dX8_sheet_67 : decode cX8_sheet 67 = .ok (.aload_n 0, 1) := by decide +kernel
theorem dX8_sheet_68 : decode cX8_sheet 68 = .ok (.getfield 22, 3) := by decide +kernel
theorem dX8_sheet_71 : decode cX8_sheet 71 = .ok (.iload_n 1, 1) := by decide +kernel
theorem dX8_sheet_72 : decode cX8_sheet 72 = .ok (.iload_n 2, 1) := by decide +kernel
theorem dX8_sheet_73 : decode cX8_sheet 73 = .ok (.ifCond .ne 7, 3) := by decide +kernel
theorem dX8_sheet_76 : decode cX8_sheet 76 = .ok (.iconst 0, 1) := by decide +kernel
theorem dX8_sheet_77 : decode cX8_sheet 77 = .ok (.goto 4, 3) := by decide +kernel
theorem dX8_sheet_80 : decode cX8_sheet 80 = .ok (.iload_n 3, 1) := by decide +kernel
theorem dX8_sheet_81 : decode cX8_sheet 81 = .ok (.iastore, 1) := by decide +kernel
theorem dX8_sheet_82 : decode cX8_sheet 82 = .ok (.iconst 0, 1) := by decide +kernel
theorem dX8_sheet_83 : decode cX8_sheet 83 = .ok (.istore 4, 2) := by decide +kernel
theorem dX8_sheet_85 : decode cX8_sheet 85 = .ok (.iload 4, 2) := by decide +kernel
theorem dX8_sheet_87 : decode cX8_sheet 87 = .ok (.bipush 30, 2) := by decide +kernel
theorem dX8_sheet_89 : decode cX8_sheet 89 = .ok (.if_icmp .ge 22, 3) := by decide +kernel
theorem dX8_sheet_92 : decode cX8_sheet 92 = .ok (.aload_n 0, 1) := by decide +kernel
theorem dX8_sheet_93 : decode cX8_sheet 93 = .ok (.getfield 25, 3) := by decide +kernel
theorem dX8_sheet_96 : decode cX8_sheet 96 = .ok (.bipush 30, 2) := by decide +kernel
theorem dX8_sheet_98 : decode cX8_sheet 98 = .ok (.iload_n 1, 1) := by decide +kernel
theorem dX8_sheet_99 : decode cX8_sheet 99 = .ok (.imul, 1) := by decide +kernel
theorem dX8_sheet_100 : decode cX8_sheet 100 = .ok (.iload 4, 2) := by decide +kernel
theorem dX8_sheet_102 : decode cX8_sheet 102 = .ok (.iadd, 1) := by decide +kernel
theorem dX8_sheet_103 : decode cX8_sheet 103 = .ok (.iconst 0, 1) := by decide +kernel
theorem dX8_sheet_104 : decode cX8_sheet 104 = .ok (.iastore, 1) := by decide +kernel
theorem dX8_sheet_105 : decode cX8_sheet 105 = .ok (.iinc 4 1, 3) := by decide +kernel
theorem dX8_sheet_108 : decode cX8_sheet 108 = .ok (.goto (-23), 3) := by decide +kernel
theorem dX8_sheet_111 : decode cX8_sheet 111 = .ok (.aload_n 0, 1) := by decide +kernel
theorem dX8_sheet_112 : decode cX8_sheet 112 = .ok (.getfield 22, 3) := by decide +kernel
theorem dX8_sheet_115 : decode cX8_sheet 115 = .ok (.iload_n 1, 1) := by decide +kernel
theorem dX8_sheet_116 : decode cX8_sheet 116 = .ok (.iaload, 1) := by decide +kernel
theorem dX8_sheet_117 : decode cX8_sheet 117 = .ok (.ireturn, 1) := by decide +kernel
theorem dX8_put_0 : decode cX8_put 0 = .ok (.iload_n 1, 1) := by decide +kernel
theorem dX8_put_1 : decode cX8_put 1 = .ok (.invokestatic 177, 3) := by decide +kernel
theorem dX8_put_4 : decode cX8_put 4 = .ok (.ifCond .ne 10, 3) := by decide +kernel
theorem dX8_put_7 : decode cX8_put 7 = .ok (.aload_n 0, 1) := by decide +kernel
theorem dX8_put_8 : decode cX8_put 8 = .ok (.ldc 57, 2) := by decide +kernel
theorem dX8_put_10 : decode cX8_put 10 = .ok (.invokevirtual 53, 3) := by decide +kernel
theorem dX8_put_13 : decode cX8_put 13 = .ok (.ireturn, 1) := by decide +kernel
theorem dX8_put_14 : decode cX8_put 14 = .ok (.aload_n 0, 1) := by decide +kernel
theorem dX8_put_15 : decode cX8_put 15 = .ok (.getfield 19, 3) := by decide +kernel
theorem dX8_put_18 : decode cX8_put 18 = .ok (.iload_n 1, 1) := by decide +kernel
theorem dX8_put_19 : decode cX8_put 19 = .ok (.iaload, 1) := by decide +kernel
theorem dX8_put_20 : decode cX8_put 20 = .ok (.ifCond .ne 10, 3) := by decide +kernel
theorem dX8_put_23 : decode cX8_put 23 = .ok (.aload_n 0, 1) := by decide +kernel
theorem dX8_put_24 : decode cX8_put 24 = .ok (.ldc 180, 2) := by decide +kernel
theorem dX8_put_26 : decode cX8_put 26 = .ok (.invokevirtual 53, 3) := by decide +kernel
theorem dX8_put_29 : decode cX8_put 29 = .ok (.ireturn, 1) := by decide +kernel
theorem dX8_put_30 : decode cX8_put 30 = .ok (.iload_n 2, 1) := by decide +kernel
theorem dX8_put_31 : decode cX8_put 31 = .ok (.iconst 0, 1) := by decide +kernel
theorem dX8_put_32 : decode cX8_put 32 = .ok (.aload_n 0, 1) := by decide +kernel
theorem dX8_put_33 : decode cX8_put 33 = .ok (.getfield 22, 3) := by decide +kernel
theorem dX8_put_36 : decode cX8_put 36 = .ok (.iload_n 1, 1) := by decide +kernel
theorem dX8_put_37 : decode cX8_put 37 = .ok (.iaload, 1) := by decide +kernel
theorem dX8_put_38 : decode cX8_put 38 = .ok (.iconst 1, 1) := by decide +kernel
theorem dX8_put_39 : decode cX8_put 39 = .ok (.isub, 1) := by decide +kernel
theorem dX8_put_40 : decode cX8_put 40 = .ok (.invokestatic 41, 3) := by decide +kernel
theorem dX8_put_43 : decode cX8_put 43 = .ok (.ifCond .ne 10, 3) := by decide +kernel
theorem dX8_put_46 : decode cX8_put 46 = .ok (.aload_n 0, 1) := by decide +kernel
theorem dX8_put_47 : decode cX8_put 47 = .ok (.ldc 57, 2) := by decide +kernel
theorem dX8_put_49 : decode cX8_put 49 = .ok (.invokevirtual 53, 3) := by decide +kernel
theorem dX8_put_52 : decode cX8_put 52 = .ok (.ireturn, 1) := by decide +kernel
theorem dX8_put_53 : decode cX8_put 53 = .ok (.bipush 32, 2) := by decide +kernel
theorem dX8_put_55 : decode cX8_put 55 = .ok (.aload_n 0, 1) := by decide +kernel
theorem dX8_put_56 : decode cX8_put 56 = .ok (.getfield 19, 3) := by decide +kernel
theorem dX8_put_59 : decode cX8_put 59 = .ok (.iload_n 1, 1) := by decide +kernel
theorem dX8_put_60 : decode cX8_put 60 = .ok (.iaload, 1) := by decide +kernel
theorem dX8_put_61 : decode cX8_put 61 = .ok (.isub, 1) := by decide +kernel
theorem dX8_put_62 : decode cX8_put 62 = .ok (.istore 4, 2) := by decide +kernel
theorem dX8_put_64 : decode cX8_put 64 = .ok (.aload_n 0, 1) := by decide +kernel
theorem dX8_put_65 : decode cX8_put 65 = .ok (.getfield 25, 3) := by decide +kernel
theorem dX8_put_68 : decode cX8_put 68 = .ok (.bipush 30, 2) := by decide +kernel
theorem dX8_put_70 : decode cX8_put 70 = .ok (.iload_n 1, 1) := by decide +kernel
theorem dX8_put_71 : decode cX8_put 71 = .ok (.imul, 1) := by decide +kernel
theorem dX8_put_72 : decode cX8_put 72 = .ok (.iload_n 2, 1) := by decide +kernel
theorem dX8_put_73 : decode cX8_put 73 = .ok (.iadd, 1) := by decide +kernel
theorem dX8_put_74 : decode cX8_put 74 = .ok (.iload_n 3, 1) := by decide +kernel
theorem dX8_put_75 : decode cX8_put 75 = .ok (.iload 4, 2) := by decide +kernel
theorem dX8_put_77 : decode cX8_put 77 = .ok (.ishl, 1) := by decide +kernel
theorem dX8_put_78 : decode cX8_put 78 = .ok (.iload 4, 2) := by decide +kernel
theorem dX8_put_80 : decode cX8_put 80 = .ok (.ishr, 1) := by decide +kernel
theorem dX8_put_81 : decode cX8_put 81 = .ok (.iastore, 1) := by decide +kernel
theorem dX8_put_82 : decode cX8_put 82 = .ok (.iconst 0, 1) := by decide +kernel
theorem dX8_put_83 : decode cX8_put 83 = .ok (.ireturn, 1) := by decide +kernel
theorem dX8_copy_0 : decode cX8_copy 0 = .ok (.iload_n 1, 1) := by decide +kernel
theorem dX8_copy_1 : decode cX8_copy 1 = .ok (.invokestatic 177, 3) := by decide +kernel
theorem dX8_copy_4 : decode cX8_copy 4 = .ok (.ifCond .eq 10, 3) := by decide +kernel
theorem dX8_copy_7 : decode cX8_copy 7 = .ok (.iload_n 3, 1) := by decide +kernel
theorem dX8_copy_8 : decode cX8_copy 8 = .ok (.invokestatic 177, 3) := by decide +kernel
theorem dX8_copy_11 : decode cX8_copy 11 = .ok (.ifCond .ne 10, 3) := by decide +kernel
theorem dX8_copy_14 : decode cX8_copy 14 = .ok (.aload_n 0, 1) := by decide +kernel
theorem dX8_copy_15 : decode cX8_copy 15 = .ok (.ldc 57, 2) := by decide +kernel
theorem dX8_copy_17 : decode cX8_copy 17 = .ok (.invokevirtual 53, 3) := by decide +kernel
theorem dX8_copy_20 : decode cX8_copy 20 = .ok (.ireturn, 1) := by decide +kernel
theorem dX8_copy_21 : decode cX8_copy 21 = .ok (.aload_n 0, 1) := by decide +kernel
theorem dX8_copy_22 : decode cX8_copy 22 = .ok (.getfield 19, 3) := by decide +kernel
theorem dX8_copy_25 : decode cX8_copy 25 = .ok (.iload_n 1, 1) := by decide +kernel
theorem dX8_copy_26 : decode cX8_copy 26 = .ok (.iaload, 1) := by decide +kernel
theorem dX8_copy_27 : decode cX8_copy 27 = .ok (.ifCond .eq 12, 3) := by decide +kernel
theorem dX8_copy_30 : decode cX8_copy 30 = .ok (.aload_n 0, 1) := by decide +kernel
theorem dX8_copy_31 : decode cX8_copy 31 = .ok (.getfield 19, 3) := by decide +kernel
theorem dX8_copy_34 : decode cX8_copy 34 = .ok (.iload_n 3, 1) := by decide +kernel
theorem dX8_copy_35 : decode cX8_copy 35 = .ok (.iaload, 1) := by decide +kernel
theorem dX8_copy_36 : decode cX8_copy 36 = .ok (.ifCond .ne 10, 3) := by decide +kernel
theorem dX8_copy_39 : decode cX8_copy 39 = .ok (.aload_n 0, 1) := by decide +kernel
theorem dX8_copy_40 : decode cX8_copy 40 = .ok (.ldc 180, 2) := by decide +kernel
theorem dX8_copy_42 : decode cX8_copy 42 = .ok (.invokevirtual 53, 3) := by decide +kernel
theorem dX8_copy_45 : decode cX8_copy 45 = .ok (.ireturn, 1) := by decide +kernel
theorem dX8_copy_46 : decode cX8_copy 46 = .ok (.aload_n 0, 1) := by decide +kernel
theorem dX8_copy_47 : decode cX8_copy 47 = .ok (.getfield 19, 3) := by decide +kernel
theorem dX8_copy_50 : decode cX8_copy 50 = .ok (.iload_n 1, 1) := by decide +kernel
theorem dX8_copy_51 : decode cX8_copy 51 = .ok (.iaload, 1) := by decide +kernel
theorem dX8_copy_52 : decode cX8_copy 52 = .ok (.aload_n 0, 1) := by decide +kernel
theorem dX8_copy_53 : decode cX8_copy 53 = .ok (.getfield 19, 3) := by decide +kernel
theorem dX8_copy_56 : decode cX8_copy 56 = .ok (.iload_n 3, 1) := by decide +kernel
theorem dX8_copy_57 : decode cX8_copy 57 = .ok (.iaload, 1) := by decide +kernel
theorem dX8_copy_58 : decode cX8_copy 58 = .ok (.if_icmp .eq 10, 3) := by decide +kernel
theorem dX8_copy_61 : decode cX8_copy 61 = .ok (.aload_n 0, 1) := by decide +kernel
theorem dX8_copy_62 : decode cX8_copy 62 = .ok (.ldc 123, 2) := by decide +kernel
theorem dX8_copy_64 : decode cX8_copy 64 = .ok (.invokevirtual 53, 3) := by decide +kernel
theorem dX8_copy_67 : decode cX8_copy 67 = .ok (.ireturn, 1) := by decide +kernel
theorem dX8_copy_68 : decode cX8_copy 68 = .ok (.iload_n 2, 1) := by decide +kernel
theorem dX8_copy_69 : decode cX8_copy 69 = .ok (.ifCond .lt 48, 3) := by decide +kernel
theorem dX8_copy_72 : decode cX8_copy 72 = .ok (.iload 4, 2) := by decide +kernel
theorem dX8_copy_74 : decode cX8_copy 74 = .ok (.ifCond .lt 43, 3) := by decide +kernel
theorem dX8_copy_77 : decode cX8_copy 77 = .ok (.iload 5, 2) := by decide +kernel
theorem dX8_copy_79 : decode cX8_copy 79 = .ok (.ifCond .lt 38, 3) := by decide +kernel
theorem dX8_copy_82 : decode cX8_copy 82 = .ok (.iload_n 2, 1) := by decide +kernel
theorem dX8_copy_83 : decode cX8_copy 83 = .ok (.i2l, 1) := by decide +kernel
theorem dX8_copy_84 : decode cX8_copy 84 = .ok (.iload 5, 2) := by decide +kernel
theorem dX8_copy_86 : decode cX8_copy 86 = .ok (.i2l, 1) := by decide +kernel
theorem dX8_copy_87 : decode cX8_copy 87 = .ok (.ladd, 1) := by decide +kernel
theorem dX8_copy_88 : decode cX8_copy 88 = .ok (.aload_n 0, 1) := by decide +kernel
theorem dX8_copy_89 : decode cX8_copy 89 = .ok (.getfield 22, 3) := by decide +kernel
theorem dX8_copy_92 : decode cX8_copy 92 = .ok (.iload_n 1, 1) := by decide +kernel
theorem dX8_copy_93 : decode cX8_copy 93 = .ok (.iaload, 1) := by decide +kernel
theorem dX8_copy_94 : decode cX8_copy 94 = .ok (.i2l, 1) := by decide +kernel
theorem dX8_copy_95 : decode cX8_copy 95 = .ok (.lcmp, 1) := by decide +kernel
theorem dX8_copy_96 : decode cX8_copy 96 = .ok (.ifCond .gt 21, 3) := by decide +kernel
theorem dX8_copy_99 : decode cX8_copy 99 = .ok (.iload 4, 2) := by decide +kernel
theorem dX8_copy_101 : decode cX8_copy 101 = .ok (.i2l, 1) := by decide +kernel
theorem dX8_copy_102 : decode cX8_copy 102 = .ok (.iload 5, 2) := by decide +kernel
theorem dX8_copy_104 : decode cX8_copy 104 = .ok (.i2l, 1) := by decide +kernel
theorem dX8_copy_105 : decode cX8_copy 105 = .ok (.ladd, 1) := by decide +kernel
theorem dX8_copy_106 : decode cX8_copy 106 = .ok (.aload_n 0, 1) := by decide +kernel
theorem dX8_copy_107 : decode cX8_copy 107 = .ok (.getfield 22, 3) := by decide +kernel
theorem dX8_copy_110 : decode cX8_copy 110 = .ok (.iload_n 3, 1) := by decide +kernel
theorem dX8_copy_111 : decode cX8_copy 111 = .ok (.iaload, 1) := by decide +kernel
theorem dX8_copy_112 : decode cX8_copy 112 = .ok (.i2l, 1) := by decide +kernel
theorem dX8_copy_113 : decode cX8_copy 113 = .ok (.lcmp, 1) := by decide +kernel
theorem dX8_copy_114 : decode cX8_copy 114 = .ok (.ifCond .le 10, 3) := by decide +kernel
theorem dX8_copy_117 : decode cX8_copy 117 = .ok (.aload_n 0, 1) := by decide +kernel
theorem dX8_copy_118 : decode cX8_copy 118 = .ok (.ldc 57, 2) := by decide +kernel
theorem dX8_copy_120 : decode cX8_copy 120 = .ok (.invokevirtual 53, 3) := by decide +kernel
theorem dX8_copy_123 : decode cX8_copy 123 = .ok (.ireturn, 1) := by decide +kernel
theorem dX8_copy_124 : decode cX8_copy 124 = .ok (.iconst 0, 1) := by decide +kernel
theorem dX8_copy_125 : decode cX8_copy 125 = .ok (.istore 6, 2) := by decide +kernel
theorem dX8_copy_127 : decode cX8_copy 127 = .ok (.iload 6, 2) := by decide +kernel
theorem dX8_copy_129 : decode cX8_copy 129 = .ok (.iload 5, 2) := by decide +kernel
theorem dX8_copy_131 : decode cX8_copy 131 = .ok (.if_icmp .ge 30, 3) := by decide +kernel
theorem dX8_copy_134 : decode cX8_copy 134 = .ok (.aload_n 0, 1) := by decide +kernel
theorem dX8_copy_135 : decode cX8_copy 135 = .ok (.getfield 34, 3) := by decide +kernel
theorem dX8_copy_138 : decode cX8_copy 138 = .ok (.iload 6, 2) := by decide +kernel
theorem dX8_copy_140 : decode cX8_copy 140 = .ok (.aload_n 0, 1) := by decide +kernel
theorem dX8_copy_141 : decode cX8_copy 141 = .ok (.getfield 25, 3) := by decide +kernel
theorem dX8_copy_144 : decode cX8_copy 144 = .ok (.bipush 30, 2) := by decide +kernel
theorem dX8_copy_146 : decode cX8_copy 146 = .ok (.iload_n 1, 1) := by decide +kernel
theorem dX8_copy_147 : decode cX8_copy 147 = .ok (.imul, 1) := by decide +kernel
theorem dX8_copy_148 : decode cX8_copy 148 = .ok (.iload_n 2, 1) := by decide +kernel
theorem dX8_copy_149 : decode cX8_copy 149 = .ok (.iadd, 1) := by decide +kernel
theorem dX8_copy_150 : decode cX8_copy 150 = .ok (.iload 6, 2) := by decide +kernel
theorem dX8_copy_152 : decode cX8_copy 152 = .ok (.iadd, 1) := by decide +kernel
theorem dX8_copy_153 : decode cX8_copy 153 = .ok (.iaload, 1) := by decide +kernel
theorem dX8_copy_154 : decode cX8_copy 154 = .ok (.iastore, 1) := by decide +kernel
theorem dX8_copy_155 : decode cX8_copy 155 = .ok (.iinc 6 1, 3) := by decide +kernel
theorem dX8_copy_158 : decode cX8_copy 158 = .ok (.goto (-31), 3) := by decide +kernel
theorem dX8_copy_161 : decode cX8_copy 161 = .ok (.iconst 0, 1) := by decide +kernel
theorem dX8_copy_162 : decode cX8_copy 162 = .ok (.istore 6, 2) := by decide +kernel
theorem dX8_copy_164 : decode cX8_copy 164 = .ok (.iload 6, 2) := by decide +kernel
theorem dX8_copy_166 : decode cX8_copy 166 = .ok (.iload 5, 2) := by decide +kernel
theorem dX8_copy_168 : decode cX8_copy 168 = .ok (.if_icmp .ge 31, 3) := by decide +kernel
theorem dX8_copy_171 : decode cX8_copy 171 = .ok (.aload_n 0, 1) := by decide +kernel
theorem dX8_copy_172 : decode cX8_copy 172 = .ok (.getfield 25, 3) := by decide +kernel
theorem dX8_copy_175 : decode cX8_copy 175 = .ok (.bipush 30, 2) := by decide +kernel
theorem dX8_copy_177 : decode cX8_copy 177 = .ok (.iload_n 3, 1) := by decide +kernel
theorem dX8_copy_178 : decode cX8_copy 178 = .ok (.imul, 1) := by decide +kernel
theorem dX8_copy_179 : decode cX8_copy 179 = .ok (.iload 4, 2) := by decide +kernel
theorem dX8_copy_181 : decode cX8_copy 181 = .ok (.iadd, 1) := by decide +kernel
theorem dX8_copy_182 : decode cX8_copy 182 = .ok (.iload 6, 2) := by decide +kernel
theorem dX8_copy_184 : decode cX8_copy 184 = .ok (.iadd, 1) := by decide +kernel
theorem dX8_copy_185 : decode cX8_copy 185 = .ok (.aload_n 0, 1) := by decide +kernel
theorem dX8_copy_186 : decode cX8_copy 186 = .ok (.getfield 34, 3) := by decide +kernel
theorem dX8_copy_189 : decode cX8_copy 189 = .ok (.iload 6, 2) := by decide +kernel
theorem dX8_copy_191 : decode cX8_copy 191 = .ok (.iaload, 1) := by decide +kernel
theorem dX8_copy_192 : decode cX8_copy 192 = .ok (.iastore, 1) := by decide +kernel
theorem dX8_copy_193 : decode cX8_copy 193 = .ok (.iinc 6 1, 3) := by decide +kernel
theorem dX8_copy_196 : decode cX8_copy 196 = .ok (.goto (-32), 3) := by decide +kernel
theorem dX8_copy_199 : decode cX8_copy 199 = .ok (.iload 5, 2) := by decide +kernel
theorem dX8_copy_201 : decode cX8_copy 201 = .ok (.ireturn, 1) := by decide +kernel
theorem dX8_all_0 : decode cX8_all 0 = .ok (.iconst 0, 1) := by decide +kernel
theorem dX8_all_1 : decode cX8_all 1 = .ok (.istore_n 2, 1) := by decide +kernel
theorem dX8_all_2 : decode cX8_all 2 = .ok (.iconst 0, 1) := by decide +kernel
theorem dX8_all_3 : decode cX8_all 3 = .ok (.istore_n 3, 1) := by decide +kernel
theorem dX8_all_4 : decode cX8_all 4 = .ok (.iload_n 3, 1) := by decide +kernel
theorem dX8_all_5 : decode cX8_all 5 = .ok (.aload_n 0, 1) := by decide +kernel
theorem dX8_all_6 : decode cX8_all 6 = .ok (.getfield 9, 3) := by decide +kernel
theorem dX8_all_9 : decode cX8_all 9 = .ok (.iconst 0, 1) := by decide +kernel
theorem dX8_all_10 : decode cX8_all 10 = .ok (.iaload, 1) := by decide +kernel
theorem dX8_all_11 : decode cX8_all 11 = .ok (.if_icmp .ge 25, 3) := by decide +kernel
theorem dX8_all_14 : decode cX8_all 14 = .ok (.iload_n 2, 1) := by decide +kernel
theorem dX8_all_15 : decode cX8_all 15 = .ok (.aload_n 0, 1) := by decide +kernel
theorem dX8_all_16 : decode cX8_all 16 = .ok (.iload_n 3, 1) := by decide +kernel
theorem dX8_all_17 : decode cX8_all 17 = .ok (.invokevirtual 193, 3) := by decide +kernel
theorem dX8_all_20 : decode cX8_all 20 = .ok (.ifCond .eq 7, 3) := by decide +kernel
theorem dX8_all_23 : decode cX8_all 23 = .ok (.iconst 1, 1) := by decide +kernel
theorem dX8_all_24 : decode cX8_all 24 = .ok (.goto 4, 3) := by decide +kernel
theorem dX8_all_27 : decode cX8_all 27 = .ok (.iconst 0, 1) := by decide +kernel
theorem dX8_all_28 : decode cX8_all 28 = .ok (.iadd, 1) := by decide +kernel
theorem dX8_all_29 : decode cX8_all 29 = .ok (.istore_n 2, 1) := by decide +kernel
theorem dX8_all_30 : decode cX8_all 30 = .ok (.iinc 3 1, 3) := by decide +kernel
theorem dX8_all_33 : decode cX8_all 33 = .ok (.goto (-29), 3) := by decide +kernel
theorem dX8_all_36 : decode cX8_all 36 = .ok (.iload_n 1, 1) := by decide +kernel
theorem dX8_all_37 : decode cX8_all 37 = .ok (.tableswitch 83 0 6 #[43, 50, 52, 59, 66, 73, 78], 43) := by decide +kernel
theorem dX8_all_80 : decode cX8_all 80 = .ok (.aload_n 0, 1) := by decide +kernel
theorem dX8_all_81 : decode cX8_all 81 = .ok (.getfield 9, 3) := by decide +kernel
theorem dX8_all_84 : decode cX8_all 84 = .ok (.iconst 0, 1) := by decide +kernel
theorem dX8_all_85 : decode cX8_all 85 = .ok (.iaload, 1) := by decide +kernel
theorem dX8_all_86 : decode cX8_all 86 = .ok (.ireturn, 1) := by decide +kernel
theorem dX8_all_87 : decode cX8_all 87 = .ok (.iload_n 2, 1) := by decide +kernel
theorem dX8_all_88 : decode cX8_all 88 = .ok (.ireturn, 1) := by decide +kernel
theorem dX8_all_89 : decode cX8_all 89 = .ok (.aload_n 0, 1) := by decide +kernel
theorem dX8_all_90 : decode cX8_all 90 = .ok (.getfield 9, 3) := by decide +kernel
theorem dX8_all_93 : decode cX8_all 93 = .ok (.iconst 1, 1) := by decide +kernel
theorem dX8_all_94 : decode cX8_all 94 = .ok (.iaload, 1) := by decide +kernel
theorem dX8_all_95 : decode cX8_all 95 = .ok (.ireturn, 1) := by decide +kernel
theorem dX8_all_96 : decode cX8_all 96 = .ok (.aload_n 0, 1) := by decide +kernel
theorem dX8_all_97 : decode cX8_all 97 = .ok (.getfield 9, 3) := by decide +kernel
theorem dX8_all_100 : decode cX8_all 100 = .ok (.iconst 2, 1) := by decide +kernel
theorem dX8_all_101 : decode cX8_all 101 = .ok (.iaload, 1) := by decide +kernel
theorem dX8_all_102 : decode cX8_all 102 = .ok (.ireturn, 1) := by decide +kernel
theorem dX8_all_103 : decode cX8_all 103 = .ok (.aload_n 0, 1) := by decide +kernel
theorem dX8_all_104 : decode cX8_all 104 = .ok (.getfield 9, 3) := by decide +kernel
theorem dX8_all_107 : decode cX8_all 107 = .ok (.iconst 3, 1) := by decide +kernel
theorem dX8_all_108 : decode cX8_all 108 = .ok (.iaload, 1) := by decide +kernel
theorem dX8_all_109 : decode cX8_all 109 = .ok (.ireturn, 1) := by decide +kernel
theorem dX8_all_110 : decode cX8_all 110 = .ok (.aload_n 0, 1) := by decide +kernel
theorem dX8_all_111 : decode cX8_all 111 = .ok (.getfield 58, 3) := by decide +kernel
theorem dX8_all_114 : decode cX8_all 114 = .ok (.ireturn, 1) := by decide +kernel
theorem dX8_all_115 : decode cX8_all 115 = .ok (.aload_n 0, 1) := by decide +kernel
theorem dX8_all_116 : decode cX8_all 116 = .ok (.getfield 37, 3) := by decide +kernel
theorem dX8_all_119 : decode cX8_all 119 = .ok (.ireturn, 1) := by decide +kernel
theorem dX8_all_120 : decode cX8_all 120 = .ok (.aload_n 0, 1) := by decide +kernel
theorem dX8_all_121 : decode cX8_all 121 = .ok (.ldc 57, 2) := by decide +kernel
theorem dX8_all_123 : decode cX8_all 123 = .ok (.invokevirtual 53, 3) := by decide +kernel
theorem dX8_all_126 : decode cX8_all 126 = .ok (.ireturn, 1) := by decide +kernel
end
section
theorem dL_law_0 : decode cL_law 0 = .ok (.new 7, 3) := by decide +kernel
theorem dL_law_3 : decode cL_law 3 = .ok (.dup, 1) := by decide +kernel
theorem dL_law_4 : decode cL_law 4 = .ok (.invokespecial 9, 3) := by decide +kernel
theorem dL_law_7 : decode cL_law 7 = .ok (.astore_n 1, 1) := by decide +kernel
theorem dL_law_8 : decode cL_law 8 = .ok (.new 10, 3) := by decide +kernel
theorem dL_law_11 : decode cL_law 11 = .ok (.dup, 1) := by decide +kernel
theorem dL_law_12 : decode cL_law 12 = .ok (.invokespecial 12, 3) := by decide +kernel
theorem dL_law_15 : decode cL_law 15 = .ok (.astore_n 2, 1) := by decide +kernel
theorem dL_law_16 : decode cL_law 16 = .ok (.iconst 0, 1) := by decide +kernel
theorem dL_law_17 : decode cL_law 17 = .ok (.istore_n 3, 1) := by decide +kernel
theorem dL_law_18 : decode cL_law 18 = .ok (.iload_n 3, 1) := by decide +kernel
theorem dL_law_19 : decode cL_law 19 = .ok (.aload_n 0, 1) := by decide +kernel
theorem dL_law_20 : decode cL_law 20 = .ok (.arraylength, 1) := by decide +kernel
theorem dL_law_21 : decode cL_law 21 = .ok (.bipush 6, 2) := by decide +kernel
theorem dL_law_23 : decode cL_law 23 = .ok (.isub, 1) := by decide +kernel
theorem dL_law_24 : decode cL_law 24 = .ok (.if_icmp .gt 1296, 3) := by decide +kernel
theorem dL_law_27 : decode cL_law 27 = .ok (.aload_n 0, 1) := by decide +kernel
theorem dL_law_28 : decode cL_law 28 = .ok (.iload_n 3, 1) := by decide +kernel
theorem dL_law_29 : decode cL_law 29 = .ok (.iaload, 1) := by decide +kernel
theorem dL_law_30 : decode cL_law 30 = .ok (.bipush 63, 2) := by decide +kernel
theorem dL_law_32 : decode cL_law 32 = .ok (.iand, 1) := by decide +kernel
theorem dL_law_33 : decode cL_law 33 = .ok (.tableswitch 1281 0 33 #[151, 214, 257, 290, 323, 356, 409, 442, 475, 508, 531, 554, 577, 610, 633, 656, 699, 712, 751, 774, 823, 836, 905, 948, 981, 1014, 1037, 1050, 1073, 1096, 1139, 1182, 1245, 1258], 151) := by decide +kernel
theorem dL_law_184 : decode cL_law 184 = .ok (.aload_n 1, 1) := by decide +kernel
theorem dL_law_185 : decode cL_law 185 = .ok (.aload_n 0, 1) := by decide +kernel
theorem dL_law_186 : decode cL_law 186 = .ok (.iload_n 3, 1) := by decide +kernel
theorem dL_law_187 : decode cL_law 187 = .ok (.iconst 1, 1) := by decide +kernel
theorem dL_law_188 : decode cL_law 188 = .ok (.iadd, 1) := by decide +kernel
theorem dL_law_189 : decode cL_law 189 = .ok (.iaload, 1) := by decide +kernel
theorem dL_law_190 : decode cL_law 190 = .ok (.aload_n 0, 1) := by decide +kernel
theorem dL_law_191 : decode cL_law 191 = .ok (.iload_n 3, 1) := by decide +kernel
theorem dL_law_192 : decode cL_law 192 = .ok (.iconst 2, 1) := by decide +kernel
theorem dL_law_193 : decode cL_law 193 = .ok (.iadd, 1) := by decide +kernel
theorem dL_law_194 : decode cL_law 194 = .ok (.iaload, 1) := by decide +kernel
theorem dL_law_195 : decode cL_law 195 = .ok (.i2l, 1) := by decide +kernel
theorem dL_law_196 : decode cL_law 196 = .ok (.bipush 32, 2) := by decide +kernel
theorem dL_law_198 : decode cL_law 198 = .ok (.lshl, 1) := by decide +kernel
theorem dL_law_199 : decode cL_law 199 = .ok (.aload_n 0, 1) := by decide +kernel
theorem dL_law_200 : decode cL_law 200 = .ok (.iload_n 3, 1) := by decide +kernel
theorem dL_law_201 : decode cL_law 201 = .ok (.iconst 3, 1) := by decide +kernel
theorem dL_law_202 : decode cL_law 202 = .ok (.iadd, 1) := by decide +kernel
theorem dL_law_203 : decode cL_law 203 = .ok (.iaload, 1) := by decide +kernel
theorem dL_law_204 : decode cL_law 204 = .ok (.i2l, 1) := by decide +kernel
theorem dL_law_205 : decode cL_law 205 = .ok (.ldc2_w 13, 3) := by decide +kernel
theorem dL_law_208 : decode cL_law 208 = .ok (.land, 1) := by decide +kernel
theorem dL_law_209 : decode cL_law 209 = .ok (.lor, 1) := by decide +kernel
theorem dL_law_210 : decode cL_law 210 = .ok (.invokevirtual 15, 3) := by decide +kernel
theorem dL_law_213 : decode cL_law 213 = .ok (.aload_n 2, 1) := by decide +kernel
theorem dL_law_214 : decode cL_law 214 = .ok (.aload_n 0, 1) := by decide +kernel
theorem dL_law_215 : decode cL_law 215 = .ok (.iload_n 3, 1) := by decide +kernel
theorem dL_law_216 : decode cL_law 216 = .ok (.iconst 1, 1) := by decide +kernel
theorem dL_law_217 : decode cL_law 217 = .ok (.iadd, 1) := by decide +kernel
theorem dL_law_218 : decode cL_law 218 = .ok (.iaload, 1) := by decide +kernel
theorem dL_law_219 : decode cL_law 219 = .ok (.aload_n 0, 1) := by decide +kernel
theorem dL_law_220 : decode cL_law 220 = .ok (.iload_n 3, 1) := by decide +kernel
theorem dL_law_221 : decode cL_law 221 = .ok (.iconst 2, 1) := by decide +kernel
theorem dL_law_222 : decode cL_law 222 = .ok (.iadd, 1) := by decide +kernel
theorem dL_law_223 : decode cL_law 223 = .ok (.iaload, 1) := by decide +kernel
theorem dL_law_224 : decode cL_law 224 = .ok (.i2l, 1) := by decide +kernel
theorem dL_law_225 : decode cL_law 225 = .ok (.bipush 32, 2) := by decide +kernel
theorem dL_law_227 : decode cL_law 227 = .ok (.lshl, 1) := by decide +kernel
theorem dL_law_228 : decode cL_law 228 = .ok (.aload_n 0, 1) := by decide +kernel
theorem dL_law_229 : decode cL_law 229 = .ok (.iload_n 3, 1) := by decide +kernel
theorem dL_law_230 : decode cL_law 230 = .ok (.iconst 3, 1) := by decide +kernel
theorem dL_law_231 : decode cL_law 231 = .ok (.iadd, 1) := by decide +kernel
theorem dL_law_232 : decode cL_law 232 = .ok (.iaload, 1) := by decide +kernel
theorem dL_law_233 : decode cL_law 233 = .ok (.i2l, 1) := by decide +kernel
theorem dL_law_234 : decode cL_law 234 = .ok (.ldc2_w 13, 3) := by decide +kernel
theorem dL_law_237 : decode cL_law 237 = .ok (.land, 1) := by decide +kernel
theorem dL_law_238 : decode cL_law 238 = .ok (.lor, 1) := by decide +kernel
theorem dL_law_239 : decode cL_law 239 = .ok (.invokevirtual 19, 3) := by decide +kernel
theorem dL_law_242 : decode cL_law 242 = .ok (.if_icmp .eq 1072, 3) := by decide +kernel
theorem dL_law_245 : decode cL_law 245 = .ok (.iconst 0, 1) := by decide +kernel
theorem dL_law_246 : decode cL_law 246 = .ok (.ireturn, 1) := by decide +kernel
theorem dL_law_247 : decode cL_law 247 = .ok (.aload_n 1, 1) := by decide +kernel
theorem dL_law_248 : decode cL_law 248 = .ok (.aload_n 0, 1) := by decide +kernel
theorem dL_law_249 : decode cL_law 249 = .ok (.iload_n 3, 1) := by decide +kernel
theorem dL_law_250 : decode cL_law 250 = .ok (.iconst 1, 1) := by decide +kernel
theorem dL_law_251 : decode cL_law 251 = .ok (.iadd, 1) := by decide +kernel
theorem dL_law_252 : decode cL_law 252 = .ok (.iaload, 1) := by decide +kernel
theorem dL_law_253 : decode cL_law 253 = .ok (.aload_n 0, 1) := by decide +kernel
theorem dL_law_254 : decode cL_law 254 = .ok (.iload_n 3, 1) := by decide +kernel
theorem dL_law_255 : decode cL_law 255 = .ok (.iconst 2, 1) := by decide +kernel
theorem dL_law_256 : decode cL_law 256 = .ok (.iadd, 1) := by decide +kernel
theorem dL_law_257 : decode cL_law 257 = .ok (.iaload, 1) := by decide +kernel
theorem dL_law_258 : decode cL_law 258 = .ok (.aload_n 0, 1) := by decide +kernel
theorem dL_law_259 : decode cL_law 259 = .ok (.iload_n 3, 1) := by decide +kernel
theorem dL_law_260 : decode cL_law 260 = .ok (.iconst 3, 1) := by decide +kernel
theorem dL_law_261 : decode cL_law 261 = .ok (.iadd, 1) := by decide +kernel
theorem dL_law_262 : decode cL_law 262 = .ok (.iaload, 1) := by decide +kernel
theorem dL_law_263 : decode cL_law 263 = .ok (.invokevirtual 20, 3) := by decide +kernel
theorem dL_law_266 : decode cL_law 266 = .ok (.aload_n 2, 1) := by decide +kernel
theorem dL_law_267 : decode cL_law 267 = .ok (.aload_n 0, 1) := by decide +kernel
theorem dL_law_268 : decode cL_law 268 = .ok (.iload_n 3, 1) := by decide +kernel
theorem dL_law_269 : decode cL_law 269 = .ok (.iconst 1, 1) := by decide +kernel
theorem dL_law_270 : decode cL_law 270 = .ok (.iadd, 1) := by decide +kernel
theorem dL_law_271 : decode cL_law 271 = .ok (.iaload, 1) := by decide +kernel
theorem dL_law_272 : decode cL_law 272 = .ok (.aload_n 0, 1) := by decide +kernel
theorem dL_law_273 : decode cL_law 273 = .ok (.iload_n 3, 1) := by decide +kernel
theorem dL_law_274 : decode cL_law 274 = .ok (.iconst 2, 1) := by decide +kernel
theorem dL_law_275 : decode cL_law 275 = .ok (.iadd, 1) := by decide +kernel
theorem dL_law_276 : decode cL_law 276 = .ok (.iaload, 1) := by decide +kernel
theorem dL_law_277 : decode cL_law 277 = .ok (.aload_n 0, 1) := by decide +kernel
theorem dL_law_278 : decode cL_law 278 = .ok (.iload_n 3, 1) := by decide +kernel
theorem dL_law_279 : decode cL_law 279 = .ok (.iconst 3, 1) := by decide +kernel
theorem dL_law_280 : decode cL_law 280 = .ok (.iadd, 1) := by decide +kernel
theorem dL_law_281 : decode cL_law 281 = .ok (.iaload, 1) := by decide +kernel
theorem dL_law_282 : decode cL_law 282 = .ok (.invokevirtual 24, 3) := by decide +kernel
theorem dL_law_285 : decode cL_law 285 = .ok (.if_icmp .eq 1029, 3) := by decide +kernel
theorem dL_law_288 : decode cL_law 288 = .ok (.iconst 0, 1) := by decide +kernel
theorem dL_law_289 : decode cL_law 289 = .ok (.ireturn, 1) := by decide +kernel
theorem dL_law_290 : decode cL_law 290 = .ok (.aload_n 1, 1) := by decide +kernel
theorem dL_law_291 : decode cL_law 291 = .ok (.aload_n 0, 1) := by decide +kernel
theorem dL_law_292 : decode cL_law 292 = .ok (.iload_n 3, 1) := by decide +kernel
theorem dL_law_293 : decode cL_law 293 = .ok (.iconst 1, 1) := by decide +kernel
theorem dL_law_294 : decode cL_law 294 = .ok (.iadd, 1) := by decide +kernel
theorem dL_law_295 : decode cL_law 295 = .ok (.iaload, 1) := by decide +kernel
theorem dL_law_296 : decode cL_law 296 = .ok (.aload_n 0, 1) := by decide +kernel
theorem dL_law_297 : decode cL_law 297 = .ok (.iload_n 3, 1) := by decide +kernel
theorem dL_law_298 : decode cL_law 298 = .ok (.iconst 2, 1) := by decide +kernel
theorem dL_law_299 : decode cL_law 299 = .ok (.iadd, 1) := by decide +kernel
theorem dL_law_300 : decode cL_law 300 = .ok (.iaload, 1) := by decide +kernel
theorem dL_law_301 : decode cL_law 301 = .ok (.invokevirtual 25, 3) := by decide +kernel
theorem dL_law_304 : decode cL_law 304 = .ok (.aload_n 2, 1) := by decide +kernel
theorem dL_law_305 : decode cL_law 305 = .ok (.aload_n 0, 1) := by decide +kernel
theorem dL_law_306 : decode cL_law 306 = .ok (.iload_n 3, 1) := by decide +kernel
theorem dL_law_307 : decode cL_law 307 = .ok (.iconst 1, 1) := by decide +kernel
theorem dL_law_308 : decode cL_law 308 = .ok (.iadd, 1) := by decide +kernel
theorem dL_law_309 : decode cL_law 309 = .ok (.iaload, 1) := by decide +kernel
theorem dL_law_310 : decode cL_law 310 = .ok (.aload_n 0, 1) := by decide +kernel
theorem dL_law_311 : decode cL_law 311 = .ok (.iload_n 3, 1) := by decide +kernel
theorem dL_law_312 : decode cL_law 312 = .ok (.iconst 2, 1) := by decide +kernel
theorem dL_law_313 : decode cL_law 313 = .ok (.iadd, 1) := by decide +kernel
theorem dL_law_314 : decode cL_law 314 = .ok (.iaload, 1) := by decide +kernel
theorem dL_law_315 : decode cL_law 315 = .ok (.invokevirtual 29, 3) := by decide +kernel
theorem dL_law_318 : decode cL_law 318 = .ok (.if_icmp .eq 996, 3) := by decide +kernel
theorem dL_law_321 : decode cL_law 321 = .ok (.iconst 0, 1) := by decide +kernel
theorem dL_law_322 : decode cL_law 322 = .ok (.ireturn, 1) := by decide +kernel
theorem dL_law_323 : decode cL_law 323 = .ok (.aload_n 1, 1) := by decide +kernel
theorem dL_law_324 : decode cL_law 324 = .ok (.aload_n 0, 1) := by decide +kernel
theorem dL_law_325 : decode cL_law 325 = .ok (.iload_n 3, 1) := by decide +kernel
theorem dL_law_326 : decode cL_law 326 = .ok (.iconst 1, 1) := by decide +kernel
theorem dL_law_327 : decode cL_law 327 = .ok (.iadd, 1) := by decide +kernel
theorem dL_law_328 : decode cL_law 328 = .ok (.iaload, 1) := by decide +kernel
theorem dL_law_329 : decode cL_law 329 = .ok (.aload_n 0, 1) := by decide +kernel
theorem dL_law_330 : decode cL_law 330 = .ok (.iload_n 3, 1) := by decide +kernel
theorem dL_law_331 : decode cL_law 331 = .ok (.iconst 2, 1) := by decide +kernel
theorem dL_law_332 : decode cL_law 332 = .ok (.iadd, 1) := by decide +kernel
theorem dL_law_333 : decode cL_law 333 = .ok (.iaload, 1) := by decide +kernel
theorem dL_law_334 : decode cL_law 334 = .ok (.invokevirtual 30, 3) := by decide +kernel
theorem dL_law_337 : decode cL_law 337 = .ok (.aload_n 2, 1) := by decide +kernel
theorem dL_law_338 : decode cL_law 338 = .ok (.aload_n 0, 1) := by decide +kernel
theorem dL_law_339 : decode cL_law 339 = .ok (.iload_n 3, 1) := by decide +kernel
theorem dL_law_340 : decode cL_law 340 = .ok (.iconst 1, 1) := by decide +kernel
theorem dL_law_341 : decode cL_law 341 = .ok (.iadd, 1) := by decide +kernel
theorem dL_law_342 : decode cL_law 342 = .ok (.iaload, 1) := by decide +kernel
theorem dL_law_343 : decode cL_law 343 = .ok (.aload_n 0, 1) := by decide +kernel
theorem dL_law_344 : decode cL_law 344 = .ok (.iload_n 3, 1) := by decide +kernel
theorem dL_law_345 : decode cL_law 345 = .ok (.iconst 2, 1) := by decide +kernel
theorem dL_law_346 : decode cL_law 346 = .ok (.iadd, 1) := by decide +kernel
theorem dL_law_347 : decode cL_law 347 = .ok (.iaload, 1) := by decide +kernel
theorem dL_law_348 : decode cL_law 348 = .ok (.invokevirtual 33, 3) := by decide +kernel
theorem dL_law_351 : decode cL_law 351 = .ok (.if_icmp .eq 963, 3) := by decide +kernel
theorem dL_law_354 : decode cL_law 354 = .ok (.iconst 0, 1) := by decide +kernel
theorem dL_law_355 : decode cL_law 355 = .ok (.ireturn, 1) := by decide +kernel
theorem dL_law_356 : decode cL_law 356 = .ok (.aload_n 1, 1) := by decide +kernel
theorem dL_law_357 : decode cL_law 357 = .ok (.aload_n 0, 1) := by decide +kernel
theorem dL_law_358 : decode cL_law 358 = .ok (.iload_n 3, 1) := by decide +kernel
theorem dL_law_359 : decode cL_law 359 = .ok (.iconst 1, 1) := by decide +kernel
theorem dL_law_360 : decode cL_law 360 = .ok (.iadd, 1) := by decide +kernel
theorem dL_law_361 : decode cL_law 361 = .ok (.iaload, 1) := by decide +kernel
theorem dL_law_362 : decode cL_law 362 = .ok (.aload_n 0, 1) := by decide +kernel
theorem dL_law_363 : decode cL_law 363 = .ok (.iload_n 3, 1) := by decide +kernel
theorem dL_law_364 : decode cL_law 364 = .ok (.iconst 2, 1) := by decide +kernel
theorem dL_law_365 : decode cL_law 365 = .ok (.iadd, 1) := by decide +kernel
theorem dL_law_366 : decode cL_law 366 = .ok (.iaload, 1) := by decide +kernel
theorem dL_law_367 : decode cL_law 367 = .ok (.invokevirtual 34, 3) := by decide +kernel
theorem dL_law_370 : decode cL_law 370 = .ok (.aload_n 2, 1) := by decide +kernel
theorem dL_law_371 : decode cL_law 371 = .ok (.aload_n 0, 1) := by decide +kernel
theorem dL_law_372 : decode cL_law 372 = .ok (.iload_n 3, 1) := by decide +kernel
theorem dL_law_373 : decode cL_law 373 = .ok (.iconst 1, 1) := by decide +kernel
theorem dL_law_374 : decode cL_law 374 = .ok (.iadd, 1) := by decide +kernel
theorem dL_law_375 : decode cL_law 375 = .ok (.iaload, 1) := by decide +kernel
theorem dL_law_376 : decode cL_law 376 = .ok (.aload_n 0, 1) := by decide +kernel
theorem dL_law_377 : decode cL_law 377 = .ok (.iload_n 3, 1) := by decide +kernel
theorem dL_law_378 : decode cL_law 378 = .ok (.iconst 2, 1) := by decide +kernel
theorem dL_law_379 : decode cL_law 379 = .ok (.iadd, 1) := by decide +kernel
theorem dL_law_380 : decode cL_law 380 = .ok (.iaload, 1) := by decide +kernel
theorem dL_law_381 : decode cL_law 381 = .ok (.invokevirtual 37, 3) := by decide +kernel
theorem dL_law_384 : decode cL_law 384 = .ok (.if_icmp .eq 930, 3) := by decide +kernel
theorem dL_law_387 : decode cL_law 387 = .ok (.iconst 0, 1) := by decide +kernel
theorem dL_law_388 : decode cL_law 388 = .ok (.ireturn, 1) := by decide +kernel
theorem dL_law_389 : decode cL_law 389 = .ok (.aload_n 1, 1) := by decide +kernel
theorem dL_law_390 : decode cL_law 390 = .ok (.aload_n 0, 1) := by decide +kernel
theorem dL_law_391 : decode cL_law 391 = .ok (.iload_n 3, 1) := by decide +kernel
theorem dL_law_392 : decode cL_law 392 = .ok (.iconst 1, 1) := by decide +kernel
theorem dL_law_393 : decode cL_law 393 = .ok (.iadd, 1) := by decide +kernel
theorem dL_law_394 : decode cL_law 394 = .ok (.iaload, 1) := by decide +kernel
theorem dL_law_395 : decode cL_law 395 = .ok (.aload_n 0, 1) := by decide +kernel
theorem dL_law_396 : decode cL_law 396 = .ok (.iload_n 3, 1) := by decide +kernel
theorem dL_law_397 : decode cL_law 397 = .ok (.iconst 2, 1) := by decide +kernel
theorem dL_law_398 : decode cL_law 398 = .ok (.iadd, 1) := by decide +kernel
theorem dL_law_399 : decode cL_law 399 = .ok (.iaload, 1) := by decide +kernel
theorem dL_law_400 : decode cL_law 400 = .ok (.aload_n 0, 1) := by decide +kernel
theorem dL_law_401 : decode cL_law 401 = .ok (.iload_n 3, 1) := by decide +kernel
theorem dL_law_402 : decode cL_law 402 = .ok (.iconst 3, 1) := by decide +kernel
theorem dL_law_403 : decode cL_law 403 = .ok (.iadd, 1) := by decide +kernel
theorem dL_law_404 : decode cL_law 404 = .ok (.iaload, 1) := by decide +kernel
theorem dL_law_405 : decode cL_law 405 = .ok (.aload_n 0, 1) := by decide +kernel
theorem dL_law_406 : decode cL_law 406 = .ok (.iload_n 3, 1) := by decide +kernel
theorem dL_law_407 : decode cL_law 407 = .ok (.iconst 4, 1) := by decide +kernel
theorem dL_law_408 : decode cL_law 408 = .ok (.iadd, 1) := by decide +kernel
theorem dL_law_409 : decode cL_law 409 = .ok (.iaload, 1) := by decide +kernel
theorem dL_law_410 : decode cL_law 410 = .ok (.invokevirtual 38, 3) := by decide +kernel
theorem dL_law_413 : decode cL_law 413 = .ok (.aload_n 2, 1) := by decide +kernel
theorem dL_law_414 : decode cL_law 414 = .ok (.aload_n 0, 1) := by decide +kernel
theorem dL_law_415 : decode cL_law 415 = .ok (.iload_n 3, 1) := by decide +kernel
theorem dL_law_416 : decode cL_law 416 = .ok (.iconst 1, 1) := by decide +kernel
theorem dL_law_417 : decode cL_law 417 = .ok (.iadd, 1) := by decide +kernel
theorem dL_law_418 : decode cL_law 418 = .ok (.iaload, 1) := by decide +kernel
theorem dL_law_419 : decode cL_law 419 = .ok (.aload_n 0, 1) := by decide +kernel
theorem dL_law_420 : decode cL_law 420 = .ok (.iload_n 3, 1) := by decide +kernel
theorem dL_law_421 : decode cL_law 421 = .ok (.iconst 2, 1) := by decide +kernel
theorem dL_law_422 : decode cL_law 422 = .ok (.iadd, 1) := by decide +kernel
theorem dL_law_423 : decode cL_law 423 = .ok (.iaload, 1) := by decide +kernel
theorem dL_law_424 : decode cL_law 424 = .ok (.aload_n 0, 1) := by decide +kernel
theorem dL_law_425 : decode cL_law 425 = .ok (.iload_n 3, 1) := by decide +kernel
theorem dL_law_426 : decode cL_law 426 = .ok (.iconst 3, 1) := by decide +kernel
theorem dL_law_427 : decode cL_law 427 = .ok (.iadd, 1) := by decide +kernel
theorem dL_law_428 : decode cL_law 428 = .ok (.iaload, 1) := by decide +kernel
theorem dL_law_429 : decode cL_law 429 = .ok (.aload_n 0, 1) := by decide +kernel
theorem dL_law_430 : decode cL_law 430 = .ok (.iload_n 3, 1) := by decide +kernel
theorem dL_law_431 : decode cL_law 431 = .ok (.iconst 4, 1) := by decide +kernel
theorem dL_law_432 : decode cL_law 432 = .ok (.iadd, 1) := by decide +kernel
theorem dL_law_433 : decode cL_law 433 = .ok (.iaload, 1) := by decide +kernel
theorem dL_law_434 : decode cL_law 434 = .ok (.invokevirtual 42, 3) := by decide +kernel
theorem dL_law_437 : decode cL_law 437 = .ok (.if_icmp .eq 877, 3) := by decide +kernel
theorem dL_law_440 : decode cL_law 440 = .ok (.iconst 0, 1) := by decide +kernel
theorem dL_law_441 : decode cL_law 441 = .ok (.ireturn, 1) := by decide +kernel
theorem dL_law_442 : decode cL_law 442 = .ok (.aload_n 1, 1) := by decide +kernel
theorem dL_law_443 : decode cL_law 443 = .ok (.aload_n 0, 1) := by decide +kernel
theorem dL_law_444 : decode cL_law 444 = .ok (.iload_n 3, 1) := by decide +kernel
theorem dL_law_445 : decode cL_law 445 = .ok (.iconst 1, 1) := by decide +kernel
theorem dL_law_446 : decode cL_law 446 = .ok (.iadd, 1) := by decide +kernel
theorem dL_law_447 : decode cL_law 447 = .ok (.iaload, 1) := by decide +kernel
theorem dL_law_448 : decode cL_law 448 = .ok (.aload_n 0, 1) := by decide +kernel
theorem dL_law_449 : decode cL_law 449 = .ok (.iload_n 3, 1) := by decide +kernel
theorem dL_law_450 : decode cL_law 450 = .ok (.iconst 2, 1) := by decide +kernel
theorem dL_law_451 : decode cL_law 451 = .ok (.iadd, 1) := by decide +kernel
theorem dL_law_452 : decode cL_law 452 = .ok (.iaload, 1) := by decide +kernel
theorem dL_law_453 : decode cL_law 453 = .ok (.invokevirtual 43, 3) := by decide +kernel
theorem dL_law_456 : decode cL_law 456 = .ok (.aload_n 2, 1) := by decide +kernel
theorem dL_law_457 : decode cL_law 457 = .ok (.aload_n 0, 1) := by decide +kernel
theorem dL_law_458 : decode cL_law 458 = .ok (.iload_n 3, 1) := by decide +kernel
theorem dL_law_459 : decode cL_law 459 = .ok (.iconst 1, 1) := by decide +kernel
theorem dL_law_460 : decode cL_law 460 = .ok (.iadd, 1) := by decide +kernel
theorem dL_law_461 : decode cL_law 461 = .ok (.iaload, 1) := by decide +kernel
theorem dL_law_462 : decode cL_law 462 = .ok (.aload_n 0, 1) := by decide +kernel
theorem dL_law_463 : decode cL_law 463 = .ok (.iload_n 3, 1) := by decide +kernel
theorem dL_law_464 : decode cL_law 464 = .ok (.iconst 2, 1) := by decide +kernel
theorem dL_law_465 : decode cL_law 465 = .ok (.iadd, 1) := by decide +kernel
theorem dL_law_466 : decode cL_law 466 = .ok (.iaload, 1) := by decide +kernel
theorem dL_law_467 : decode cL_law 467 = .ok (.invokevirtual 46, 3) := by decide +kernel
theorem dL_law_470 : decode cL_law 470 = .ok (.if_icmp .eq 844, 3) := by decide +kernel
theorem dL_law_473 : decode cL_law 473 = .ok (.iconst 0, 1) := by decide +kernel
theorem dL_law_474 : decode cL_law 474 = .ok (.ireturn, 1) := by decide +kernel
theorem dL_law_475 : decode cL_law 475 = .ok (.aload_n 1, 1) := by decide +kernel
theorem dL_law_476 : decode cL_law 476 = .ok (.aload_n 0, 1) := by decide +kernel
theorem dL_law_477 : decode cL_law 477 = .ok (.iload_n 3, 1) := by decide +kernel
theorem dL_law_478 : decode cL_law 478 = .ok (.iconst 1, 1) := by decide +kernel
theorem dL_law_479 : decode cL_law 479 = .ok (.iadd, 1) := by decide +kernel
theorem dL_law_480 : decode cL_law 480 = .ok (.iaload, 1) := by decide +kernel
theorem dL_law_481 : decode cL_law 481 = .ok (.aload_n 0, 1) := by decide +kernel
theorem dL_law_482 : decode cL_law 482 = .ok (.iload_n 3, 1) := by decide +kernel
theorem dL_law_483 : decode cL_law 483 = .ok (.iconst 2, 1) := by decide +kernel
theorem dL_law_484 : decode cL_law 484 = .ok (.iadd, 1) := by decide +kernel
theorem dL_law_485 : decode cL_law 485 = .ok (.iaload, 1) := by decide +kernel
theorem dL_law_486 : decode cL_law 486 = .ok (.invokevirtual 47, 3) := by decide +kernel
theorem dL_law_489 : decode cL_law 489 = .ok (.aload_n 2, 1) := by decide +kernel
theorem dL_law_490 : decode cL_law 490 = .ok (.aload_n 0, 1) := by decide +kernel
theorem dL_law_491 : decode cL_law 491 = .ok (.iload_n 3, 1) := by decide +kernel
theorem dL_law_492 : decode cL_law 492 = .ok (.iconst 1, 1) := by decide +kernel
theorem dL_law_493 : decode cL_law 493 = .ok (.iadd, 1) := by decide +kernel
theorem dL_law_494 : decode cL_law 494 = .ok (.iaload, 1) := by decide +kernel
theorem dL_law_495 : decode cL_law 495 = .ok (.aload_n 0, 1) := by decide +kernel
theorem dL_law_496 : decode cL_law 496 = .ok (.iload_n 3, 1) := by decide +kernel
theorem dL_law_497 : decode cL_law 497 = .ok (.iconst 2, 1) := by decide +kernel
theorem dL_law_498 : decode cL_law 498 = .ok (.iadd, 1) := by decide +kernel
theorem dL_law_499 : decode cL_law 499 = .ok (.iaload, 1) := by decide +kernel
theorem dL_law_500 : decode cL_law 500 = .ok (.invokevirtual 50, 3) := by decide +kernel
theorem dL_law_503 : decode cL_law 503 = .ok (.if_icmp .eq 811, 3) := by decide +kernel
theorem dL_law_506 : decode cL_law 506 = .ok (.iconst 0, 1) := by decide +kernel
theorem dL_law_507 : decode cL_law 507 = .ok (.ireturn, 1) := by decide +kernel
theorem dL_law_508 : decode cL_law 508 = .ok (.aload_n 1, 1) := by decide +kernel
theorem dL_law_509 : decode cL_law 509 = .ok (.aload_n 0, 1) := by decide +kernel
theorem dL_law_510 : decode cL_law 510 = .ok (.iload_n 3, 1) := by decide +kernel
theorem dL_law_511 : decode cL_law 511 = .ok (.iconst 1, 1) := by decide +kernel
theorem dL_law_512 : decode cL_law 512 = .ok (.iadd, 1) := by decide +kernel
theorem dL_law_513 : decode cL_law 513 = .ok (.iaload, 1) := by decide +kernel
theorem dL_law_514 : decode cL_law 514 = .ok (.aload_n 0, 1) := by decide +kernel
theorem dL_law_515 : decode cL_law 515 = .ok (.iload_n 3, 1) := by decide +kernel
theorem dL_law_516 : decode cL_law 516 = .ok (.iconst 2, 1) := by decide +kernel
theorem dL_law_517 : decode cL_law 517 = .ok (.iadd, 1) := by decide +kernel
theorem dL_law_518 : decode cL_law 518 = .ok (.iaload, 1) := by decide +kernel
theorem dL_law_519 : decode cL_law 519 = .ok (.invokevirtual 51, 3) := by decide +kernel
theorem dL_law_522 : decode cL_law 522 = .ok (.aload_n 2, 1) := by decide +kernel
theorem dL_law_523 : decode cL_law 523 = .ok (.aload_n 0, 1) := by decide +kernel
theorem dL_law_524 : decode cL_law 524 = .ok (.iload_n 3, 1) := by decide +kernel
theorem dL_law_525 : decode cL_law 525 = .ok (.iconst 1, 1) := by decide +kernel
theorem dL_law_526 : decode cL_law 526 = .ok (.iadd, 1) := by decide +kernel
theorem dL_law_527 : decode cL_law 527 = .ok (.iaload, 1) := by decide +kernel
theorem dL_law_528 : decode cL_law 528 = .ok (.aload_n 0, 1) := by decide +kernel
theorem dL_law_529 : decode cL_law 529 = .ok (.iload_n 3, 1) := by decide +kernel
theorem dL_law_530 : decode cL_law 530 = .ok (.iconst 2, 1) := by decide +kernel
theorem dL_law_531 : decode cL_law 531 = .ok (.iadd, 1) := by decide +kernel
theorem dL_law_532 : decode cL_law 532 = .ok (.iaload, 1) := by decide +kernel
theorem dL_law_533 : decode cL_law 533 = .ok (.invokevirtual 54, 3) := by decide +kernel
theorem dL_law_536 : decode cL_law 536 = .ok (.if_icmp .eq 778, 3) := by decide +kernel
theorem dL_law_539 : decode cL_law 539 = .ok (.iconst 0, 1) := by decide +kernel
theorem dL_law_540 : decode cL_law 540 = .ok (.ireturn, 1) := by decide +kernel
theorem dL_law_541 : decode cL_law 541 = .ok (.aload_n 1, 1) := by decide +kernel
theorem dL_law_542 : decode cL_law 542 = .ok (.aload_n 0, 1) := by decide +kernel
theorem dL_law_543 : decode cL_law 543 = .ok (.iload_n 3, 1) := by decide +kernel
theorem dL_law_544 : decode cL_law 544 = .ok (.iconst 1, 1) := by decide +kernel
theorem dL_law_545 : decode cL_law 545 = .ok (.iadd, 1) := by decide +kernel
theorem dL_law_546 : decode cL_law 546 = .ok (.iaload, 1) := by decide +kernel
theorem dL_law_547 : decode cL_law 547 = .ok (.invokevirtual 55, 3) := by decide +kernel
theorem dL_law_550 : decode cL_law 550 = .ok (.aload_n 2, 1) := by decide +kernel
theorem dL_law_551 : decode cL_law 551 = .ok (.aload_n 0, 1) := by decide +kernel
theorem dL_law_552 : decode cL_law 552 = .ok (.iload_n 3, 1) := by decide +kernel
theorem dL_law_553 : decode cL_law 553 = .ok (.iconst 1, 1) := by decide +kernel
theorem dL_law_554 : decode cL_law 554 = .ok (.iadd, 1) := by decide +kernel
theorem dL_law_555 : decode cL_law 555 = .ok (.iaload, 1) := by decide +kernel
theorem dL_law_556 : decode cL_law 556 = .ok (.invokevirtual 59, 3) := by decide +kernel
theorem dL_law_559 : decode cL_law 559 = .ok (.if_icmp .eq 755, 3) := by decide +kernel
theorem dL_law_562 : decode cL_law 562 = .ok (.iconst 0, 1) := by decide +kernel
theorem dL_law_563 : decode cL_law 563 = .ok (.ireturn, 1) := by decide +kernel
theorem dL_law_564 : decode cL_law 564 = .ok (.aload_n 1, 1) := by decide +kernel
theorem dL_law_565 : decode cL_law 565 = .ok (.aload_n 0, 1) := by decide +kernel
theorem dL_law_566 : decode cL_law 566 = .ok (.iload_n 3, 1) := by decide +kernel
theorem dL_law_567 : decode cL_law 567 = .ok (.iconst 1, 1) := by decide +kernel
theorem dL_law_568 : decode cL_law 568 = .ok (.iadd, 1) := by decide +kernel
theorem dL_law_569 : decode cL_law 569 = .ok (.iaload, 1) := by decide +kernel
theorem dL_law_570 : decode cL_law 570 = .ok (.invokevirtual 60, 3) := by decide +kernel
theorem dL_law_573 : decode cL_law 573 = .ok (.aload_n 2, 1) := by decide +kernel
theorem dL_law_574 : decode cL_law 574 = .ok (.aload_n 0, 1) := by decide +kernel
theorem dL_law_575 : decode cL_law 575 = .ok (.iload_n 3, 1) := by decide +kernel
theorem dL_law_576 : decode cL_law 576 = .ok (.iconst 1, 1) := by decide +kernel
theorem dL_law_577 : decode cL_law 577 = .ok (.iadd, 1) := by decide +kernel
theorem dL_law_578 : decode cL_law 578 = .ok (.iaload, 1) := by decide +kernel
theorem dL_law_579 : decode cL_law 579 = .ok (.invokevirtual 63, 3) := by decide +kernel
theorem dL_law_582 : decode cL_law 582 = .ok (.if_icmp .eq 732, 3) := by decide +kernel
theorem dL_law_585 : decode cL_law 585 = .ok (.iconst 0, 1) := by decide +kernel
theorem dL_law_586 : decode cL_law 586 = .ok (.ireturn, 1) := by decide +kernel
theorem dL_law_587 : decode cL_law 587 = .ok (.aload_n 1, 1) := by decide +kernel
theorem dL_law_588 : decode cL_law 588 = .ok (.aload_n 0, 1) := by decide +kernel
theorem dL_law_589 : decode cL_law 589 = .ok (.iload_n 3, 1) := by decide +kernel
theorem dL_law_590 : decode cL_law 590 = .ok (.iconst 1, 1) := by decide +kernel
theorem dL_law_591 : decode cL_law 591 = .ok (.iadd, 1) := by decide +kernel
theorem dL_law_592 : decode cL_law 592 = .ok (.iaload, 1) := by decide +kernel
theorem dL_law_593 : decode cL_law 593 = .ok (.invokevirtual 64, 3) := by decide +kernel
theorem dL_law_596 : decode cL_law 596 = .ok (.aload_n 2, 1) := by decide +kernel
theorem dL_law_597 : decode cL_law 597 = .ok (.aload_n 0, 1) := by decide +kernel
theorem dL_law_598 : decode cL_law 598 = .ok (.iload_n 3, 1) := by decide +kernel
theorem dL_law_599 : decode cL_law 599 = .ok (.iconst 1, 1) := by decide +kernel
theorem dL_law_600 : decode cL_law 600 = .ok (.iadd, 1) := by decide +kernel
theorem dL_law_601 : decode cL_law 601 = .ok (.iaload, 1) := by decide +kernel
theorem dL_law_602 : decode cL_law 602 = .ok (.invokevirtual 67, 3) := by decide +kernel
theorem dL_law_605 : decode cL_law 605 = .ok (.if_icmp .eq 709, 3) := by decide +kernel
theorem dL_law_608 : decode cL_law 608 = .ok (.iconst 0, 1) := by decide +kernel
theorem dL_law_609 : decode cL_law 609 = .ok (.ireturn, 1) := by decide +kernel
theorem dL_law_610 : decode cL_law 610 = .ok (.aload_n 1, 1) := by decide +kernel
theorem dL_law_611 : decode cL_law 611 = .ok (.aload_n 0, 1) := by decide +kernel
theorem dL_law_612 : decode cL_law 612 = .ok (.iload_n 3, 1) := by decide +kernel
theorem dL_law_613 : decode cL_law 613 = .ok (.iconst 1, 1) := by decide +kernel
theorem dL_law_614 : decode cL_law 614 = .ok (.iadd, 1) := by decide +kernel
theorem dL_law_615 : decode cL_law 615 = .ok (.iaload, 1) := by decide +kernel
theorem dL_law_616 : decode cL_law 616 = .ok (.aload_n 0, 1) := by decide +kernel
theorem dL_law_617 : decode cL_law 617 = .ok (.iload_n 3, 1) := by decide +kernel
theorem dL_law_618 : decode cL_law 618 = .ok (.iconst 2, 1) := by decide +kernel
theorem dL_law_619 : decode cL_law 619 = .ok (.iadd, 1) := by decide +kernel
theorem dL_law_620 : decode cL_law 620 = .ok (.iaload, 1) := by decide +kernel
theorem dL_law_621 : decode cL_law 621 = .ok (.invokevirtual 68, 3) := by decide +kernel
theorem dL_law_624 : decode cL_law 624 = .ok (.aload_n 2, 1) := by decide +kernel
theorem dL_law_625 : decode cL_law 625 = .ok (.aload_n 0, 1) := by decide +kernel
theorem dL_law_626 : decode cL_law 626 = .ok (.iload_n 3, 1) := by decide +kernel
theorem dL_law_627 : decode cL_law 627 = .ok (.iconst 1, 1) := by decide +kernel
theorem dL_law_628 : decode cL_law 628 = .ok (.iadd, 1) := by decide +kernel
theorem dL_law_629 : decode cL_law 629 = .ok (.iaload, 1) := by decide +kernel
theorem dL_law_630 : decode cL_law 630 = .ok (.aload_n 0, 1) := by decide +kernel
theorem dL_law_631 : decode cL_law 631 = .ok (.iload_n 3, 1) := by decide +kernel
theorem dL_law_632 : decode cL_law 632 = .ok (.iconst 2, 1) := by decide +kernel
theorem dL_law_633 : decode cL_law 633 = .ok (.iadd, 1) := by decide +kernel
theorem dL_law_634 : decode cL_law 634 = .ok (.iaload, 1) := by decide +kernel
theorem dL_law_635 : decode cL_law 635 = .ok (.invokevirtual 71, 3) := by decide +kernel
theorem dL_law_638 : decode cL_law 638 = .ok (.if_icmp .eq 676, 3) := by decide +kernel
theorem dL_law_641 : decode cL_law 641 = .ok (.iconst 0, 1) := by decide +kernel
theorem dL_law_642 : decode cL_law 642 = .ok (.ireturn, 1) := by decide +kernel
theorem dL_law_643 : decode cL_law 643 = .ok (.aload_n 1, 1) := by decide +kernel
theorem dL_law_644 : decode cL_law 644 = .ok (.aload_n 0, 1) := by decide +kernel
theorem dL_law_645 : decode cL_law 645 = .ok (.iload_n 3, 1) := by decide +kernel
theorem dL_law_646 : decode cL_law 646 = .ok (.iconst 1, 1) := by decide +kernel
theorem dL_law_647 : decode cL_law 647 = .ok (.iadd, 1) := by decide +kernel
theorem dL_law_648 : decode cL_law 648 = .ok (.iaload, 1) := by decide +kernel
theorem dL_law_649 : decode cL_law 649 = .ok (.invokevirtual 72, 3) := by decide +kernel
theorem dL_law_652 : decode cL_law 652 = .ok (.aload_n 2, 1) := by decide +kernel
theorem dL_law_653 : decode cL_law 653 = .ok (.aload_n 0, 1) := by decide +kernel
theorem dL_law_654 : decode cL_law 654 = .ok (.iload_n 3, 1) := by decide +kernel
theorem dL_law_655 : decode cL_law 655 = .ok (.iconst 1, 1) := by decide +kernel
theorem dL_law_656 : decode cL_law 656 = .ok (.iadd, 1) := by decide +kernel
theorem dL_law_657 : decode cL_law 657 = .ok (.iaload, 1) := by decide +kernel
theorem dL_law_658 : decode cL_law 658 = .ok (.invokevirtual 75, 3) := by decide +kernel
theorem dL_law_661 : decode cL_law 661 = .ok (.if_icmp .eq 653, 3) := by decide +kernel
theorem dL_law_664 : decode cL_law 664 = .ok (.iconst 0, 1) := by decide +kernel
theorem dL_law_665 : decode cL_law 665 = .ok (.ireturn, 1) := by decide +kernel
theorem dL_law_666 : decode cL_law 666 = .ok (.aload_n 1, 1) := by decide +kernel
theorem dL_law_667 : decode cL_law 667 = .ok (.aload_n 0, 1) := by decide +kernel
theorem dL_law_668 : decode cL_law 668 = .ok (.iload_n 3, 1) := by decide +kernel
theorem dL_law_669 : decode cL_law 669 = .ok (.iconst 1, 1) := by decide +kernel
theorem dL_law_670 : decode cL_law 670 = .ok (.iadd, 1) := by decide +kernel
theorem dL_law_671 : decode cL_law 671 = .ok (.iaload, 1) := by decide +kernel
theorem dL_law_672 : decode cL_law 672 = .ok (.invokevirtual 76, 3) := by decide +kernel
theorem dL_law_675 : decode cL_law 675 = .ok (.aload_n 2, 1) := by decide +kernel
theorem dL_law_676 : decode cL_law 676 = .ok (.aload_n 0, 1) := by decide +kernel
theorem dL_law_677 : decode cL_law 677 = .ok (.iload_n 3, 1) := by decide +kernel
theorem dL_law_678 : decode cL_law 678 = .ok (.iconst 1, 1) := by decide +kernel
theorem dL_law_679 : decode cL_law 679 = .ok (.iadd, 1) := by decide +kernel
theorem dL_law_680 : decode cL_law 680 = .ok (.iaload, 1) := by decide +kernel
theorem dL_law_681 : decode cL_law 681 = .ok (.invokevirtual 79, 3) := by decide +kernel
theorem dL_law_684 : decode cL_law 684 = .ok (.if_icmp .eq 630, 3) := by decide +kernel
theorem dL_law_687 : decode cL_law 687 = .ok (.iconst 0, 1) := by decide +kernel
theorem dL_law_688 : decode cL_law 688 = .ok (.ireturn, 1) := by decide +kernel
theorem dL_law_689 : decode cL_law 689 = .ok (.aload_n 1, 1) := by decide +kernel
theorem dL_law_690 : decode cL_law 690 = .ok (.aload_n 0, 1) := by decide +kernel
theorem dL_law_691 : decode cL_law 691 = .ok (.iload_n 3, 1) := by decide +kernel
theorem dL_law_692 : decode cL_law 692 = .ok (.iconst 1, 1) := by decide +kernel
theorem dL_law_693 : decode cL_law 693 = .ok (.iadd, 1) := by decide +kernel
theorem dL_law_694 : decode cL_law 694 = .ok (.iaload, 1) := by decide +kernel
theorem dL_law_695 : decode cL_law 695 = .ok (.aload_n 0, 1) := by decide +kernel
theorem dL_law_696 : decode cL_law 696 = .ok (.iload_n 3, 1) := by decide +kernel
theorem dL_law_697 : decode cL_law 697 = .ok (.iconst 2, 1) := by decide +kernel
theorem dL_law_698 : decode cL_law 698 = .ok (.iadd, 1) := by decide +kernel
theorem dL_law_699 : decode cL_law 699 = .ok (.iaload, 1) := by decide +kernel
theorem dL_law_700 : decode cL_law 700 = .ok (.aload_n 0, 1) := by decide +kernel
theorem dL_law_701 : decode cL_law 701 = .ok (.iload_n 3, 1) := by decide +kernel
theorem dL_law_702 : decode cL_law 702 = .ok (.iconst 3, 1) := by decide +kernel
theorem dL_law_703 : decode cL_law 703 = .ok (.iadd, 1) := by decide +kernel
theorem dL_law_704 : decode cL_law 704 = .ok (.iaload, 1) := by decide +kernel
theorem dL_law_705 : decode cL_law 705 = .ok (.invokevirtual 80, 3) := by decide +kernel
theorem dL_law_708 : decode cL_law 708 = .ok (.aload_n 2, 1) := by decide +kernel
theorem dL_law_709 : decode cL_law 709 = .ok (.aload_n 0, 1) := by decide +kernel
theorem dL_law_710 : decode cL_law 710 = .ok (.iload_n 3, 1) := by decide +kernel
theorem dL_law_711 : decode cL_law 711 = .ok (.iconst 1, 1) := by decide +kernel
theorem dL_law_712 : decode cL_law 712 = .ok (.iadd, 1) := by decide +kernel
theorem dL_law_713 : decode cL_law 713 = .ok (.iaload, 1) := by decide +kernel
theorem dL_law_714 : decode cL_law 714 = .ok (.aload_n 0, 1) := by decide +kernel
theorem dL_law_715 : decode cL_law 715 = .ok (.iload_n 3, 1) := by decide +kernel
theorem dL_law_716 : decode cL_law 716 = .ok (.iconst 2, 1) := by decide +kernel
theorem dL_law_717 : decode cL_law 717 = .ok (.iadd, 1) := by decide +kernel
theorem dL_law_718 : decode cL_law 718 = .ok (.iaload, 1) := by decide +kernel
theorem dL_law_719 : decode cL_law 719 = .ok (.aload_n 0, 1) := by decide +kernel
theorem dL_law_720 : decode cL_law 720 = .ok (.iload_n 3, 1) := by decide +kernel
theorem dL_law_721 : decode cL_law 721 = .ok (.iconst 3, 1) := by decide +kernel
theorem dL_law_722 : decode cL_law 722 = .ok (.iadd, 1) := by decide +kernel
theorem dL_law_723 : decode cL_law 723 = .ok (.iaload, 1) := by decide +kernel
theorem dL_law_724 : decode cL_law 724 = .ok (.invokevirtual 83, 3) := by decide +kernel
theorem dL_law_727 : decode cL_law 727 = .ok (.if_icmp .eq 587, 3) := by decide +kernel
theorem dL_law_730 : decode cL_law 730 = .ok (.iconst 0, 1) := by decide +kernel
theorem dL_law_731 : decode cL_law 731 = .ok (.ireturn, 1) := by decide +kernel
theorem dL_law_732 : decode cL_law 732 = .ok (.aload_n 1, 1) := by decide +kernel
theorem dL_law_733 : decode cL_law 733 = .ok (.invokevirtual 84, 3) := by decide +kernel
theorem dL_law_736 : decode cL_law 736 = .ok (.aload_n 2, 1) := by decide +kernel
theorem dL_law_737 : decode cL_law 737 = .ok (.invokevirtual 88, 3) := by decide +kernel
theorem dL_law_740 : decode cL_law 740 = .ok (.if_icmp .eq 574, 3) := by decide +kernel
theorem dL_law_743 : decode cL_law 743 = .ok (.iconst 0, 1) := by decide +kernel
theorem dL_law_744 : decode cL_law 744 = .ok (.ireturn, 1) := by decide +kernel
theorem dL_law_745 : decode cL_law 745 = .ok (.aload_n 1, 1) := by decide +kernel
theorem dL_law_746 : decode cL_law 746 = .ok (.aload_n 0, 1) := by decide +kernel
theorem dL_law_747 : decode cL_law 747 = .ok (.iload_n 3, 1) := by decide +kernel
theorem dL_law_748 : decode cL_law 748 = .ok (.iconst 1, 1) := by decide +kernel
theorem dL_law_749 : decode cL_law 749 = .ok (.iadd, 1) := by decide +kernel
theorem dL_law_750 : decode cL_law 750 = .ok (.iaload, 1) := by decide +kernel
theorem dL_law_751 : decode cL_law 751 = .ok (.ifCond .eq 7, 3) := by decide +kernel
theorem dL_law_754 : decode cL_law 754 = .ok (.iconst 1, 1) := by decide +kernel
theorem dL_law_755 : decode cL_law 755 = .ok (.goto 4, 3) := by decide +kernel
theorem dL_law_758 : decode cL_law 758 = .ok (.iconst 0, 1) := by decide +kernel
theorem dL_law_759 : decode cL_law 759 = .ok (.invokevirtual 89, 3) := by decide +kernel
theorem dL_law_762 : decode cL_law 762 = .ok (.aload_n 2, 1) := by decide +kernel
theorem dL_law_763 : decode cL_law 763 = .ok (.aload_n 0, 1) := by decide +kernel
theorem dL_law_764 : decode cL_law 764 = .ok (.iload_n 3, 1) := by decide +kernel
theorem dL_law_765 : decode cL_law 765 = .ok (.iconst 1, 1) := by decide +kernel
theorem dL_law_766 : decode cL_law 766 = .ok (.iadd, 1) := by decide +kernel
theorem dL_law_767 : decode cL_law 767 = .ok (.iaload, 1) := by decide +kernel
theorem dL_law_768 : decode cL_law 768 = .ok (.ifCond .eq 7, 3) := by decide +kernel
theorem dL_law_771 : decode cL_law 771 = .ok (.iconst 1, 1) := by decide +kernel
theorem dL_law_772 : decode cL_law 772 = .ok (.goto 4, 3) := by decide +kernel
theorem dL_law_775 : decode cL_law 775 = .ok (.iconst 0, 1) := by decide +kernel
theorem dL_law_776 : decode cL_law 776 = .ok (.invokevirtual 93, 3) := by decide +kernel
theorem dL_law_779 : decode cL_law 779 = .ok (.if_icmp .eq 535, 3) := by decide +kernel
theorem dL_law_782 : decode cL_law 782 = .ok (.iconst 0, 1) := by decide +kernel
theorem dL_law_783 : decode cL_law 783 = .ok (.ireturn, 1) := by decide +kernel
end
section
theorem dL_law_784 : decode cL_law 784 = .ok (.aload_n 1, 1) := by decide +kernel
theorem dL_law_785 : decode cL_law 785 = .ok (.aload_n 0, 1) := by decide +kernel
theorem dL_law_786 : decode cL_law 786 = .ok (.iload_n 3, 1) := by decide +kernel
theorem dL_law_787 : decode cL_law 787 = .ok (.iconst 1, 1) := by decide +kernel
theorem dL_law_788 : decode cL_law 788 = .ok (.iadd, 1) := by decide +kernel
theorem dL_law_789 : decode cL_law 789 = .ok (.iaload, 1) := by decide +kernel
theorem dL_law_790 : decode cL_law 790 = .ok (.invokevirtual 94, 3) := by decide +kernel
theorem dL_law_793 : decode cL_law 793 = .ok (.aload_n 2, 1) := by decide +kernel
theorem dL_law_794 : decode cL_law 794 = .ok (.aload_n 0, 1) := by decide +kernel
theorem dL_law_795 : decode cL_law 795 = .ok (.iload_n 3, 1) := by decide +kernel
theorem dL_law_796 : decode cL_law 796 = .ok (.iconst 1, 1) := by decide +kernel
theorem dL_law_797 : decode cL_law 797 = .ok (.iadd, 1) := by decide +kernel
theorem dL_law_798 : decode cL_law 798 = .ok (.iaload, 1) := by decide +kernel
theorem dL_law_799 : decode cL_law 799 = .ok (.invokevirtual 97, 3) := by decide +kernel
theorem dL_law_802 : decode cL_law 802 = .ok (.if_icmp .eq 512, 3) := by decide +kernel
theorem dL_law_805 : decode cL_law 805 = .ok (.iconst 0, 1) := by decide +kernel
theorem dL_law_806 : decode cL_law 806 = .ok (.ireturn, 1) := by decide +kernel
theorem dL_law_807 : decode cL_law 807 = .ok (.aload_n 1, 1) := by decide +kernel
theorem dL_law_808 : decode cL_law 808 = .ok (.aload_n 0, 1) := by decide +kernel
theorem dL_law_809 : decode cL_law 809 = .ok (.iload_n 3, 1) := by decide +kernel
theorem dL_law_810 : decode cL_law 810 = .ok (.iconst 1, 1) := by decide +kernel
theorem dL_law_811 : decode cL_law 811 = .ok (.iadd, 1) := by decide +kernel
theorem dL_law_812 : decode cL_law 812 = .ok (.iaload, 1) := by decide +kernel
theorem dL_law_813 : decode cL_law 813 = .ok (.aload_n 0, 1) := by decide +kernel
theorem dL_law_814 : decode cL_law 814 = .ok (.iload_n 3, 1) := by decide +kernel
theorem dL_law_815 : decode cL_law 815 = .ok (.iconst 2, 1) := by decide +kernel
theorem dL_law_816 : decode cL_law 816 = .ok (.iadd, 1) := by decide +kernel
theorem dL_law_817 : decode cL_law 817 = .ok (.iaload, 1) := by decide +kernel
theorem dL_law_818 : decode cL_law 818 = .ok (.ifCond .eq 7, 3) := by decide +kernel
theorem dL_law_821 : decode cL_law 821 = .ok (.iconst 1, 1) := by decide +kernel
theorem dL_law_822 : decode cL_law 822 = .ok (.goto 4, 3) := by decide +kernel
theorem dL_law_825 : decode cL_law 825 = .ok (.iconst 0, 1) := by decide +kernel
theorem dL_law_826 : decode cL_law 826 = .ok (.invokevirtual 98, 3) := by decide +kernel
theorem dL_law_829 : decode cL_law 829 = .ok (.aload_n 2, 1) := by decide +kernel
theorem dL_law_830 : decode cL_law 830 = .ok (.aload_n 0, 1) := by decide +kernel
theorem dL_law_831 : decode cL_law 831 = .ok (.iload_n 3, 1) := by decide +kernel
theorem dL_law_832 : decode cL_law 832 = .ok (.iconst 1, 1) := by decide +kernel
theorem dL_law_833 : decode cL_law 833 = .ok (.iadd, 1) := by decide +kernel
theorem dL_law_834 : decode cL_law 834 = .ok (.iaload, 1) := by decide +kernel
theorem dL_law_835 : decode cL_law 835 = .ok (.aload_n 0, 1) := by decide +kernel
theorem dL_law_836 : decode cL_law 836 = .ok (.iload_n 3, 1) := by decide +kernel
theorem dL_law_837 : decode cL_law 837 = .ok (.iconst 2, 1) := by decide +kernel
theorem dL_law_838 : decode cL_law 838 = .ok (.iadd, 1) := by decide +kernel
theorem dL_law_839 : decode cL_law 839 = .ok (.iaload, 1) := by decide +kernel
theorem dL_law_840 : decode cL_law 840 = .ok (.ifCond .eq 7, 3) := by decide +kernel
theorem dL_law_843 : decode cL_law 843 = .ok (.iconst 1, 1) := by decide +kernel
theorem dL_law_844 : decode cL_law 844 = .ok (.goto 4, 3) := by decide +kernel
theorem dL_law_847 : decode cL_law 847 = .ok (.iconst 0, 1) := by decide +kernel
theorem dL_law_848 : decode cL_law 848 = .ok (.invokevirtual 102, 3) := by decide +kernel
theorem dL_law_851 : decode cL_law 851 = .ok (.if_icmp .eq 463, 3) := by decide +kernel
theorem dL_law_854 : decode cL_law 854 = .ok (.iconst 0, 1) := by decide +kernel
theorem dL_law_855 : decode cL_law 855 = .ok (.ireturn, 1) := by decide +kernel
theorem dL_law_856 : decode cL_law 856 = .ok (.aload_n 1, 1) := by decide +kernel
theorem dL_law_857 : decode cL_law 857 = .ok (.invokevirtual 103, 3) := by decide +kernel
theorem dL_law_860 : decode cL_law 860 = .ok (.aload_n 2, 1) := by decide +kernel
theorem dL_law_861 : decode cL_law 861 = .ok (.invokevirtual 106, 3) := by decide +kernel
theorem dL_law_864 : decode cL_law 864 = .ok (.if_icmp .eq 450, 3) := by decide +kernel
theorem dL_law_867 : decode cL_law 867 = .ok (.iconst 0, 1) := by decide +kernel
theorem dL_law_868 : decode cL_law 868 = .ok (.ireturn, 1) := by decide +kernel
theorem dL_law_869 : decode cL_law 869 = .ok (.aload_n 1, 1) := by decide +kernel
theorem dL_law_870 : decode cL_law 870 = .ok (.aload_n 0, 1) := by decide +kernel
theorem dL_law_871 : decode cL_law 871 = .ok (.iload_n 3, 1) := by decide +kernel
theorem dL_law_872 : decode cL_law 872 = .ok (.iconst 1, 1) := by decide +kernel
theorem dL_law_873 : decode cL_law 873 = .ok (.iadd, 1) := by decide +kernel
theorem dL_law_874 : decode cL_law 874 = .ok (.iaload, 1) := by decide +kernel
theorem dL_law_875 : decode cL_law 875 = .ok (.aload_n 0, 1) := by decide +kernel
theorem dL_law_876 : decode cL_law 876 = .ok (.iload_n 3, 1) := by decide +kernel
theorem dL_law_877 : decode cL_law 877 = .ok (.iconst 2, 1) := by decide +kernel
theorem dL_law_878 : decode cL_law 878 = .ok (.iadd, 1) := by decide +kernel
theorem dL_law_879 : decode cL_law 879 = .ok (.iaload, 1) := by decide +kernel
theorem dL_law_880 : decode cL_law 880 = .ok (.aload_n 0, 1) := by decide +kernel
theorem dL_law_881 : decode cL_law 881 = .ok (.iload_n 3, 1) := by decide +kernel
theorem dL_law_882 : decode cL_law 882 = .ok (.iconst 3, 1) := by decide +kernel
theorem dL_law_883 : decode cL_law 883 = .ok (.iadd, 1) := by decide +kernel
theorem dL_law_884 : decode cL_law 884 = .ok (.iaload, 1) := by decide +kernel
theorem dL_law_885 : decode cL_law 885 = .ok (.aload_n 0, 1) := by decide +kernel
theorem dL_law_886 : decode cL_law 886 = .ok (.iload_n 3, 1) := by decide +kernel
theorem dL_law_887 : decode cL_law 887 = .ok (.iconst 4, 1) := by decide +kernel
theorem dL_law_888 : decode cL_law 888 = .ok (.iadd, 1) := by decide +kernel
theorem dL_law_889 : decode cL_law 889 = .ok (.iaload, 1) := by decide +kernel
theorem dL_law_890 : decode cL_law 890 = .ok (.ifCond .eq 7, 3) := by decide +kernel
theorem dL_law_893 : decode cL_law 893 = .ok (.iconst 1, 1) := by decide +kernel
theorem dL_law_894 : decode cL_law 894 = .ok (.goto 4, 3) := by decide +kernel
theorem dL_law_897 : decode cL_law 897 = .ok (.iconst 0, 1) := by decide +kernel
theorem dL_law_898 : decode cL_law 898 = .ok (.invokevirtual 107, 3) := by decide +kernel
theorem dL_law_901 : decode cL_law 901 = .ok (.aload_n 2, 1) := by decide +kernel
theorem dL_law_902 : decode cL_law 902 = .ok (.aload_n 0, 1) := by decide +kernel
theorem dL_law_903 : decode cL_law 903 = .ok (.iload_n 3, 1) := by decide +kernel
theorem dL_law_904 : decode cL_law 904 = .ok (.iconst 1, 1) := by decide +kernel
theorem dL_law_905 : decode cL_law 905 = .ok (.iadd, 1) := by decide +kernel
theorem dL_law_906 : decode cL_law 906 = .ok (.iaload, 1) := by decide +kernel
theorem dL_law_907 : decode cL_law 907 = .ok (.aload_n 0, 1) := by decide +kernel
theorem dL_law_908 : decode cL_law 908 = .ok (.iload_n 3, 1) := by decide +kernel
theorem dL_law_909 : decode cL_law 909 = .ok (.iconst 2, 1) := by decide +kernel
theorem dL_law_910 : decode cL_law 910 = .ok (.iadd, 1) := by decide +kernel
theorem dL_law_911 : decode cL_law 911 = .ok (.iaload, 1) := by decide +kernel
theorem dL_law_912 : decode cL_law 912 = .ok (.aload_n 0, 1) := by decide +kernel
theorem dL_law_913 : decode cL_law 913 = .ok (.iload_n 3, 1) := by decide +kernel
theorem dL_law_914 : decode cL_law 914 = .ok (.iconst 3, 1) := by decide +kernel
theorem dL_law_915 : decode cL_law 915 = .ok (.iadd, 1) := by decide +kernel
theorem dL_law_916 : decode cL_law 916 = .ok (.iaload, 1) := by decide +kernel
theorem dL_law_917 : decode cL_law 917 = .ok (.aload_n 0, 1) := by decide +kernel
theorem dL_law_918 : decode cL_law 918 = .ok (.iload_n 3, 1) := by decide +kernel
theorem dL_law_919 : decode cL_law 919 = .ok (.iconst 4, 1) := by decide +kernel
theorem dL_law_920 : decode cL_law 920 = .ok (.iadd, 1) := by decide +kernel
theorem dL_law_921 : decode cL_law 921 = .ok (.iaload, 1) := by decide +kernel
theorem dL_law_922 : decode cL_law 922 = .ok (.ifCond .eq 7, 3) := by decide +kernel
theorem dL_law_925 : decode cL_law 925 = .ok (.iconst 1, 1) := by decide +kernel
theorem dL_law_926 : decode cL_law 926 = .ok (.goto 4, 3) := by decide +kernel
theorem dL_law_929 : decode cL_law 929 = .ok (.iconst 0, 1) := by decide +kernel
theorem dL_law_930 : decode cL_law 930 = .ok (.invokevirtual 111, 3) := by decide +kernel
theorem dL_law_933 : decode cL_law 933 = .ok (.if_icmp .eq 381, 3) := by decide +kernel
theorem dL_law_936 : decode cL_law 936 = .ok (.iconst 0, 1) := by decide +kernel
theorem dL_law_937 : decode cL_law 937 = .ok (.ireturn, 1) := by decide +kernel
theorem dL_law_938 : decode cL_law 938 = .ok (.aload_n 1, 1) := by decide +kernel
theorem dL_law_939 : decode cL_law 939 = .ok (.aload_n 0, 1) := by decide +kernel
theorem dL_law_940 : decode cL_law 940 = .ok (.iload_n 3, 1) := by decide +kernel
theorem dL_law_941 : decode cL_law 941 = .ok (.iconst 1, 1) := by decide +kernel
theorem dL_law_942 : decode cL_law 942 = .ok (.iadd, 1) := by decide +kernel
theorem dL_law_943 : decode cL_law 943 = .ok (.iaload, 1) := by decide +kernel
theorem dL_law_944 : decode cL_law 944 = .ok (.aload_n 0, 1) := by decide +kernel
theorem dL_law_945 : decode cL_law 945 = .ok (.iload_n 3, 1) := by decide +kernel
theorem dL_law_946 : decode cL_law 946 = .ok (.iconst 2, 1) := by decide +kernel
theorem dL_law_947 : decode cL_law 947 = .ok (.iadd, 1) := by decide +kernel
theorem dL_law_948 : decode cL_law 948 = .ok (.iaload, 1) := by decide +kernel
theorem dL_law_949 : decode cL_law 949 = .ok (.aload_n 0, 1) := by decide +kernel
theorem dL_law_950 : decode cL_law 950 = .ok (.iload_n 3, 1) := by decide +kernel
theorem dL_law_951 : decode cL_law 951 = .ok (.iconst 3, 1) := by decide +kernel
theorem dL_law_952 : decode cL_law 952 = .ok (.iadd, 1) := by decide +kernel
theorem dL_law_953 : decode cL_law 953 = .ok (.iaload, 1) := by decide +kernel
theorem dL_law_954 : decode cL_law 954 = .ok (.invokevirtual 112, 3) := by decide +kernel
theorem dL_law_957 : decode cL_law 957 = .ok (.aload_n 2, 1) := by decide +kernel
theorem dL_law_958 : decode cL_law 958 = .ok (.aload_n 0, 1) := by decide +kernel
theorem dL_law_959 : decode cL_law 959 = .ok (.iload_n 3, 1) := by decide +kernel
theorem dL_law_960 : decode cL_law 960 = .ok (.iconst 1, 1) := by decide +kernel
theorem dL_law_961 : decode cL_law 961 = .ok (.iadd, 1) := by decide +kernel
theorem dL_law_962 : decode cL_law 962 = .ok (.iaload, 1) := by decide +kernel
theorem dL_law_963 : decode cL_law 963 = .ok (.aload_n 0, 1) := by decide +kernel
theorem dL_law_964 : decode cL_law 964 = .ok (.iload_n 3, 1) := by decide +kernel
theorem dL_law_965 : decode cL_law 965 = .ok (.iconst 2, 1) := by decide +kernel
theorem dL_law_966 : decode cL_law 966 = .ok (.iadd, 1) := by decide +kernel
theorem dL_law_967 : decode cL_law 967 = .ok (.iaload, 1) := by decide +kernel
theorem dL_law_968 : decode cL_law 968 = .ok (.aload_n 0, 1) := by decide +kernel
theorem dL_law_969 : decode cL_law 969 = .ok (.iload_n 3, 1) := by decide +kernel
theorem dL_law_970 : decode cL_law 970 = .ok (.iconst 3, 1) := by decide +kernel
theorem dL_law_971 : decode cL_law 971 = .ok (.iadd, 1) := by decide +kernel
theorem dL_law_972 : decode cL_law 972 = .ok (.iaload, 1) := by decide +kernel
theorem dL_law_973 : decode cL_law 973 = .ok (.invokevirtual 115, 3) := by decide +kernel
theorem dL_law_976 : decode cL_law 976 = .ok (.if_icmp .eq 338, 3) := by decide +kernel
theorem dL_law_979 : decode cL_law 979 = .ok (.iconst 0, 1) := by decide +kernel
theorem dL_law_980 : decode cL_law 980 = .ok (.ireturn, 1) := by decide +kernel
theorem dL_law_981 : decode cL_law 981 = .ok (.aload_n 1, 1) := by decide +kernel
theorem dL_law_982 : decode cL_law 982 = .ok (.aload_n 0, 1) := by decide +kernel
theorem dL_law_983 : decode cL_law 983 = .ok (.iload_n 3, 1) := by decide +kernel
theorem dL_law_984 : decode cL_law 984 = .ok (.iconst 1, 1) := by decide +kernel
theorem dL_law_985 : decode cL_law 985 = .ok (.iadd, 1) := by decide +kernel
theorem dL_law_986 : decode cL_law 986 = .ok (.iaload, 1) := by decide +kernel
theorem dL_law_987 : decode cL_law 987 = .ok (.aload_n 0, 1) := by decide +kernel
theorem dL_law_988 : decode cL_law 988 = .ok (.iload_n 3, 1) := by decide +kernel
theorem dL_law_989 : decode cL_law 989 = .ok (.iconst 2, 1) := by decide +kernel
theorem dL_law_990 : decode cL_law 990 = .ok (.iadd, 1) := by decide +kernel
theorem dL_law_991 : decode cL_law 991 = .ok (.iaload, 1) := by decide +kernel
theorem dL_law_992 : decode cL_law 992 = .ok (.invokevirtual 116, 3) := by decide +kernel
theorem dL_law_995 : decode cL_law 995 = .ok (.aload_n 2, 1) := by decide +kernel
theorem dL_law_996 : decode cL_law 996 = .ok (.aload_n 0, 1) := by decide +kernel
theorem dL_law_997 : decode cL_law 997 = .ok (.iload_n 3, 1) := by decide +kernel
theorem dL_law_998 : decode cL_law 998 = .ok (.iconst 1, 1) := by decide +kernel
theorem dL_law_999 : decode cL_law 999 = .ok (.iadd, 1) := by decide +kernel
theorem dL_law_1000 : decode cL_law 1000 = .ok (.iaload, 1) := by decide +kernel
theorem dL_law_1001 : decode cL_law 1001 = .ok (.aload_n 0, 1) := by decide +kernel
theorem dL_law_1002 : decode cL_law 1002 = .ok (.iload_n 3, 1) := by decide +kernel
theorem dL_law_1003 : decode cL_law 1003 = .ok (.iconst 2, 1) := by decide +kernel
theorem dL_law_1004 : decode cL_law 1004 = .ok (.iadd, 1) := by decide +kernel
theorem dL_law_1005 : decode cL_law 1005 = .ok (.iaload, 1) := by decide +kernel
theorem dL_law_1006 : decode cL_law 1006 = .ok (.invokevirtual 119, 3) := by decide +kernel
theorem dL_law_1009 : decode cL_law 1009 = .ok (.if_icmp .eq 305, 3) := by decide +kernel
theorem dL_law_1012 : decode cL_law 1012 = .ok (.iconst 0, 1) := by decide +kernel
theorem dL_law_1013 : decode cL_law 1013 = .ok (.ireturn, 1) := by decide +kernel
theorem dL_law_1014 : decode cL_law 1014 = .ok (.aload_n 1, 1) := by decide +kernel
theorem dL_law_1015 : decode cL_law 1015 = .ok (.aload_n 0, 1) := by decide +kernel
theorem dL_law_1016 : decode cL_law 1016 = .ok (.iload_n 3, 1) := by decide +kernel
theorem dL_law_1017 : decode cL_law 1017 = .ok (.iconst 1, 1) := by decide +kernel
theorem dL_law_1018 : decode cL_law 1018 = .ok (.iadd, 1) := by decide +kernel
theorem dL_law_1019 : decode cL_law 1019 = .ok (.iaload, 1) := by decide +kernel
theorem dL_law_1020 : decode cL_law 1020 = .ok (.aload_n 0, 1) := by decide +kernel
theorem dL_law_1021 : decode cL_law 1021 = .ok (.iload_n 3, 1) := by decide +kernel
theorem dL_law_1022 : decode cL_law 1022 = .ok (.iconst 2, 1) := by decide +kernel
theorem dL_law_1023 : decode cL_law 1023 = .ok (.iadd, 1) := by decide +kernel
theorem dL_law_1024 : decode cL_law 1024 = .ok (.iaload, 1) := by decide +kernel
theorem dL_law_1025 : decode cL_law 1025 = .ok (.invokevirtual 120, 3) := by decide +kernel
theorem dL_law_1028 : decode cL_law 1028 = .ok (.aload_n 2, 1) := by decide +kernel
theorem dL_law_1029 : decode cL_law 1029 = .ok (.aload_n 0, 1) := by decide +kernel
theorem dL_law_1030 : decode cL_law 1030 = .ok (.iload_n 3, 1) := by decide +kernel
theorem dL_law_1031 : decode cL_law 1031 = .ok (.iconst 1, 1) := by decide +kernel
theorem dL_law_1032 : decode cL_law 1032 = .ok (.iadd, 1) := by decide +kernel
theorem dL_law_1033 : decode cL_law 1033 = .ok (.iaload, 1) := by decide +kernel
theorem dL_law_1034 : decode cL_law 1034 = .ok (.aload_n 0, 1) := by decide +kernel
theorem dL_law_1035 : decode cL_law 1035 = .ok (.iload_n 3, 1) := by decide +kernel
theorem dL_law_1036 : decode cL_law 1036 = .ok (.iconst 2, 1) := by decide +kernel
theorem dL_law_1037 : decode cL_law 1037 = .ok (.iadd, 1) := by decide +kernel
theorem dL_law_1038 : decode cL_law 1038 = .ok (.iaload, 1) := by decide +kernel
theorem dL_law_1039 : decode cL_law 1039 = .ok (.invokevirtual 123, 3) := by decide +kernel
theorem dL_law_1042 : decode cL_law 1042 = .ok (.if_icmp .eq 272, 3) := by decide +kernel
theorem dL_law_1045 : decode cL_law 1045 = .ok (.iconst 0, 1) := by decide +kernel
theorem dL_law_1046 : decode cL_law 1046 = .ok (.ireturn, 1) := by decide +kernel
theorem dL_law_1047 : decode cL_law 1047 = .ok (.aload_n 1, 1) := by decide +kernel
theorem dL_law_1048 : decode cL_law 1048 = .ok (.aload_n 0, 1) := by decide +kernel
theorem dL_law_1049 : decode cL_law 1049 = .ok (.iload_n 3, 1) := by decide +kernel
theorem dL_law_1050 : decode cL_law 1050 = .ok (.iconst 1, 1) := by decide +kernel
theorem dL_law_1051 : decode cL_law 1051 = .ok (.iadd, 1) := by decide +kernel
theorem dL_law_1052 : decode cL_law 1052 = .ok (.iaload, 1) := by decide +kernel
theorem dL_law_1053 : decode cL_law 1053 = .ok (.invokevirtual 124, 3) := by decide +kernel
theorem dL_law_1056 : decode cL_law 1056 = .ok (.aload_n 2, 1) := by decide +kernel
theorem dL_law_1057 : decode cL_law 1057 = .ok (.aload_n 0, 1) := by decide +kernel
theorem dL_law_1058 : decode cL_law 1058 = .ok (.iload_n 3, 1) := by decide +kernel
theorem dL_law_1059 : decode cL_law 1059 = .ok (.iconst 1, 1) := by decide +kernel
theorem dL_law_1060 : decode cL_law 1060 = .ok (.iadd, 1) := by decide +kernel
theorem dL_law_1061 : decode cL_law 1061 = .ok (.iaload, 1) := by decide +kernel
theorem dL_law_1062 : decode cL_law 1062 = .ok (.invokevirtual 127, 3) := by decide +kernel
theorem dL_law_1065 : decode cL_law 1065 = .ok (.if_icmp .eq 249, 3) := by decide +kernel
theorem dL_law_1068 : decode cL_law 1068 = .ok (.iconst 0, 1) := by decide +kernel
theorem dL_law_1069 : decode cL_law 1069 = .ok (.ireturn, 1) := by decide +kernel
theorem dL_law_1070 : decode cL_law 1070 = .ok (.aload_n 1, 1) := by decide +kernel
theorem dL_law_1071 : decode cL_law 1071 = .ok (.invokevirtual 128, 3) := by decide +kernel
theorem dL_law_1074 : decode cL_law 1074 = .ok (.aload_n 2, 1) := by decide +kernel
theorem dL_law_1075 : decode cL_law 1075 = .ok (.invokevirtual 131, 3) := by decide +kernel
theorem dL_law_1078 : decode cL_law 1078 = .ok (.if_icmp .eq 236, 3) := by decide +kernel
theorem dL_law_1081 : decode cL_law 1081 = .ok (.iconst 0, 1) := by decide +kernel
theorem dL_law_1082 : decode cL_law 1082 = .ok (.ireturn, 1) := by decide +kernel
theorem dL_law_1083 : decode cL_law 1083 = .ok (.aload_n 1, 1) := by decide +kernel
theorem dL_law_1084 : decode cL_law 1084 = .ok (.aload_n 0, 1) := by decide +kernel
theorem dL_law_1085 : decode cL_law 1085 = .ok (.iload_n 3, 1) := by decide +kernel
theorem dL_law_1086 : decode cL_law 1086 = .ok (.iconst 1, 1) := by decide +kernel
theorem dL_law_1087 : decode cL_law 1087 = .ok (.iadd, 1) := by decide +kernel
theorem dL_law_1088 : decode cL_law 1088 = .ok (.iaload, 1) := by decide +kernel
theorem dL_law_1089 : decode cL_law 1089 = .ok (.invokevirtual 132, 3) := by decide +kernel
theorem dL_law_1092 : decode cL_law 1092 = .ok (.aload_n 2, 1) := by decide +kernel
theorem dL_law_1093 : decode cL_law 1093 = .ok (.aload_n 0, 1) := by decide +kernel
theorem dL_law_1094 : decode cL_law 1094 = .ok (.iload_n 3, 1) := by decide +kernel
theorem dL_law_1095 : decode cL_law 1095 = .ok (.iconst 1, 1) := by decide +kernel
theorem dL_law_1096 : decode cL_law 1096 = .ok (.iadd, 1) := by decide +kernel
theorem dL_law_1097 : decode cL_law 1097 = .ok (.iaload, 1) := by decide +kernel
theorem dL_law_1098 : decode cL_law 1098 = .ok (.invokevirtual 135, 3) := by decide +kernel
theorem dL_law_1101 : decode cL_law 1101 = .ok (.if_icmp .eq 213, 3) := by decide +kernel
theorem dL_law_1104 : decode cL_law 1104 = .ok (.iconst 0, 1) := by decide +kernel
theorem dL_law_1105 : decode cL_law 1105 = .ok (.ireturn, 1) := by decide +kernel
theorem dL_law_1106 : decode cL_law 1106 = .ok (.aload_n 1, 1) := by decide +kernel
theorem dL_law_1107 : decode cL_law 1107 = .ok (.aload_n 0, 1) := by decide +kernel
theorem dL_law_1108 : decode cL_law 1108 = .ok (.iload_n 3, 1) := by decide +kernel
theorem dL_law_1109 : decode cL_law 1109 = .ok (.iconst 1, 1) := by decide +kernel
theorem dL_law_1110 : decode cL_law 1110 = .ok (.iadd, 1) := by decide +kernel
theorem dL_law_1111 : decode cL_law 1111 = .ok (.iaload, 1) := by decide +kernel
theorem dL_law_1112 : decode cL_law 1112 = .ok (.invokevirtual 136, 3) := by decide +kernel
theorem dL_law_1115 : decode cL_law 1115 = .ok (.aload_n 2, 1) := by decide +kernel
theorem dL_law_1116 : decode cL_law 1116 = .ok (.aload_n 0, 1) := by decide +kernel
theorem dL_law_1117 : decode cL_law 1117 = .ok (.iload_n 3, 1) := by decide +kernel
theorem dL_law_1118 : decode cL_law 1118 = .ok (.iconst 1, 1) := by decide +kernel
theorem dL_law_1119 : decode cL_law 1119 = .ok (.iadd, 1) := by decide +kernel
theorem dL_law_1120 : decode cL_law 1120 = .ok (.iaload, 1) := by decide +kernel
theorem dL_law_1121 : decode cL_law 1121 = .ok (.invokevirtual 139, 3) := by decide +kernel
theorem dL_law_1124 : decode cL_law 1124 = .ok (.if_icmp .eq 190, 3) := by decide +kernel
theorem dL_law_1127 : decode cL_law 1127 = .ok (.iconst 0, 1) := by decide +kernel
theorem dL_law_1128 : decode cL_law 1128 = .ok (.ireturn, 1) := by decide +kernel
theorem dL_law_1129 : decode cL_law 1129 = .ok (.aload_n 1, 1) := by decide +kernel
theorem dL_law_1130 : decode cL_law 1130 = .ok (.aload_n 0, 1) := by decide +kernel
theorem dL_law_1131 : decode cL_law 1131 = .ok (.iload_n 3, 1) := by decide +kernel
theorem dL_law_1132 : decode cL_law 1132 = .ok (.iconst 1, 1) := by decide +kernel
theorem dL_law_1133 : decode cL_law 1133 = .ok (.iadd, 1) := by decide +kernel
theorem dL_law_1134 : decode cL_law 1134 = .ok (.iaload, 1) := by decide +kernel
theorem dL_law_1135 : decode cL_law 1135 = .ok (.aload_n 0, 1) := by decide +kernel
theorem dL_law_1136 : decode cL_law 1136 = .ok (.iload_n 3, 1) := by decide +kernel
theorem dL_law_1137 : decode cL_law 1137 = .ok (.iconst 2, 1) := by decide +kernel
theorem dL_law_1138 : decode cL_law 1138 = .ok (.iadd, 1) := by decide +kernel
theorem dL_law_1139 : decode cL_law 1139 = .ok (.iaload, 1) := by decide +kernel
theorem dL_law_1140 : decode cL_law 1140 = .ok (.aload_n 0, 1) := by decide +kernel
theorem dL_law_1141 : decode cL_law 1141 = .ok (.iload_n 3, 1) := by decide +kernel
theorem dL_law_1142 : decode cL_law 1142 = .ok (.iconst 3, 1) := by decide +kernel
theorem dL_law_1143 : decode cL_law 1143 = .ok (.iadd, 1) := by decide +kernel
theorem dL_law_1144 : decode cL_law 1144 = .ok (.iaload, 1) := by decide +kernel
theorem dL_law_1145 : decode cL_law 1145 = .ok (.invokevirtual 140, 3) := by decide +kernel
theorem dL_law_1148 : decode cL_law 1148 = .ok (.aload_n 2, 1) := by decide +kernel
theorem dL_law_1149 : decode cL_law 1149 = .ok (.aload_n 0, 1) := by decide +kernel
theorem dL_law_1150 : decode cL_law 1150 = .ok (.iload_n 3, 1) := by decide +kernel
theorem dL_law_1151 : decode cL_law 1151 = .ok (.iconst 1, 1) := by decide +kernel
theorem dL_law_1152 : decode cL_law 1152 = .ok (.iadd, 1) := by decide +kernel
theorem dL_law_1153 : decode cL_law 1153 = .ok (.iaload, 1) := by decide +kernel
theorem dL_law_1154 : decode cL_law 1154 = .ok (.aload_n 0, 1) := by decide +kernel
theorem dL_law_1155 : decode cL_law 1155 = .ok (.iload_n 3, 1) := by decide +kernel
theorem dL_law_1156 : decode cL_law 1156 = .ok (.iconst 2, 1) := by decide +kernel
theorem dL_law_1157 : decode cL_law 1157 = .ok (.iadd, 1) := by decide +kernel
theorem dL_law_1158 : decode cL_law 1158 = .ok (.iaload, 1) := by decide +kernel
theorem dL_law_1159 : decode cL_law 1159 = .ok (.aload_n 0, 1) := by decide +kernel
theorem dL_law_1160 : decode cL_law 1160 = .ok (.iload_n 3, 1) := by decide +kernel
theorem dL_law_1161 : decode cL_law 1161 = .ok (.iconst 3, 1) := by decide +kernel
theorem dL_law_1162 : decode cL_law 1162 = .ok (.iadd, 1) := by decide +kernel
theorem dL_law_1163 : decode cL_law 1163 = .ok (.iaload, 1) := by decide +kernel
theorem dL_law_1164 : decode cL_law 1164 = .ok (.invokevirtual 143, 3) := by decide +kernel
theorem dL_law_1167 : decode cL_law 1167 = .ok (.if_icmp .eq 147, 3) := by decide +kernel
theorem dL_law_1170 : decode cL_law 1170 = .ok (.iconst 0, 1) := by decide +kernel
theorem dL_law_1171 : decode cL_law 1171 = .ok (.ireturn, 1) := by decide +kernel
theorem dL_law_1172 : decode cL_law 1172 = .ok (.aload_n 1, 1) := by decide +kernel
theorem dL_law_1173 : decode cL_law 1173 = .ok (.aload_n 0, 1) := by decide +kernel
theorem dL_law_1174 : decode cL_law 1174 = .ok (.iload_n 3, 1) := by decide +kernel
theorem dL_law_1175 : decode cL_law 1175 = .ok (.iconst 1, 1) := by decide +kernel
theorem dL_law_1176 : decode cL_law 1176 = .ok (.iadd, 1) := by decide +kernel
theorem dL_law_1177 : decode cL_law 1177 = .ok (.iaload, 1) := by decide +kernel
theorem dL_law_1178 : decode cL_law 1178 = .ok (.aload_n 0, 1) := by decide +kernel
theorem dL_law_1179 : decode cL_law 1179 = .ok (.iload_n 3, 1) := by decide +kernel
theorem dL_law_1180 : decode cL_law 1180 = .ok (.iconst 2, 1) := by decide +kernel
theorem dL_law_1181 : decode cL_law 1181 = .ok (.iadd, 1) := by decide +kernel
theorem dL_law_1182 : decode cL_law 1182 = .ok (.iaload, 1) := by decide +kernel
theorem dL_law_1183 : decode cL_law 1183 = .ok (.aload_n 0, 1) := by decide +kernel
theorem dL_law_1184 : decode cL_law 1184 = .ok (.iload_n 3, 1) := by decide +kernel
theorem dL_law_1185 : decode cL_law 1185 = .ok (.iconst 3, 1) := by decide +kernel
theorem dL_law_1186 : decode cL_law 1186 = .ok (.iadd, 1) := by decide +kernel
theorem dL_law_1187 : decode cL_law 1187 = .ok (.iaload, 1) := by decide +kernel
theorem dL_law_1188 : decode cL_law 1188 = .ok (.invokevirtual 144, 3) := by decide +kernel
theorem dL_law_1191 : decode cL_law 1191 = .ok (.aload_n 2, 1) := by decide +kernel
theorem dL_law_1192 : decode cL_law 1192 = .ok (.aload_n 0, 1) := by decide +kernel
theorem dL_law_1193 : decode cL_law 1193 = .ok (.iload_n 3, 1) := by decide +kernel
theorem dL_law_1194 : decode cL_law 1194 = .ok (.iconst 1, 1) := by decide +kernel
theorem dL_law_1195 : decode cL_law 1195 = .ok (.iadd, 1) := by decide +kernel
theorem dL_law_1196 : decode cL_law 1196 = .ok (.iaload, 1) := by decide +kernel
theorem dL_law_1197 : decode cL_law 1197 = .ok (.aload_n 0, 1) := by decide +kernel
theorem dL_law_1198 : decode cL_law 1198 = .ok (.iload_n 3, 1) := by decide +kernel
theorem dL_law_1199 : decode cL_law 1199 = .ok (.iconst 2, 1) := by decide +kernel
theorem dL_law_1200 : decode cL_law 1200 = .ok (.iadd, 1) := by decide +kernel
theorem dL_law_1201 : decode cL_law 1201 = .ok (.iaload, 1) := by decide +kernel
theorem dL_law_1202 : decode cL_law 1202 = .ok (.aload_n 0, 1) := by decide +kernel
theorem dL_law_1203 : decode cL_law 1203 = .ok (.iload_n 3, 1) := by decide +kernel
theorem dL_law_1204 : decode cL_law 1204 = .ok (.iconst 3, 1) := by decide +kernel
theorem dL_law_1205 : decode cL_law 1205 = .ok (.iadd, 1) := by decide +kernel
theorem dL_law_1206 : decode cL_law 1206 = .ok (.iaload, 1) := by decide +kernel
theorem dL_law_1207 : decode cL_law 1207 = .ok (.invokevirtual 147, 3) := by decide +kernel
theorem dL_law_1210 : decode cL_law 1210 = .ok (.if_icmp .eq 104, 3) := by decide +kernel
theorem dL_law_1213 : decode cL_law 1213 = .ok (.iconst 0, 1) := by decide +kernel
theorem dL_law_1214 : decode cL_law 1214 = .ok (.ireturn, 1) := by decide +kernel
theorem dL_law_1215 : decode cL_law 1215 = .ok (.aload_n 1, 1) := by decide +kernel
theorem dL_law_1216 : decode cL_law 1216 = .ok (.aload_n 0, 1) := by decide +kernel
theorem dL_law_1217 : decode cL_law 1217 = .ok (.iload_n 3, 1) := by decide +kernel
theorem dL_law_1218 : decode cL_law 1218 = .ok (.iconst 1, 1) := by decide +kernel
theorem dL_law_1219 : decode cL_law 1219 = .ok (.iadd, 1) := by decide +kernel
theorem dL_law_1220 : decode cL_law 1220 = .ok (.iaload, 1) := by decide +kernel
theorem dL_law_1221 : decode cL_law 1221 = .ok (.aload_n 0, 1) := by decide +kernel
theorem dL_law_1222 : decode cL_law 1222 = .ok (.iload_n 3, 1) := by decide +kernel
theorem dL_law_1223 : decode cL_law 1223 = .ok (.iconst 2, 1) := by decide +kernel
theorem dL_law_1224 : decode cL_law 1224 = .ok (.iadd, 1) := by decide +kernel
theorem dL_law_1225 : decode cL_law 1225 = .ok (.iaload, 1) := by decide +kernel
theorem dL_law_1226 : decode cL_law 1226 = .ok (.aload_n 0, 1) := by decide +kernel
theorem dL_law_1227 : decode cL_law 1227 = .ok (.iload_n 3, 1) := by decide +kernel
theorem dL_law_1228 : decode cL_law 1228 = .ok (.iconst 3, 1) := by decide +kernel
theorem dL_law_1229 : decode cL_law 1229 = .ok (.iadd, 1) := by decide +kernel
theorem dL_law_1230 : decode cL_law 1230 = .ok (.iaload, 1) := by decide +kernel
theorem dL_law_1231 : decode cL_law 1231 = .ok (.aload_n 0, 1) := by decide +kernel
theorem dL_law_1232 : decode cL_law 1232 = .ok (.iload_n 3, 1) := by decide +kernel
theorem dL_law_1233 : decode cL_law 1233 = .ok (.iconst 4, 1) := by decide +kernel
theorem dL_law_1234 : decode cL_law 1234 = .ok (.iadd, 1) := by decide +kernel
theorem dL_law_1235 : decode cL_law 1235 = .ok (.iaload, 1) := by decide +kernel
theorem dL_law_1236 : decode cL_law 1236 = .ok (.aload_n 0, 1) := by decide +kernel
theorem dL_law_1237 : decode cL_law 1237 = .ok (.iload_n 3, 1) := by decide +kernel
theorem dL_law_1238 : decode cL_law 1238 = .ok (.iconst 5, 1) := by decide +kernel
theorem dL_law_1239 : decode cL_law 1239 = .ok (.iadd, 1) := by decide +kernel
theorem dL_law_1240 : decode cL_law 1240 = .ok (.iaload, 1) := by decide +kernel
theorem dL_law_1241 : decode cL_law 1241 = .ok (.invokevirtual 148, 3) := by decide +kernel
theorem dL_law_1244 : decode cL_law 1244 = .ok (.aload_n 2, 1) := by decide +kernel
theorem dL_law_1245 : decode cL_law 1245 = .ok (.aload_n 0, 1) := by decide +kernel
theorem dL_law_1246 : decode cL_law 1246 = .ok (.iload_n 3, 1) := by decide +kernel
theorem dL_law_1247 : decode cL_law 1247 = .ok (.iconst 1, 1) := by decide +kernel
theorem dL_law_1248 : decode cL_law 1248 = .ok (.iadd, 1) := by decide +kernel
theorem dL_law_1249 : decode cL_law 1249 = .ok (.iaload, 1) := by decide +kernel
theorem dL_law_1250 : decode cL_law 1250 = .ok (.aload_n 0, 1) := by decide +kernel
theorem dL_law_1251 : decode cL_law 1251 = .ok (.iload_n 3, 1) := by decide +kernel
theorem dL_law_1252 : decode cL_law 1252 = .ok (.iconst 2, 1) := by decide +kernel
theorem dL_law_1253 : decode cL_law 1253 = .ok (.iadd, 1) := by decide +kernel
theorem dL_law_1254 : decode cL_law 1254 = .ok (.iaload, 1) := by decide +kernel
theorem dL_law_1255 : decode cL_law 1255 = .ok (.aload_n 0, 1) := by decide +kernel
theorem dL_law_1256 : decode cL_law 1256 = .ok (.iload_n 3, 1) := by decide +kernel
theorem dL_law_1257 : decode cL_law 1257 = .ok (.iconst 3, 1) := by decide +kernel
theorem dL_law_1258 : decode cL_law 1258 = .ok (.iadd, 1) := by decide +kernel
theorem dL_law_1259 : decode cL_law 1259 = .ok (.iaload, 1) := by decide +kernel
theorem dL_law_1260 : decode cL_law 1260 = .ok (.aload_n 0, 1) := by decide +kernel
theorem dL_law_1261 : decode cL_law 1261 = .ok (.iload_n 3, 1) := by decide +kernel
theorem dL_law_1262 : decode cL_law 1262 = .ok (.iconst 4, 1) := by decide +kernel
theorem dL_law_1263 : decode cL_law 1263 = .ok (.iadd, 1) := by decide +kernel
theorem dL_law_1264 : decode cL_law 1264 = .ok (.iaload, 1) := by decide +kernel
theorem dL_law_1265 : decode cL_law 1265 = .ok (.aload_n 0, 1) := by decide +kernel
theorem dL_law_1266 : decode cL_law 1266 = .ok (.iload_n 3, 1) := by decide +kernel
theorem dL_law_1267 : decode cL_law 1267 = .ok (.iconst 5, 1) := by decide +kernel
theorem dL_law_1268 : decode cL_law 1268 = .ok (.iadd, 1) := by decide +kernel
theorem dL_law_1269 : decode cL_law 1269 = .ok (.iaload, 1) := by decide +kernel
theorem dL_law_1270 : decode cL_law 1270 = .ok (.invokevirtual 152, 3) := by decide +kernel
theorem dL_law_1273 : decode cL_law 1273 = .ok (.if_icmp .eq 41, 3) := by decide +kernel
theorem dL_law_1276 : decode cL_law 1276 = .ok (.iconst 0, 1) := by decide +kernel
theorem dL_law_1277 : decode cL_law 1277 = .ok (.ireturn, 1) := by decide +kernel
theorem dL_law_1278 : decode cL_law 1278 = .ok (.aload_n 1, 1) := by decide +kernel
theorem dL_law_1279 : decode cL_law 1279 = .ok (.invokevirtual 153, 3) := by decide +kernel
theorem dL_law_1282 : decode cL_law 1282 = .ok (.aload_n 2, 1) := by decide +kernel
theorem dL_law_1283 : decode cL_law 1283 = .ok (.invokevirtual 156, 3) := by decide +kernel
theorem dL_law_1286 : decode cL_law 1286 = .ok (.if_icmp .eq 28, 3) := by decide +kernel
theorem dL_law_1289 : decode cL_law 1289 = .ok (.iconst 0, 1) := by decide +kernel
theorem dL_law_1290 : decode cL_law 1290 = .ok (.ireturn, 1) := by decide +kernel
theorem dL_law_1291 : decode cL_law 1291 = .ok (.aload_n 1, 1) := by decide +kernel
theorem dL_law_1292 : decode cL_law 1292 = .ok (.aload_n 0, 1) := by decide +kernel
theorem dL_law_1293 : decode cL_law 1293 = .ok (.iload_n 3, 1) := by decide +kernel
theorem dL_law_1294 : decode cL_law 1294 = .ok (.iconst 1, 1) := by decide +kernel
theorem dL_law_1295 : decode cL_law 1295 = .ok (.iadd, 1) := by decide +kernel
theorem dL_law_1296 : decode cL_law 1296 = .ok (.iaload, 1) := by decide +kernel
theorem dL_law_1297 : decode cL_law 1297 = .ok (.invokevirtual 157, 3) := by decide +kernel
theorem dL_law_1300 : decode cL_law 1300 = .ok (.aload_n 2, 1) := by decide +kernel
theorem dL_law_1301 : decode cL_law 1301 = .ok (.aload_n 0, 1) := by decide +kernel
theorem dL_law_1302 : decode cL_law 1302 = .ok (.iload_n 3, 1) := by decide +kernel
theorem dL_law_1303 : decode cL_law 1303 = .ok (.iconst 1, 1) := by decide +kernel
theorem dL_law_1304 : decode cL_law 1304 = .ok (.iadd, 1) := by decide +kernel
theorem dL_law_1305 : decode cL_law 1305 = .ok (.iaload, 1) := by decide +kernel
theorem dL_law_1306 : decode cL_law 1306 = .ok (.invokevirtual 160, 3) := by decide +kernel
theorem dL_law_1309 : decode cL_law 1309 = .ok (.if_icmp .eq 5, 3) := by decide +kernel
theorem dL_law_1312 : decode cL_law 1312 = .ok (.iconst 0, 1) := by decide +kernel
theorem dL_law_1313 : decode cL_law 1313 = .ok (.ireturn, 1) := by decide +kernel
theorem dL_law_1314 : decode cL_law 1314 = .ok (.iinc 3 6, 3) := by decide +kernel
theorem dL_law_1317 : decode cL_law 1317 = .ok (.goto (-1299), 3) := by decide +kernel
theorem dL_law_1320 : decode cL_law 1320 = .ok (.iconst 1, 1) := by decide +kernel
theorem dL_law_1321 : decode cL_law 1321 = .ok (.ireturn, 1) := by decide +kernel
end
section
/-- the tables' words that hold at a call, too -/
def a_tbl : List Cond := lw_tbl.filter goodWord
theorem a_tbl_of {w : Cond} (h : w ∈ lw_tbl) (g : goodWord w = true) : w ∈ a_tbl := List.mem_filter.mpr ⟨h, g⟩
theorem a_tbl_in {w : Cond} (h : w ∈ a_tbl) : w ∈ lw_tbl := (List.mem_filter.mp h).1
theorem a_good {w : Cond} (h : w ∈ a_tbl) : goodWord w = true := (List.mem_filter.mp h).2
/-! THE FLAT WORLD: every cell of the class's object graph (0 .. 93) and of the reference's (94 .. 103) has a fixed number; a state is what the cells hold. -/
abbrev aMm : Type := Nat → Nat → Int32
abbrev aSc : Type := aMm × (Nat → Nat → Int64) × (Nat → Nat)
abbrev aSt : Type := aSc × aMm
abbrev aRw : Type := (Nat → Int32) × (Nat → Int64) × Nat
def a_row (S : aSt) (c : Nat) : aRw := if c < 94 then (S.1.1 c, S.1.2.1 c, S.1.2.2 c) else (S.2 (c - 94), fun _ => 0, 0)
theorem a_rowC {C : aSc} {M : aMm} {c : Nat} (h : c < 94) : a_row (C, M) c = (C.1 c, C.2.1 c, C.2.2 c) := by simp [a_row, h]
theorem a_rowM {C : aSc} {M : aMm} (m : Nat) : a_row (C, M) (94 + m) = (M m, fun _ => 0, 0) := by
  have h : ¬ 94 + m < 94 := by omega
  simp [a_row, h]
/-- kinds: 0 .. 8 objects of the class of that number in vwCl; 10 int[], 11 long[], 12 boolean[], 13 Light[], 14 Sheet[], 15 Step[] -/
def a_kd (c : Nat) : Nat :=
  if c < 24 then ([7, 5, 10, 13, 10, 10, 10, 6, 10, 10, 10, 10, 12, 10, 0, 10, 10, 10, 10, 10, 12, 14, 2, 15] : List Nat).getD c 99
  else if c < 54 then (if c % 3 = 0 then 1 else if c % 3 = 1 then 11 else 10)
  else if c < 62 then (if c % 2 = 0 then 3 else 10)
  else if c < 94 then (if c % 2 = 0 then 4 else 10)
  else if c = 94 then 8 else if c < 104 then 10 else 99
def a_len (c n : Nat) : Nat :=
  if c < 24 then (if c = 18 ∨ c = 19 then n else ([0, 0, 40, 10, 8, 12, 12, 0, 20, 20, 20, 20, 20, 20, 0, 20, 10, 10, 0, 0, 256, 4, 0, 16] : List Nat).getD c 0)
  else if c < 54 then (if c % 3 = 1 then 30 else 4)
  else if c < 62 then 30
  else if c < 94 then 20
  else ([0, 386, 6176, 40, 4, 4, 120, 12, 21504, 30] : List Nat).getD (c - 94) 0
/-- the slots of an object: 0 an int, 1 a long, 2 the next cell, 3 the one behind that, 10 + q cell q -/
def a_ft (k : Nat) : List Nat := match k with
  | 0 => [0, 25, 26, 0, 27, 0, 28, 29]
  | 1 => [0, 0, 0, 0, 0, 1, 2, 3, 0, 0, 0, 0]
  | 2 => [33, 0, 0]
  | 3 => [0, 0, 2]
  | 4 => [0, 0, 0, 2]
  | 5 => [12, 0, 0, 0, 0, 0, 0, 0, 0]
  | 6 => [0, 18, 19, 20, 21, 22]
  | 7 => [11, 13, 0, 0, 0, 14, 0, 15, 0, 16, 17, 23, 24, 0, 30, 0, 31, 32, 0]
  | 8 => [105, 106, 0, 0, 107, 0, 108, 109, 110, 0, 0, 0, 0, 0, 0, 0, 111, 112, 113]
  | _ => []
def a_tg (t c : Nat) : Nat := if t = 2 then c + 1 else if t = 3 then c + 2 else t - 10
def a_fv (ad : Nat → Nat) (c : Nat) (r : aRw) (j t : Nat) : Value := if t = 0 then .int (r.1 j) else if t = 1 then .long (r.2.1 j) else .ref (ad (a_tg t c))
def a_fs (k : Nat) (ad : Nat → Nat) (c : Nat) (r : aRw) : List Value := (a_ft k).mapIdx (a_fv ad c r)
theorem a_fs_at {k c j t : Nat} {ad : Nat → Nat} {r : aRw} (h : (a_ft k)[j]? = some t) : (a_fs k ad c r)[j]? = some (a_fv ad c r j t) := by
  simp [a_fs, List.getElem?_mapIdx, h]
theorem a_fs_len {k c : Nat} {ad : Nat → Nat} {r : aRw} : (a_fs k ad c r).length = (a_ft k).length := by simp [a_fs]
theorem a_fs_seti {k c j : Nat} {ad : Nat → Nat} {r : aRw} {v : Int32} (h : (a_ft k)[j]? = some 0) : (a_fs k ad c r).set j (.int v) = a_fs k ad c (upd r.1 j v, r.2) := by
  apply List.ext_getElem?
  intro i
  rw [List.getElem?_set]
  by_cases hi : j = i
  · subst hi
    have hl : j < (a_ft k).length := (List.getElem?_eq_some_iff.mp h).1
    rw [if_pos rfl, a_fs_len, if_pos hl, a_fs_at h]
    simp [a_fv, upd]
  · rw [if_neg hi]
    cases ht : (a_ft k)[i]? with
    | none => simp [a_fs, List.getElem?_mapIdx, ht]
    | some t =>
      rw [a_fs_at ht, a_fs_at ht]
      have hne : ¬ i = j := fun q => hi q.symm
      simp [a_fv, upd, hne]
theorem a_fs_setl {k c j : Nat} {ad : Nat → Nat} {r : aRw} {v : Int64} (h : (a_ft k)[j]? = some 1) : (a_fs k ad c r).set j (.long v) = a_fs k ad c (r.1, vp_updL r.2.1 j v, r.2.2) := by
  apply List.ext_getElem?
  intro i
  rw [List.getElem?_set]
  by_cases hi : j = i
  · subst hi
    have hl : j < (a_ft k).length := (List.getElem?_eq_some_iff.mp h).1
    rw [if_pos rfl, a_fs_len, if_pos hl, a_fs_at h]
    simp [a_fv, vp_updL]
  · rw [if_neg hi]
    cases ht : (a_ft k)[i]? with
    | none => simp [a_fs, List.getElem?_mapIdx, ht]
    | some t =>
      rw [a_fs_at ht, a_fs_at ht]
      have hne : ¬ i = j := fun q => hi q.symm
      simp [a_fv, vp_updL, hne]
def a_mk (kA : Nat → ClassId) (ad : Nat → Nat) (c : Nat) (r : aRw) : va_E := match a_kd c with
  | 10 => .inl (kA 0, a_len c r.2.2, .inl r.1)
  | 11 => .inl (kA 1, a_len c r.2.2, .inr (.inl r.2.1))
  | 12 => .inl (kA 2, a_len c r.2.2, .inl r.1)
  | 13 => .inl (kA 3, 10, .inr (.inr (.inr (.inr (fun j => some (ad (24 + 3 * j)))))))
  | 14 => .inl (kA 4, 4, .inr (.inr (.inr (.inr (fun j => some (ad (54 + 2 * j)))))))
  | 15 => .inl (kA 5, 16, .inr (.inr (.inr (.inr (fun j => some (ad (62 + 2 * j)))))))
  | k => .inr (k, a_fs k ad c r)
theorem a_mk_o {kA : Nat → ClassId} {ad : Nat → Nat} {c k : Nat} {r : aRw} (h : a_kd c = k) (hk : k < 9) : a_mk kA ad c r = .inr (k, a_fs k ad c r) := by
  unfold a_mk
  rw [h]
  match k, hk with
  | 0, _ => rfl
  | 1, _ => rfl
  | 2, _ => rfl
  | 3, _ => rfl
  | 4, _ => rfl
  | 5, _ => rfl
  | 6, _ => rfl
  | 7, _ => rfl
  | 8, _ => rfl
theorem a_mk_i {kA : Nat → ClassId} {ad : Nat → Nat} {c : Nat} {r : aRw} (h : a_kd c = 10) : a_mk kA ad c r = .inl (kA 0, a_len c r.2.2, .inl r.1) := by unfold a_mk; rw [h]; rfl
theorem a_mk_l {kA : Nat → ClassId} {ad : Nat → Nat} {c : Nat} {r : aRw} (h : a_kd c = 11) : a_mk kA ad c r = .inl (kA 1, a_len c r.2.2, .inr (.inl r.2.1)) := by unfold a_mk; rw [h]; rfl
theorem a_mk_z {kA : Nat → ClassId} {ad : Nat → Nat} {c : Nat} {r : aRw} (h : a_kd c = 12) : a_mk kA ad c r = .inl (kA 2, a_len c r.2.2, .inl r.1) := by unfold a_mk; rw [h]; rfl
def a_tys (kA : Nat → ClassId) : List (ClassId × FieldType) := [(kA 0, .int), (kA 1, .long), (kA 2, .boolean), (kA 3, .object RX1), (kA 4, .object RX3), (kA 5, .object RX4)]
def a_wl (kA : Nat → ClassId) (ad : Nat → Nat) (S : aSt) : va_W := (List.range 104).map (fun c => (ad c, a_mk kA ad c (a_row S c)))
theorem a_wl_at {kA : Nat → ClassId} {ad : Nat → Nat} {S : aSt} {c : Nat} (h : c < 104) : (a_wl kA ad S)[c]? = some (ad c, a_mk kA ad c (a_row S c)) := by
  simp [a_wl, List.getElem?_map, List.getElem?_range h]
theorem a_wl_set {kA : Nat → ClassId} {ad : Nat → Nat} {S S' : aSt} {c : Nat} {x : va_E} (hx : x = a_mk kA ad c (a_row S' c)) (ho : ∀ q, q ≠ c → a_row S' q = a_row S q) : (a_wl kA ad S).set c (ad c, x) = a_wl kA ad S' := by
  apply List.ext_getElem?
  intro i
  rw [List.getElem?_set]
  have hlen : (a_wl kA ad S).length = 104 := by simp [a_wl]
  by_cases hi : c = i
  · subst hi
    rw [if_pos rfl, hlen]
    by_cases hc : c < 104
    · rw [if_pos hc, a_wl_at hc, hx]
    · rw [if_neg hc]
      have : (a_wl kA ad S').length = 104 := by simp [a_wl]
      exact (List.getElem?_eq_none (by omega)).symm
  · rw [if_neg hi]
    by_cases hc : i < 104
    · rw [a_wl_at hc, a_wl_at hc, ho i (fun q => hi q.symm)]
    · have h1 : (a_wl kA ad S).length = 104 := by simp [a_wl]
      have h2 : (a_wl kA ad S').length = 104 := by simp [a_wl]
      rw [List.getElem?_eq_none (by omega), List.getElem?_eq_none (by omega)]
theorem a_wl_mem {kA : Nat → ClassId} {ad : Nat → Nat} {S : aSt} {k : Nat} {q : Nat × va_E} (h : (a_wl kA ad S)[k]? = some q) : k < 104 ∧ q = (ad k, a_mk kA ad k (a_row S k)) := by
  have hl : (a_wl kA ad S).length = 104 := by simp [a_wl]
  have hk : k < 104 := by have := (List.getElem?_eq_some_iff.mp h).1; omega
  rw [a_wl_at hk] at h
  exact ⟨hk, (Option.some.inj h).symm⟩
/-- an abstract value: a reference is a cell's number -/
def a_cv (ad : Nat → Nat) (v : Value) : Value := match v with
  | .ref i => .ref (ad i)
  | v => v
theorem a_cv_cat (ad : Nat → Nat) (v : Value) : (a_cv ad v).category = v.category := by cases v <;> rfl
def a_lc (ad : Nat → Nat) (L : List (Nat × Value)) : List (Nat × Value) := L.map (fun q => (q.1, a_cv ad q.2))
def a_f1 (i : Nat) (L : List (Nat × Value)) : List (Nat × Value) := L.filter (fun q => !(q.1 == i) && !(q.1 + 1 == i && q.2.category == 2))
def a_f2 (i : Nat) (L : List (Nat × Value)) : List (Nat × Value) := L.filter (fun q => !(q.1 == i) && (!(q.1 == i + 1) && !(q.1 + 1 == i && q.2.category == 2)))
theorem a_lc_f1 (ad : Nat → Nat) (i : Nat) (L : List (Nat × Value)) : (a_lc ad L).filter (fun q => !(q.1 == i) && !(q.1 + 1 == i && q.2.category == 2)) = a_lc ad (a_f1 i L) := by
  induction L with
  | nil => rfl
  | cons a L ih =>
    show List.filter _ ((a.1, a_cv ad a.2) :: a_lc ad L) = a_lc ad (a_f1 i (a :: L))
    unfold a_f1
    rw [List.filter_cons, List.filter_cons, ih]
    simp only [a_cv_cat]
    by_cases hc : (!(a.1 == i) && !(a.1 + 1 == i && a.2.category == 2)) = true
    · rw [if_pos hc, if_pos hc]; rfl
    · rw [if_neg hc, if_neg hc]; rfl
theorem a_lc_f2 (ad : Nat → Nat) (i : Nat) (L : List (Nat × Value)) : (a_lc ad L).filter (fun q => !(q.1 == i) && (!(q.1 == i + 1) && !(q.1 + 1 == i && q.2.category == 2))) = a_lc ad (a_f2 i L) := by
  induction L with
  | nil => rfl
  | cons a L ih =>
    show List.filter _ ((a.1, a_cv ad a.2) :: a_lc ad L) = a_lc ad (a_f2 i (a :: L))
    unfold a_f2
    rw [List.filter_cons, List.filter_cons, ih]
    simp only [a_cv_cat]
    by_cases hc : (!(a.1 == i) && (!(a.1 == i + 1) && !(a.1 + 1 == i && a.2.category == 2))) = true
    · rw [if_pos hc, if_pos hc]; rfl
    · rw [if_neg hc, if_neg hc]; rfl
theorem a_lc_at {ad : Nat → Nat} {L : List (Nat × Value)} {ls : Array Slot} {nL j i : Nat} {v : Value} (hl : lv_has ls nL (a_lc ad L)) (h : L[j]? = some (i, v)) : ls[i]? = some (.val (a_cv ad v)) :=
  lv_at hl j (by simp [a_lc, List.getElem?_map, h])
/-- the static tables: cells 200, 201, 202 -/
def a_tK (j : Nat) : Int32 := ([-1, 0, 0, 1] : List Int32).getD j 0
def a_tX (j : Nat) : Int32 := ([0, 1, 1, 2, 1, 2, 1, 1] : List Int32).getD j 0
def a_tY (j : Nat) : Int32 := ([1, 2, 1, 1, 0, -1, -1, -2] : List Int32).getD j 0
def a_tn (c : Nat) : String := if c = 200 then "KIND_OVER" else if c = 201 then "STEP_X" else "STEP_Y"
def a_tl (c : Nat) : Nat := if c = 200 then 4 else 8
def a_tv (c j : Nat) : Int32 := if c = 200 then a_tK j else if c = 201 then a_tX j else a_tY j
def a_Sx (ad : Nat → Nat) (A : Nat → Prop) (U : State) (H : Heap) : Prop := ∀ c, 200 ≤ c → c ≤ 202 → va_Z "CoastLights" (a_tn c) "[I" (.ref (ad c)) A U H ∧ va_T .int (ad c) (a_tl c) (fun j => .int (a_tv c j)) A U H
theorem a_Sx.moved {ad : Nat → Nat} {A : Nat → Prop} {u U : State} {H : Heap} (hvm : u.vm.Alike U.vm) (h : a_Sx ad A u H) : a_Sx ad A U H := fun c h1 h2 => ⟨(h c h1 h2).1.moved hvm, (h c h1 h2).2.moved hvm⟩
theorem a_Sx.kept {ad : Nat → Nat} {A : Nat → Prop} {U : State} {H H1 : Heap} (h : a_Sx ad A U H) (hq : ∀ a : Nat, a < H.size → ¬ A a → H1[a]? = H[a]?) : a_Sx ad A U H1 := fun c h1 h2 => ⟨(h c h1 h2).1.kept hq, (h c h1 h2).2.kept hq⟩
theorem a_Sx.narrow {ad : Nat → Nat} {A B : Nat → Prop} {U : State} {H : Heap} (h : a_Sx ad A U H) (hAB : ∀ q, B q → A q) : a_Sx ad B U H := fun c h1 h2 => ⟨(h c h1 h2).1.narrow hAB, (h c h1 h2).2.narrow hAB⟩
/-- a method: its code, locals, class, answer's type, room, cells and slots that it makes -/
abbrev aMi : Type := ByteArray × Nat × String × Option FieldType × Room
def a_Cx (mi : aMi) (D : va_G) (kA : Nat → ClassId) (ad : Nat → Nat) (A : Nat → Prop) (p : Program) (s : State) (m : MethodId) (args : Array Value) (meth : Method) (c : Code) : Prop :=
  p.tables.exec = Jvm.exec ∧ c.code = mi.1 ∧ c.maxLocals = mi.2.1 ∧ s.vm.findClass mi.2.2.1 = some m.cls ∧ (∀ w ∈ a_tbl, w.before args s = true) ∧ meth.sig.returnType = mi.2.2.2.1 ∧ meth.locks = false ∧ va_K D vwCl (a_tys kA) s ∧ (∀ q, s.heap.size ≤ q → A q) ∧ a_Sx ad A s s.heap
abbrev aRes : Type := Option Value × aSt
/-- what a method ends with: its answer, its state; the addresses are the same, but for the cells 18, 19, if it makes any -/
def a_Q (D : va_G) (kA : Nat → ClassId) (ad : Nat → Nat) (A : Nat → Prop) (mc : Nat) (res : aRes) : Array Value → State → Outcome → State → Prop := fun _ st oc t =>
  (∃ ad' : Nat → Nat, (∀ c, ¬ (c = 18 ∨ c = 19) → ad' c = ad c) ∧ (mc = 0 → ad' = ad) ∧ oc = .returned (res.1.map (a_cv ad')) ∧ va_P D vwCl (a_wl kA ad' res.2) t.heap ∧ va_D A (a_wl kA ad' res.2)) ∧ va_F A st t
/-- THE JUDGEMENT: from this point of a method's body it ends with 'res' -/
def J (mi : aMi) (res : aRes) (ck sk : Nat) (pc : Nat) (L : List (Nat × Value)) (st : List Value) (S : aSt) : Prop :=
  ∀ (p : Program) (l : Launch) (e : Env) (s : State) (m : MethodId) (args : Array Value) (below : List Frame) (meth : Method) (c : Code) (D : va_G) (kA : Nat → ClassId) (ad : Nat → Nat) (A : Nat → Prop) (H : Heap) (locs : List Loc) (ls : Array Slot) (ad0 : Nat → Nat),
    a_Cx mi D kA ad A p s m args meth c → (∀ c, ¬ (c = 18 ∨ c = 19) → ad c = ad0 c) → (mi.2.2.2.2.cells = 0 → ad = ad0) → lv_has ls mi.2.1 (a_lc ad L) → va_P D vwCl (a_wl kA ad S) H → va_D A (a_wl kA ad S) → va_S A s.heap H locs →
    W p l e mi.2.2.2.2 s m args below meth c H locs ck sk (MQ below (a_Q D kA ad0 A mi.2.2.2.2.cells res) args s mi.2.2.2.2.cells mi.2.2.2.2.slots A) (F0 m pc ls (st.map (a_cv ad)))
/-- the pure operations -/
def a_gi (C : aSc) (c j : Nat) : Int32 := C.1 c j
def a_gl (C : aSc) (c j : Nat) : Int64 := C.2.1 c j
def a_up (f : aMm) (c j : Nat) (v : Int32) : aMm := fun q => if q = c then upd (f c) j v else f q
def a_upl (f : Nat → Nat → Int64) (c j : Nat) (v : Int64) : Nat → Nat → Int64 := fun q => if q = c then vp_updL (f c) j v else f q
def a_pi (C : aSc) (c j : Nat) (v : Int32) : aSc := (a_up C.1 c j v, C.2)
def a_pl (C : aSc) (c j : Nat) (v : Int64) : aSc := (C.1, a_upl C.2.1 c j v, C.2.2)
def a_ix (i : Int32) (n : Nat) : Prop := 0 ≤ i.toInt ∧ i.toInt < (n : Int)
def a_ln (C : aSc) (c : Nat) : Nat := a_len c (C.2.2 c)
def a_ld (C : aSc) (c : Nat) (i : Int32) : Option Int32 := if 0 ≤ i.toInt ∧ i.toInt < (a_len c (C.2.2 c) : Int) then some (C.1 c i.toNatClampNeg) else none
def a_ldl (C : aSc) (c : Nat) (i : Int32) : Option Int64 := if 0 ≤ i.toInt ∧ i.toInt < (a_len c (C.2.2 c) : Int) then some (C.2.1 c i.toNatClampNeg) else none
def a_st (C : aSc) (c : Nat) (i v : Int32) : Option aSc := if 0 ≤ i.toInt ∧ i.toInt < (a_len c (C.2.2 c) : Int) then some (a_pi C c i.toNatClampNeg v) else none
def a_stl (C : aSc) (c : Nat) (i : Int32) (v : Int64) : Option aSc := if 0 ≤ i.toInt ∧ i.toInt < (a_len c (C.2.2 c) : Int) then some (a_pl C c i.toNatClampNeg v) else none
def a_rf (b k n : Nat) (i : Int32) : Option Nat := if 0 ≤ i.toInt ∧ i.toInt < (n : Int) then some (b + k * i.toNatClampNeg) else none
def a_tb (c : Nat) (i : Int32) : Option Int32 := if 0 ≤ i.toInt ∧ i.toInt < (a_tl c : Int) then some (a_tv c i.toNatClampNeg) else none
def m_gi (M : aMm) (m j : Nat) : Int32 := M m j
def m_pi (M : aMm) (m j : Nat) (v : Int32) : aMm := a_up M m j v
def m_ld (M : aMm) (m : Nat) (i : Int32) : Option Int32 := if 0 ≤ i.toInt ∧ i.toInt < (a_len (94 + m) 0 : Int) then some (M m i.toNatClampNeg) else none
def m_st (M : aMm) (m : Nat) (i v : Int32) : Option aMm := if 0 ≤ i.toInt ∧ i.toInt < (a_len (94 + m) 0 : Int) then some (m_pi M m i.toNatClampNeg v) else none
def a_max (x y : Int32) : Int32 := if x < y then y else x
def a_min (x y : Int32) : Int32 := if y < x then y else x
theorem a_row_pi {C : aSc} {M : aMm} {c j : Nat} {v : Int32} (hc : c < 94) : a_row (a_pi C c j v, M) c = (upd (C.1 c) j v, C.2.1 c, C.2.2 c) := by simp [a_row, hc, a_pi, a_up]
theorem a_row_pi_ne {C : aSc} {M : aMm} {c j q : Nat} {v : Int32} (h : q ≠ c) : a_row (a_pi C c j v, M) q = a_row (C, M) q := by simp [a_row, a_pi, a_up, h]
theorem a_row_pl {C : aSc} {M : aMm} {c j : Nat} {v : Int64} (hc : c < 94) : a_row (a_pl C c j v, M) c = (C.1 c, vp_updL (C.2.1 c) j v, C.2.2 c) := by simp [a_row, hc, a_pl, a_upl]
theorem a_row_pl_ne {C : aSc} {M : aMm} {c j q : Nat} {v : Int64} (h : q ≠ c) : a_row (a_pl C c j v, M) q = a_row (C, M) q := by simp [a_row, a_pl, a_upl, h]
theorem a_row_pm {C : aSc} {M : aMm} {m j : Nat} {v : Int32} : a_row (C, m_pi M m j v) (94 + m) = (upd (M m) j v, fun _ => 0, 0) := by rw [a_rowM]; simp [m_pi, a_up]
theorem a_row_pm_ne {C : aSc} {M : aMm} {m j q : Nat} {v : Int32} (h : q ≠ 94 + m) : a_row (C, m_pi M m j v) q = a_row (C, M) q := by
  by_cases hq : q < 94
  · simp [a_row, hq]
  · have : q - 94 ≠ m := by omega
    simp [a_row, hq, m_pi, a_up, this]
theorem a_lt {c k : Nat} (h : a_kd c = k) (hk : k < 99) : c < 104 := by
  unfold a_kd at h
  by_cases h1 : c < 104
  · exact h1
  · exfalso
    have : ¬ c < 24 ∧ ¬ c < 54 ∧ ¬ c < 62 ∧ ¬ c < 94 ∧ ¬ c = 94 := by omega
    simp [this, h1] at h
    omega
/-- steps of the pure side -/
theorem br_p {α : Type} {c : Prop} [Decidable c] {a b r : α} (hc : c) (h : (if c then a else b) = r) : a = r := by rw [if_pos hc] at h; exact h
theorem br_n {α : Type} {c : Prop} [Decidable c] {a b r : α} (hc : ¬ c) (h : (if c then a else b) = r) : b = r := by rw [if_neg hc] at h; exact h
theorem br_b {α β : Type} {o : Option α} {f : α → Option β} {r : β} (h : o.bind f = some r) : ∃ x, o = some x ∧ f x = some r := by
  cases o with
  | none => cases h
  | some x => exact ⟨x, rfl, h⟩
theorem br_s {α β : Type} {o : α} {f : α → Option β} {r : β} (h : (some o).bind f = some r) : ∃ x, o = x ∧ f x = some r := ⟨o, rfl, h⟩
theorem br_g {α : Type} {c : Prop} [Decidable c] {a : Option α} {r : α} (h : (if c then a else none) = some r) : c ∧ a = some r := by
  by_cases hc : c
  · rw [if_pos hc] at h; exact ⟨hc, h⟩
  · rw [if_neg hc] at h; cases h
theorem br_l {α β γ : Type} {f : α → γ} {g : β → γ} {a : α} {r : γ} (h : Sum.elim f g (.inl a) = r) : f a = r := h
theorem br_r {α β γ : Type} {f : α → γ} {g : β → γ} {a : β} {r : γ} (h : Sum.elim f g (.inr a) = r) : g a = r := h
/-- a loop: a body that goes on with .inl or ends with .inr -/
def lpf {α β : Type} (body : α → Option (α ⊕ β)) : Nat → α → Option β
  | 0, _ => none
  | n + 1, a => (body a).bind (Sum.elim (lpf body n) some)
theorem lpf_s {α β : Type} {body : α → Option (α ⊕ β)} {n : Nat} {a : α} {b : β} (h : lpf body (n + 1) a = some b) : (∃ a', body a = some (.inl a') ∧ lpf body n a' = some b) ∨ body a = some (.inr b) := by
  obtain ⟨x, h1, h2⟩ := br_b (show (body a).bind (Sum.elim (lpf body n) some) = some b from h)
  cases x with
  | inl a' => exact Or.inl ⟨a', h1, h2⟩
  | inr b' =>
    have : some b' = some b := h2
    cases this
    exact Or.inr h1
def FU : Nat := 100000

theorem J_iconst {mi : aMi} {res : aRes} {ck sk pc : Nat} {L : List (Nat × Value)} {st : List Value} {S : aSt} {n : Int} (v : Int32) (d : decode mi.1 pc = .ok (.iconst n, 1)) (hv : Int32.ofInt n = v) (K : J mi res ck sk (pc + 1) L (.int v :: st) S) : J mi res ck sk pc L (st) S := by
  intro p l e s m args below meth c D kA ad A H locs ls ad0 X ha1 ha2 hl hP hD hS
  exact lv_iconst X.1 X.2.1 d hv (K p l e s m args below meth c D kA ad A H locs ls ad0 X ha1 ha2 hl hP hD hS)

theorem J_bipush {mi : aMi} {res : aRes} {ck sk pc : Nat} {L : List (Nat × Value)} {st : List Value} {S : aSt} {n : Int} (v : Int32) (d : decode mi.1 pc = .ok (.bipush n, 2)) (hv : (Int8.ofInt n).toInt32 = v) (K : J mi res ck sk (pc + 2) L (.int v :: st) S) : J mi res ck sk pc L (st) S := by
  intro p l e s m args below meth c D kA ad A H locs ls ad0 X ha1 ha2 hl hP hD hS
  exact lv_bipush X.1 X.2.1 d hv (K p l e s m args below meth c D kA ad A H locs ls ad0 X ha1 ha2 hl hP hD hS)

theorem J_sipush {mi : aMi} {res : aRes} {ck sk pc : Nat} {L : List (Nat × Value)} {st : List Value} {S : aSt} {n : Int} (v : Int32) (d : decode mi.1 pc = .ok (.sipush n, 3)) (hv : (Int16.ofInt n).toInt32 = v) (K : J mi res ck sk (pc + 3) L (.int v :: st) S) : J mi res ck sk pc L (st) S := by
  intro p l e s m args below meth c D kA ad A H locs ls ad0 X ha1 ha2 hl hP hD hS
  exact lv_sipush X.1 X.2.1 d hv (K p l e s m args below meth c D kA ad A H locs ls ad0 X ha1 ha2 hl hP hD hS)

theorem J_lconst {mi : aMi} {res : aRes} {ck sk pc : Nat} {L : List (Nat × Value)} {st : List Value} {S : aSt} {n : Fin 2} (v : Int64) (d : decode mi.1 pc = .ok (.lconst n, 1)) (hv : Int64.ofNat (n : Nat) = v) (K : J mi res ck sk (pc + 1) L (.long v :: st) S) : J mi res ck sk pc L (st) S := by
  intro p l e s m args below meth c D kA ad A H locs ls ad0 X ha1 ha2 hl hP hD hS
  exact lv_lconst X.1 X.2.1 d hv (K p l e s m args below meth c D kA ad A H locs ls ad0 X ha1 ha2 hl hP hD hS)

theorem J_ldc {mi : aMi} {res : aRes} {ck sk pc : Nat} {L : List (Nat × Value)} {st : List Value} {S : aSt} {index : Nat} (v : Int32) (d : decode mi.1 pc = .ok (.ldc index, 2)) (hw : Cond.constant mi.2.2.1 index v ∈ a_tbl) (K : J mi res ck sk (pc + 2) L (.int v :: st) S) : J mi res ck sk pc L (st) S := by
  intro p l e s m args below meth c D kA ad A H locs ls ad0 X ha1 ha2 hl hP hD hS
  exact lv_ldc X.1 X.2.1 X.2.2.2.1 (X.2.2.2.2.1 _ hw) d (K p l e s m args below meth c D kA ad A H locs ls ad0 X ha1 ha2 hl hP hD hS)

theorem J_ldcw {mi : aMi} {res : aRes} {ck sk pc : Nat} {L : List (Nat × Value)} {st : List Value} {S : aSt} {index : Nat} (v : Int32) (d : decode mi.1 pc = .ok (.ldc_w index, 3)) (hw : Cond.constant mi.2.2.1 index v ∈ a_tbl) (K : J mi res ck sk (pc + 3) L (.int v :: st) S) : J mi res ck sk pc L (st) S := by
  intro p l e s m args below meth c D kA ad A H locs ls ad0 X ha1 ha2 hl hP hD hS
  exact lv_ldcw X.1 X.2.1 X.2.2.2.1 (X.2.2.2.2.1 _ hw) d (K p l e s m args below meth c D kA ad A H locs ls ad0 X ha1 ha2 hl hP hD hS)

theorem J_ldc2 {mi : aMi} {res : aRes} {ck sk pc : Nat} {L : List (Nat × Value)} {st : List Value} {S : aSt} {index : Nat} (v : Int64) (d : decode mi.1 pc = .ok (.ldc2_w index, 3)) (hw : Cond.constantLong mi.2.2.1 index v ∈ a_tbl) (K : J mi res ck sk (pc + 3) L (.long v :: st) S) : J mi res ck sk pc L (st) S := by
  intro p l e s m args below meth c D kA ad A H locs ls ad0 X ha1 ha2 hl hP hD hS
  exact lv_ldc2 X.1 X.2.1 X.2.2.2.1 (X.2.2.2.2.1 _ hw) d (K p l e s m args below meth c D kA ad A H locs ls ad0 X ha1 ha2 hl hP hD hS)

theorem J_null {mi : aMi} {res : aRes} {ck sk pc : Nat} {L : List (Nat × Value)} {st : List Value} {S : aSt} (d : decode mi.1 pc = .ok (.aconst_null, 1)) (K : J mi res ck sk (pc + 1) L (.null :: st) S) : J mi res ck sk pc L (st) S := by
  intro p l e s m args below meth c D kA ad A H locs ls ad0 X ha1 ha2 hl hP hD hS
  exact lv_null X.1 X.2.1 d (K p l e s m args below meth c D kA ad A H locs ls ad0 X ha1 ha2 hl hP hD hS)

theorem J_iload_n {mi : aMi} {res : aRes} {ck sk pc : Nat} {L : List (Nat × Value)} {st : List Value} {S : aSt} {k : Fin 4} {i : Nat} {x : Int32} (d : decode mi.1 pc = .ok (.iload_n k, 1)) (hi : (k : Nat) = i) (j : Nat) (hL : L[j]? = some (i, .int x)) (K : J mi res ck sk (pc + 1) L (.int x :: st) S) : J mi res ck sk pc L (st) S := by
  intro p l e s m args below meth c D kA ad A H locs ls ad0 X ha1 ha2 hl hP hD hS
  exact lv_iload_n X.1 X.2.1 d hi (a_lc_at hl hL) (K p l e s m args below meth c D kA ad A H locs ls ad0 X ha1 ha2 hl hP hD hS)

theorem J_iload {mi : aMi} {res : aRes} {ck sk pc : Nat} {L : List (Nat × Value)} {st : List Value} {S : aSt} {i : Nat} {x : Int32} (d : decode mi.1 pc = .ok (.iload i, 2)) (j : Nat) (hL : L[j]? = some (i, .int x)) (K : J mi res ck sk (pc + 2) L (.int x :: st) S) : J mi res ck sk pc L (st) S := by
  intro p l e s m args below meth c D kA ad A H locs ls ad0 X ha1 ha2 hl hP hD hS
  exact lv_iload X.1 X.2.1 d (a_lc_at hl hL) (K p l e s m args below meth c D kA ad A H locs ls ad0 X ha1 ha2 hl hP hD hS)

theorem J_istore_n {mi : aMi} {res : aRes} {ck sk pc : Nat} {L : List (Nat × Value)} {st : List Value} {S : aSt} {k : Fin 4} {i : Nat} {x : Int32} {L' : List (Nat × Value)} (d : decode mi.1 pc = .ok (.istore_n k, 1)) (hi : (k : Nat) = i) (hn : i < mi.2.1) (hL : (i, Value.int x) :: a_f1 i L = L') (K : J mi res ck sk (pc + 1) L' (st) S) : J mi res ck sk pc L (.int x :: st) S := by
  intro p l e s m args below meth c D kA ad A H locs ls ad0 X ha1 ha2 hl hP hD hS
  exact lv_istore_n (lv' := a_lc ad L') X.1 X.2.1 d hi hl hn (by rw [a_lc_f1, ← hL]; rfl) (fun ls hl => K p l e s m args below meth c D kA ad A H locs ls ad0 X ha1 ha2 hl hP hD hS)

theorem J_istore {mi : aMi} {res : aRes} {ck sk pc : Nat} {L : List (Nat × Value)} {st : List Value} {S : aSt} {i : Nat} {x : Int32} {L' : List (Nat × Value)} (d : decode mi.1 pc = .ok (.istore i, 2)) (hn : i < mi.2.1) (hL : (i, Value.int x) :: a_f1 i L = L') (K : J mi res ck sk (pc + 2) L' (st) S) : J mi res ck sk pc L (.int x :: st) S := by
  intro p l e s m args below meth c D kA ad A H locs ls ad0 X ha1 ha2 hl hP hD hS
  exact lv_istore (lv' := a_lc ad L') X.1 X.2.1 d hl hn (by rw [a_lc_f1, ← hL]; rfl) (fun ls hl => K p l e s m args below meth c D kA ad A H locs ls ad0 X ha1 ha2 hl hP hD hS)

theorem J_lload_n {mi : aMi} {res : aRes} {ck sk pc : Nat} {L : List (Nat × Value)} {st : List Value} {S : aSt} {k : Fin 4} {i : Nat} {x : Int64} (d : decode mi.1 pc = .ok (.lload_n k, 1)) (hi : (k : Nat) = i) (j : Nat) (hL : L[j]? = some (i, .long x)) (K : J mi res ck sk (pc + 1) L (.long x :: st) S) : J mi res ck sk pc L (st) S := by
  intro p l e s m args below meth c D kA ad A H locs ls ad0 X ha1 ha2 hl hP hD hS
  exact lv_lload_n X.1 X.2.1 d hi (a_lc_at hl hL) (K p l e s m args below meth c D kA ad A H locs ls ad0 X ha1 ha2 hl hP hD hS)

theorem J_lload {mi : aMi} {res : aRes} {ck sk pc : Nat} {L : List (Nat × Value)} {st : List Value} {S : aSt} {i : Nat} {x : Int64} (d : decode mi.1 pc = .ok (.lload i, 2)) (j : Nat) (hL : L[j]? = some (i, .long x)) (K : J mi res ck sk (pc + 2) L (.long x :: st) S) : J mi res ck sk pc L (st) S := by
  intro p l e s m args below meth c D kA ad A H locs ls ad0 X ha1 ha2 hl hP hD hS
  exact lv_lload X.1 X.2.1 d (a_lc_at hl hL) (K p l e s m args below meth c D kA ad A H locs ls ad0 X ha1 ha2 hl hP hD hS)

theorem J_lstore_n {mi : aMi} {res : aRes} {ck sk pc : Nat} {L : List (Nat × Value)} {st : List Value} {S : aSt} {k : Fin 4} {i : Nat} {x : Int64} {L' : List (Nat × Value)} (d : decode mi.1 pc = .ok (.lstore_n k, 1)) (hi : (k : Nat) = i) (hn : i + 1 < mi.2.1) (hL : (i, Value.long x) :: a_f2 i L = L') (K : J mi res ck sk (pc + 1) L' (st) S) : J mi res ck sk pc L (.long x :: st) S := by
  intro p l e s m args below meth c D kA ad A H locs ls ad0 X ha1 ha2 hl hP hD hS
  exact lv_lstore_n (lv' := a_lc ad L') X.1 X.2.1 d hi hl hn (by rw [a_lc_f2, ← hL]; rfl) (fun ls hl => K p l e s m args below meth c D kA ad A H locs ls ad0 X ha1 ha2 hl hP hD hS)

theorem J_lstore {mi : aMi} {res : aRes} {ck sk pc : Nat} {L : List (Nat × Value)} {st : List Value} {S : aSt} {i : Nat} {x : Int64} {L' : List (Nat × Value)} (d : decode mi.1 pc = .ok (.lstore i, 2)) (hn : i + 1 < mi.2.1) (hL : (i, Value.long x) :: a_f2 i L = L') (K : J mi res ck sk (pc + 2) L' (st) S) : J mi res ck sk pc L (.long x :: st) S := by
  intro p l e s m args below meth c D kA ad A H locs ls ad0 X ha1 ha2 hl hP hD hS
  exact lv_lstore (lv' := a_lc ad L') X.1 X.2.1 d hl hn (by rw [a_lc_f2, ← hL]; rfl) (fun ls hl => K p l e s m args below meth c D kA ad A H locs ls ad0 X ha1 ha2 hl hP hD hS)

theorem J_aload_n {mi : aMi} {res : aRes} {ck sk pc : Nat} {L : List (Nat × Value)} {st : List Value} {S : aSt} {k : Fin 4} {i : Nat} {x : Nat} (d : decode mi.1 pc = .ok (.aload_n k, 1)) (hi : (k : Nat) = i) (j : Nat) (hL : L[j]? = some (i, .ref x)) (K : J mi res ck sk (pc + 1) L (.ref x :: st) S) : J mi res ck sk pc L (st) S := by
  intro p l e s m args below meth c D kA ad A H locs ls ad0 X ha1 ha2 hl hP hD hS
  exact lv_aload_n X.1 X.2.1 d hi (a_lc_at hl hL) (K p l e s m args below meth c D kA ad A H locs ls ad0 X ha1 ha2 hl hP hD hS)

theorem J_aload {mi : aMi} {res : aRes} {ck sk pc : Nat} {L : List (Nat × Value)} {st : List Value} {S : aSt} {i : Nat} {x : Nat} (d : decode mi.1 pc = .ok (.aload i, 2)) (j : Nat) (hL : L[j]? = some (i, .ref x)) (K : J mi res ck sk (pc + 2) L (.ref x :: st) S) : J mi res ck sk pc L (st) S := by
  intro p l e s m args below meth c D kA ad A H locs ls ad0 X ha1 ha2 hl hP hD hS
  exact lv_aload X.1 X.2.1 d (a_lc_at hl hL) (K p l e s m args below meth c D kA ad A H locs ls ad0 X ha1 ha2 hl hP hD hS)

theorem J_astore_n {mi : aMi} {res : aRes} {ck sk pc : Nat} {L : List (Nat × Value)} {st : List Value} {S : aSt} {k : Fin 4} {i : Nat} {x : Nat} {L' : List (Nat × Value)} (d : decode mi.1 pc = .ok (.astore_n k, 1)) (hi : (k : Nat) = i) (hn : i < mi.2.1) (hL : (i, Value.ref x) :: a_f1 i L = L') (K : J mi res ck sk (pc + 1) L' (st) S) : J mi res ck sk pc L (.ref x :: st) S := by
  intro p l e s m args below meth c D kA ad A H locs ls ad0 X ha1 ha2 hl hP hD hS
  exact lv_astore_n (lv' := a_lc ad L') X.1 X.2.1 d hi hl hn (by rw [a_lc_f1, ← hL]; rfl) (fun ls hl => K p l e s m args below meth c D kA ad A H locs ls ad0 X ha1 ha2 hl hP hD hS)

theorem J_astore {mi : aMi} {res : aRes} {ck sk pc : Nat} {L : List (Nat × Value)} {st : List Value} {S : aSt} {i : Nat} {x : Nat} {L' : List (Nat × Value)} (d : decode mi.1 pc = .ok (.astore i, 2)) (hn : i < mi.2.1) (hL : (i, Value.ref x) :: a_f1 i L = L') (K : J mi res ck sk (pc + 2) L' (st) S) : J mi res ck sk pc L (.ref x :: st) S := by
  intro p l e s m args below meth c D kA ad A H locs ls ad0 X ha1 ha2 hl hP hD hS
  exact lv_astore (lv' := a_lc ad L') X.1 X.2.1 d hl hn (by rw [a_lc_f1, ← hL]; rfl) (fun ls hl => K p l e s m args below meth c D kA ad A H locs ls ad0 X ha1 ha2 hl hP hD hS)

theorem J_astoreN_n {mi : aMi} {res : aRes} {ck sk pc : Nat} {L : List (Nat × Value)} {st : List Value} {S : aSt} {k : Fin 4} {i : Nat} {L' : List (Nat × Value)} (d : decode mi.1 pc = .ok (.astore_n k, 1)) (hi : (k : Nat) = i) (hn : i < mi.2.1) (hL : (i, Value.null) :: a_f1 i L = L') (K : J mi res ck sk (pc + 1) L' (st) S) : J mi res ck sk pc L (.null :: st) S := by
  intro p l e s m args below meth c D kA ad A H locs ls ad0 X ha1 ha2 hl hP hD hS
  exact lv_astore_nN (lv' := a_lc ad L') X.1 X.2.1 d hi hl hn (by rw [a_lc_f1, ← hL]; rfl) (fun ls hl => K p l e s m args below meth c D kA ad A H locs ls ad0 X ha1 ha2 hl hP hD hS)

theorem J_aloadN_n {mi : aMi} {res : aRes} {ck sk pc : Nat} {L : List (Nat × Value)} {st : List Value} {S : aSt} {k : Fin 4} {i : Nat} (d : decode mi.1 pc = .ok (.aload_n k, 1)) (hi : (k : Nat) = i) (j : Nat) (hL : L[j]? = some (i, .null)) (K : J mi res ck sk (pc + 1) L (.null :: st) S) : J mi res ck sk pc L (st) S := by
  intro p l e s m args below meth c D kA ad A H locs ls ad0 X ha1 ha2 hl hP hD hS
  exact lv_aload_nN X.1 X.2.1 d hi (a_lc_at hl hL) (K p l e s m args below meth c D kA ad A H locs ls ad0 X ha1 ha2 hl hP hD hS)

theorem J_iinc {mi : aMi} {res : aRes} {ck sk pc : Nat} {L : List (Nat × Value)} {st : List Value} {S : aSt} {i j : Nat} {n : Int} {x v : Int32} {L' : List (Nat × Value)} (d : decode mi.1 pc = .ok (.iinc i n, 3)) (hj : L[j]? = some (i, .int x)) (hv : x + Int32.ofInt n = v) (hn : i < mi.2.1) (hL : (i, Value.int v) :: a_f1 i L = L') (K : J mi res ck sk (pc + 3) L' (st) S) : J mi res ck sk pc L (st) S := by
  intro p l e s m args below meth c D kA ad A H locs ls ad0 X ha1 ha2 hl hP hD hS
  exact lv_iinc (lv' := a_lc ad L') (k := j) X.1 X.2.1 d hl (by simp [a_lc, List.getElem?_map, hj, a_cv]) hv hn (by rw [a_lc_f1, ← hL]; rfl) (fun ls hl => K p l e s m args below meth c D kA ad A H locs ls ad0 X ha1 ha2 hl hP hD hS)

theorem J_iadd {mi : aMi} {res : aRes} {ck sk pc : Nat} {L : List (Nat × Value)} {st : List Value} {S : aSt} {x y : Int32} (d : decode mi.1 pc = .ok (.iadd, 1)) (K : J mi res ck sk (pc + 1) L (.int (x + y) :: st) S) : J mi res ck sk pc L (.int y :: .int x :: st) S := by
  intro p l e s m args below meth c D kA ad A H locs ls ad0 X ha1 ha2 hl hP hD hS
  exact lv_iadd X.1 X.2.1 d (K p l e s m args below meth c D kA ad A H locs ls ad0 X ha1 ha2 hl hP hD hS)

theorem J_isub {mi : aMi} {res : aRes} {ck sk pc : Nat} {L : List (Nat × Value)} {st : List Value} {S : aSt} {x y : Int32} (d : decode mi.1 pc = .ok (.isub, 1)) (K : J mi res ck sk (pc + 1) L (.int (x - y) :: st) S) : J mi res ck sk pc L (.int y :: .int x :: st) S := by
  intro p l e s m args below meth c D kA ad A H locs ls ad0 X ha1 ha2 hl hP hD hS
  exact lv_isub X.1 X.2.1 d (K p l e s m args below meth c D kA ad A H locs ls ad0 X ha1 ha2 hl hP hD hS)

theorem J_imul {mi : aMi} {res : aRes} {ck sk pc : Nat} {L : List (Nat × Value)} {st : List Value} {S : aSt} {x y : Int32} (d : decode mi.1 pc = .ok (.imul, 1)) (K : J mi res ck sk (pc + 1) L (.int (x * y) :: st) S) : J mi res ck sk pc L (.int y :: .int x :: st) S := by
  intro p l e s m args below meth c D kA ad A H locs ls ad0 X ha1 ha2 hl hP hD hS
  exact lv_imul X.1 X.2.1 d (K p l e s m args below meth c D kA ad A H locs ls ad0 X ha1 ha2 hl hP hD hS)

theorem J_iand {mi : aMi} {res : aRes} {ck sk pc : Nat} {L : List (Nat × Value)} {st : List Value} {S : aSt} {x y : Int32} (d : decode mi.1 pc = .ok (.iand, 1)) (K : J mi res ck sk (pc + 1) L (.int (x &&& y) :: st) S) : J mi res ck sk pc L (.int y :: .int x :: st) S := by
  intro p l e s m args below meth c D kA ad A H locs ls ad0 X ha1 ha2 hl hP hD hS
  exact lv_iand X.1 X.2.1 d (K p l e s m args below meth c D kA ad A H locs ls ad0 X ha1 ha2 hl hP hD hS)

theorem J_ior {mi : aMi} {res : aRes} {ck sk pc : Nat} {L : List (Nat × Value)} {st : List Value} {S : aSt} {x y : Int32} (d : decode mi.1 pc = .ok (.ior, 1)) (K : J mi res ck sk (pc + 1) L (.int (x ||| y) :: st) S) : J mi res ck sk pc L (.int y :: .int x :: st) S := by
  intro p l e s m args below meth c D kA ad A H locs ls ad0 X ha1 ha2 hl hP hD hS
  exact lv_ior X.1 X.2.1 d (K p l e s m args below meth c D kA ad A H locs ls ad0 X ha1 ha2 hl hP hD hS)

theorem J_ixor {mi : aMi} {res : aRes} {ck sk pc : Nat} {L : List (Nat × Value)} {st : List Value} {S : aSt} {x y : Int32} (d : decode mi.1 pc = .ok (.ixor, 1)) (K : J mi res ck sk (pc + 1) L (.int (x ^^^ y) :: st) S) : J mi res ck sk pc L (.int y :: .int x :: st) S := by
  intro p l e s m args below meth c D kA ad A H locs ls ad0 X ha1 ha2 hl hP hD hS
  exact lv_ixor X.1 X.2.1 d (K p l e s m args below meth c D kA ad A H locs ls ad0 X ha1 ha2 hl hP hD hS)

theorem J_ishl {mi : aMi} {res : aRes} {ck sk pc : Nat} {L : List (Nat × Value)} {st : List Value} {S : aSt} {x y : Int32} (d : decode mi.1 pc = .ok (.ishl, 1)) (K : J mi res ck sk (pc + 1) L (.int (x <<< (y &&& 31)) :: st) S) : J mi res ck sk pc L (.int y :: .int x :: st) S := by
  intro p l e s m args below meth c D kA ad A H locs ls ad0 X ha1 ha2 hl hP hD hS
  exact lv_ishl X.1 X.2.1 d (K p l e s m args below meth c D kA ad A H locs ls ad0 X ha1 ha2 hl hP hD hS)

theorem J_ishr {mi : aMi} {res : aRes} {ck sk pc : Nat} {L : List (Nat × Value)} {st : List Value} {S : aSt} {x y : Int32} (d : decode mi.1 pc = .ok (.ishr, 1)) (K : J mi res ck sk (pc + 1) L (.int (x >>> (y &&& 31)) :: st) S) : J mi res ck sk pc L (.int y :: .int x :: st) S := by
  intro p l e s m args below meth c D kA ad A H locs ls ad0 X ha1 ha2 hl hP hD hS
  exact lv_ishr X.1 X.2.1 d (K p l e s m args below meth c D kA ad A H locs ls ad0 X ha1 ha2 hl hP hD hS)

theorem J_idiv {mi : aMi} {res : aRes} {ck sk pc : Nat} {L : List (Nat × Value)} {st : List Value} {S : aSt} {x y : Int32} (d : decode mi.1 pc = .ok (.idiv, 1)) (hne : ¬ y = 0) (K : J mi res ck sk (pc + 1) L (.int (x / y) :: st) S) : J mi res ck sk pc L (.int y :: .int x :: st) S := by
  intro p l e s m args below meth c D kA ad A H locs ls ad0 X ha1 ha2 hl hP hD hS
  exact lv_idiv X.1 X.2.1 d hne (K p l e s m args below meth c D kA ad A H locs ls ad0 X ha1 ha2 hl hP hD hS)

theorem J_irem {mi : aMi} {res : aRes} {ck sk pc : Nat} {L : List (Nat × Value)} {st : List Value} {S : aSt} {x y : Int32} (d : decode mi.1 pc = .ok (.irem, 1)) (hne : ¬ y = 0) (K : J mi res ck sk (pc + 1) L (.int (x - x / y * y) :: st) S) : J mi res ck sk pc L (.int y :: .int x :: st) S := by
  intro p l e s m args below meth c D kA ad A H locs ls ad0 X ha1 ha2 hl hP hD hS
  exact lv_irem X.1 X.2.1 d hne (K p l e s m args below meth c D kA ad A H locs ls ad0 X ha1 ha2 hl hP hD hS)

theorem J_ineg {mi : aMi} {res : aRes} {ck sk pc : Nat} {L : List (Nat × Value)} {st : List Value} {S : aSt} {x : Int32} (d : decode mi.1 pc = .ok (.ineg, 1)) (K : J mi res ck sk (pc + 1) L (.int (-x) :: st) S) : J mi res ck sk pc L (.int x :: st) S := by
  intro p l e s m args below meth c D kA ad A H locs ls ad0 X ha1 ha2 hl hP hD hS
  exact lv_ineg X.1 X.2.1 d (K p l e s m args below meth c D kA ad A H locs ls ad0 X ha1 ha2 hl hP hD hS)

theorem J_iushr {mi : aMi} {res : aRes} {ck sk pc : Nat} {L : List (Nat × Value)} {st : List Value} {S : aSt} {x y : Int32} (d : decode mi.1 pc = .ok (.iushr, 1)) (K : J mi res ck sk (pc + 1) L (.int (x.toUInt32 >>> (y.toUInt32 &&& Int32.toUInt32 31)).toInt32 :: st) S) : J mi res ck sk pc L (.int y :: .int x :: st) S := by
  intro p l e s m args below meth c D kA ad A H locs ls ad0 X ha1 ha2 hl hP hD hS
  exact lv_iushr X.1 X.2.1 d rfl (K p l e s m args below meth c D kA ad A H locs ls ad0 X ha1 ha2 hl hP hD hS)

theorem J_ladd {mi : aMi} {res : aRes} {ck sk pc : Nat} {L : List (Nat × Value)} {st : List Value} {S : aSt} {x y : Int64} (d : decode mi.1 pc = .ok (.ladd, 1)) (K : J mi res ck sk (pc + 1) L (.long (x + y) :: st) S) : J mi res ck sk pc L (.long y :: .long x :: st) S := by
  intro p l e s m args below meth c D kA ad A H locs ls ad0 X ha1 ha2 hl hP hD hS
  exact lv_ladd X.1 X.2.1 d (K p l e s m args below meth c D kA ad A H locs ls ad0 X ha1 ha2 hl hP hD hS)

theorem J_lsub {mi : aMi} {res : aRes} {ck sk pc : Nat} {L : List (Nat × Value)} {st : List Value} {S : aSt} {x y : Int64} (d : decode mi.1 pc = .ok (.lsub, 1)) (K : J mi res ck sk (pc + 1) L (.long (x - y) :: st) S) : J mi res ck sk pc L (.long y :: .long x :: st) S := by
  intro p l e s m args below meth c D kA ad A H locs ls ad0 X ha1 ha2 hl hP hD hS
  exact lv_lsub X.1 X.2.1 d (K p l e s m args below meth c D kA ad A H locs ls ad0 X ha1 ha2 hl hP hD hS)

theorem J_land {mi : aMi} {res : aRes} {ck sk pc : Nat} {L : List (Nat × Value)} {st : List Value} {S : aSt} {x y : Int64} (d : decode mi.1 pc = .ok (.land, 1)) (K : J mi res ck sk (pc + 1) L (.long (x &&& y) :: st) S) : J mi res ck sk pc L (.long y :: .long x :: st) S := by
  intro p l e s m args below meth c D kA ad A H locs ls ad0 X ha1 ha2 hl hP hD hS
  exact lv_land X.1 X.2.1 d (K p l e s m args below meth c D kA ad A H locs ls ad0 X ha1 ha2 hl hP hD hS)

theorem J_lor {mi : aMi} {res : aRes} {ck sk pc : Nat} {L : List (Nat × Value)} {st : List Value} {S : aSt} {x y : Int64} (d : decode mi.1 pc = .ok (.lor, 1)) (K : J mi res ck sk (pc + 1) L (.long (x ||| y) :: st) S) : J mi res ck sk pc L (.long y :: .long x :: st) S := by
  intro p l e s m args below meth c D kA ad A H locs ls ad0 X ha1 ha2 hl hP hD hS
  exact lv_lor X.1 X.2.1 d (K p l e s m args below meth c D kA ad A H locs ls ad0 X ha1 ha2 hl hP hD hS)

theorem J_lxor {mi : aMi} {res : aRes} {ck sk pc : Nat} {L : List (Nat × Value)} {st : List Value} {S : aSt} {x y : Int64} (d : decode mi.1 pc = .ok (.lxor, 1)) (K : J mi res ck sk (pc + 1) L (.long (x ^^^ y) :: st) S) : J mi res ck sk pc L (.long y :: .long x :: st) S := by
  intro p l e s m args below meth c D kA ad A H locs ls ad0 X ha1 ha2 hl hP hD hS
  exact lv_lxor X.1 X.2.1 d (K p l e s m args below meth c D kA ad A H locs ls ad0 X ha1 ha2 hl hP hD hS)

theorem J_lneg {mi : aMi} {res : aRes} {ck sk pc : Nat} {L : List (Nat × Value)} {st : List Value} {S : aSt} {x : Int64} (d : decode mi.1 pc = .ok (.lneg, 1)) (K : J mi res ck sk (pc + 1) L (.long (-x) :: st) S) : J mi res ck sk pc L (.long x :: st) S := by
  intro p l e s m args below meth c D kA ad A H locs ls ad0 X ha1 ha2 hl hP hD hS
  exact lv_lneg X.1 X.2.1 d (K p l e s m args below meth c D kA ad A H locs ls ad0 X ha1 ha2 hl hP hD hS)

theorem J_lushr {mi : aMi} {res : aRes} {ck sk pc : Nat} {L : List (Nat × Value)} {st : List Value} {S : aSt} {x : Int64} {y : Int32} (d : decode mi.1 pc = .ok (.lushr, 1)) (K : J mi res ck sk (pc + 1) L (.long (x.toUInt64 >>> (y.toInt64.toUInt64 &&& Int64.toUInt64 63)).toInt64 :: st) S) : J mi res ck sk pc L (.int y :: .long x :: st) S := by
  intro p l e s m args below meth c D kA ad A H locs ls ad0 X ha1 ha2 hl hP hD hS
  exact lv_lushr X.1 X.2.1 d rfl (K p l e s m args below meth c D kA ad A H locs ls ad0 X ha1 ha2 hl hP hD hS)

theorem J_lshl {mi : aMi} {res : aRes} {ck sk pc : Nat} {L : List (Nat × Value)} {st : List Value} {S : aSt} {x : Int64} {y : Int32} (d : decode mi.1 pc = .ok (.lshl, 1)) (K : J mi res ck sk (pc + 1) L (.long (x <<< (y.toInt64 &&& 63)) :: st) S) : J mi res ck sk pc L (.int y :: .long x :: st) S := by
  intro p l e s m args below meth c D kA ad A H locs ls ad0 X ha1 ha2 hl hP hD hS
  exact lv_lshl X.1 X.2.1 d rfl (K p l e s m args below meth c D kA ad A H locs ls ad0 X ha1 ha2 hl hP hD hS)

theorem J_lshr {mi : aMi} {res : aRes} {ck sk pc : Nat} {L : List (Nat × Value)} {st : List Value} {S : aSt} {x : Int64} {y : Int32} (d : decode mi.1 pc = .ok (.lshr, 1)) (K : J mi res ck sk (pc + 1) L (.long (x >>> (y.toInt64 &&& 63)) :: st) S) : J mi res ck sk pc L (.int y :: .long x :: st) S := by
  intro p l e s m args below meth c D kA ad A H locs ls ad0 X ha1 ha2 hl hP hD hS
  exact lv_lshr X.1 X.2.1 d rfl (K p l e s m args below meth c D kA ad A H locs ls ad0 X ha1 ha2 hl hP hD hS)

theorem J_lcmp {mi : aMi} {res : aRes} {ck sk pc : Nat} {L : List (Nat × Value)} {st : List Value} {S : aSt} {x y : Int64} (d : decode mi.1 pc = .ok (.lcmp, 1)) (K : J mi res ck sk (pc + 1) L (.int (lg_cmp x y) :: st) S) : J mi res ck sk pc L (.long y :: .long x :: st) S := by
  intro p l e s m args below meth c D kA ad A H locs ls ad0 X ha1 ha2 hl hP hD hS
  exact W.lcmp X.1 X.2.1 d (K p l e s m args below meth c D kA ad A H locs ls ad0 X ha1 ha2 hl hP hD hS)

theorem J_i2l {mi : aMi} {res : aRes} {ck sk pc : Nat} {L : List (Nat × Value)} {st : List Value} {S : aSt} {x : Int32} (d : decode mi.1 pc = .ok (.i2l, 1)) (K : J mi res ck sk (pc + 1) L (.long x.toInt64 :: st) S) : J mi res ck sk pc L (.int x :: st) S := by
  intro p l e s m args below meth c D kA ad A H locs ls ad0 X ha1 ha2 hl hP hD hS
  exact lv_i2l X.1 X.2.1 d rfl (K p l e s m args below meth c D kA ad A H locs ls ad0 X ha1 ha2 hl hP hD hS)

theorem J_l2i {mi : aMi} {res : aRes} {ck sk pc : Nat} {L : List (Nat × Value)} {st : List Value} {S : aSt} {x : Int64} (d : decode mi.1 pc = .ok (.l2i, 1)) (K : J mi res ck sk (pc + 1) L (.int x.toInt32 :: st) S) : J mi res ck sk pc L (.long x :: st) S := by
  intro p l e s m args below meth c D kA ad A H locs ls ad0 X ha1 ha2 hl hP hD hS
  exact lv_l2i X.1 X.2.1 d rfl (K p l e s m args below meth c D kA ad A H locs ls ad0 X ha1 ha2 hl hP hD hS)

theorem J_i2b {mi : aMi} {res : aRes} {ck sk pc : Nat} {L : List (Nat × Value)} {st : List Value} {S : aSt} {x : Int32} (d : decode mi.1 pc = .ok (.i2b, 1)) (K : J mi res ck sk (pc + 1) L (.int x.toInt8.toInt32 :: st) S) : J mi res ck sk pc L (.int x :: st) S := by
  intro p l e s m args below meth c D kA ad A H locs ls ad0 X ha1 ha2 hl hP hD hS
  exact lv_i2b X.1 X.2.1 d rfl (K p l e s m args below meth c D kA ad A H locs ls ad0 X ha1 ha2 hl hP hD hS)

theorem J_i2s {mi : aMi} {res : aRes} {ck sk pc : Nat} {L : List (Nat × Value)} {st : List Value} {S : aSt} {x : Int32} (d : decode mi.1 pc = .ok (.i2s, 1)) (K : J mi res ck sk (pc + 1) L (.int x.toInt16.toInt32 :: st) S) : J mi res ck sk pc L (.int x :: st) S := by
  intro p l e s m args below meth c D kA ad A H locs ls ad0 X ha1 ha2 hl hP hD hS
  exact lv_i2s X.1 X.2.1 d rfl (K p l e s m args below meth c D kA ad A H locs ls ad0 X ha1 ha2 hl hP hD hS)

theorem J_dup {mi : aMi} {res : aRes} {ck sk pc : Nat} {L : List (Nat × Value)} {st : List Value} {S : aSt} {v : Value} (d : decode mi.1 pc = .ok (.dup, 1)) (hv : v.category = 1) (K : J mi res ck sk (pc + 1) L (v :: v :: st) S) : J mi res ck sk pc L (v :: st) S := by
  intro p l e s m args below meth c D kA ad A H locs ls ad0 X ha1 ha2 hl hP hD hS
  exact lv_dup X.1 X.2.1 d ((a_cv_cat ad v).trans hv) (K p l e s m args below meth c D kA ad A H locs ls ad0 X ha1 ha2 hl hP hD hS)

theorem J_pop {mi : aMi} {res : aRes} {ck sk pc : Nat} {L : List (Nat × Value)} {st : List Value} {S : aSt} {v : Value} (d : decode mi.1 pc = .ok (.pop, 1)) (hv : v.category = 1) (K : J mi res ck sk (pc + 1) L (st) S) : J mi res ck sk pc L (v :: st) S := by
  intro p l e s m args below meth c D kA ad A H locs ls ad0 X ha1 ha2 hl hP hD hS
  exact lv_pop X.1 X.2.1 d ((a_cv_cat ad v).trans hv) (K p l e s m args below meth c D kA ad A H locs ls ad0 X ha1 ha2 hl hP hD hS)

theorem J_dup2 {mi : aMi} {res : aRes} {ck sk pc : Nat} {L : List (Nat × Value)} {st : List Value} {S : aSt} {v u : Value} (d : decode mi.1 pc = .ok (.dup2, 1)) (hv : v.category = 1) (hu : u.category = 1) (K : J mi res ck sk (pc + 1) L (v :: u :: v :: u :: st) S) : J mi res ck sk pc L (v :: u :: st) S := by
  intro p l e s m args below meth c D kA ad A H locs ls ad0 X ha1 ha2 hl hP hD hS
  exact lv_dup2_11 X.1 X.2.1 d ((a_cv_cat ad v).trans hv) ((a_cv_cat ad u).trans hu) (K p l e s m args below meth c D kA ad A H locs ls ad0 X ha1 ha2 hl hP hD hS)

-- COND IF eq : x = 0 | ¬ x = 0
theorem J_if_eq {mi : aMi} {res : aRes} {ck sk pc : Nat} {L : List (Nat × Value)} {st : List Value} {S : aSt} {x : Int32} {off : Int} (tgt : Nat) (d : decode mi.1 pc = .ok (.ifCond .eq off, 3)) (ht : (pc : Int) + off = (tgt : Int)) (Kt : x = 0 → J mi res ck sk tgt L st S) (Kf : ¬ x = 0 → J mi res ck sk (pc + 3) L st S) : J mi res ck sk pc L (.int x :: st) S := by
  intro p l e s m args below meth c D kA ad A H locs ls ad0 X ha1 ha2 hl hP hD hS
  exact lv_if_eq X.1 X.2.1 d ht (fun h => Kt h p l e s m args below meth c D kA ad A H locs ls ad0 X ha1 ha2 hl hP hD hS) (fun h => Kf h p l e s m args below meth c D kA ad A H locs ls ad0 X ha1 ha2 hl hP hD hS)

-- COND ICMP eq : x = y | ¬ x = y
theorem J_icmp_eq {mi : aMi} {res : aRes} {ck sk pc : Nat} {L : List (Nat × Value)} {st : List Value} {S : aSt} {x y : Int32} {off : Int} (tgt : Nat) (d : decode mi.1 pc = .ok (.if_icmp .eq off, 3)) (ht : (pc : Int) + off = (tgt : Int)) (Kt : x = y → J mi res ck sk tgt L st S) (Kf : ¬ x = y → J mi res ck sk (pc + 3) L st S) : J mi res ck sk pc L (.int y :: .int x :: st) S := by
  intro p l e s m args below meth c D kA ad A H locs ls ad0 X ha1 ha2 hl hP hD hS
  exact lv_icmp_eq X.1 X.2.1 d ht (fun h => Kt h p l e s m args below meth c D kA ad A H locs ls ad0 X ha1 ha2 hl hP hD hS) (fun h => Kf h p l e s m args below meth c D kA ad A H locs ls ad0 X ha1 ha2 hl hP hD hS)

-- COND IF ne : ¬ x = 0 | x = 0
theorem J_if_ne {mi : aMi} {res : aRes} {ck sk pc : Nat} {L : List (Nat × Value)} {st : List Value} {S : aSt} {x : Int32} {off : Int} (tgt : Nat) (d : decode mi.1 pc = .ok (.ifCond .ne off, 3)) (ht : (pc : Int) + off = (tgt : Int)) (Kt : ¬ x = 0 → J mi res ck sk tgt L st S) (Kf : x = 0 → J mi res ck sk (pc + 3) L st S) : J mi res ck sk pc L (.int x :: st) S := by
  intro p l e s m args below meth c D kA ad A H locs ls ad0 X ha1 ha2 hl hP hD hS
  exact lv_if_ne X.1 X.2.1 d ht (fun h => Kt h p l e s m args below meth c D kA ad A H locs ls ad0 X ha1 ha2 hl hP hD hS) (fun h => Kf h p l e s m args below meth c D kA ad A H locs ls ad0 X ha1 ha2 hl hP hD hS)

-- COND ICMP ne : ¬ x = y | x = y
theorem J_icmp_ne {mi : aMi} {res : aRes} {ck sk pc : Nat} {L : List (Nat × Value)} {st : List Value} {S : aSt} {x y : Int32} {off : Int} (tgt : Nat) (d : decode mi.1 pc = .ok (.if_icmp .ne off, 3)) (ht : (pc : Int) + off = (tgt : Int)) (Kt : ¬ x = y → J mi res ck sk tgt L st S) (Kf : x = y → J mi res ck sk (pc + 3) L st S) : J mi res ck sk pc L (.int y :: .int x :: st) S := by
  intro p l e s m args below meth c D kA ad A H locs ls ad0 X ha1 ha2 hl hP hD hS
  exact lv_icmp_ne X.1 X.2.1 d ht (fun h => Kt h p l e s m args below meth c D kA ad A H locs ls ad0 X ha1 ha2 hl hP hD hS) (fun h => Kf h p l e s m args below meth c D kA ad A H locs ls ad0 X ha1 ha2 hl hP hD hS)

-- COND IF lt : x < 0 | ¬ x < 0
theorem J_if_lt {mi : aMi} {res : aRes} {ck sk pc : Nat} {L : List (Nat × Value)} {st : List Value} {S : aSt} {x : Int32} {off : Int} (tgt : Nat) (d : decode mi.1 pc = .ok (.ifCond .lt off, 3)) (ht : (pc : Int) + off = (tgt : Int)) (Kt : x < 0 → J mi res ck sk tgt L st S) (Kf : ¬ x < 0 → J mi res ck sk (pc + 3) L st S) : J mi res ck sk pc L (.int x :: st) S := by
  intro p l e s m args below meth c D kA ad A H locs ls ad0 X ha1 ha2 hl hP hD hS
  exact lv_if_lt X.1 X.2.1 d ht (fun h => Kt h p l e s m args below meth c D kA ad A H locs ls ad0 X ha1 ha2 hl hP hD hS) (fun h => Kf h p l e s m args below meth c D kA ad A H locs ls ad0 X ha1 ha2 hl hP hD hS)

-- COND ICMP lt : x < y | ¬ x < y
theorem J_icmp_lt {mi : aMi} {res : aRes} {ck sk pc : Nat} {L : List (Nat × Value)} {st : List Value} {S : aSt} {x y : Int32} {off : Int} (tgt : Nat) (d : decode mi.1 pc = .ok (.if_icmp .lt off, 3)) (ht : (pc : Int) + off = (tgt : Int)) (Kt : x < y → J mi res ck sk tgt L st S) (Kf : ¬ x < y → J mi res ck sk (pc + 3) L st S) : J mi res ck sk pc L (.int y :: .int x :: st) S := by
  intro p l e s m args below meth c D kA ad A H locs ls ad0 X ha1 ha2 hl hP hD hS
  exact lv_icmp_lt X.1 X.2.1 d ht (fun h => Kt h p l e s m args below meth c D kA ad A H locs ls ad0 X ha1 ha2 hl hP hD hS) (fun h => Kf h p l e s m args below meth c D kA ad A H locs ls ad0 X ha1 ha2 hl hP hD hS)

-- COND IF ge : 0 ≤ x | ¬ 0 ≤ x
theorem J_if_ge {mi : aMi} {res : aRes} {ck sk pc : Nat} {L : List (Nat × Value)} {st : List Value} {S : aSt} {x : Int32} {off : Int} (tgt : Nat) (d : decode mi.1 pc = .ok (.ifCond .ge off, 3)) (ht : (pc : Int) + off = (tgt : Int)) (Kt : 0 ≤ x → J mi res ck sk tgt L st S) (Kf : ¬ 0 ≤ x → J mi res ck sk (pc + 3) L st S) : J mi res ck sk pc L (.int x :: st) S := by
  intro p l e s m args below meth c D kA ad A H locs ls ad0 X ha1 ha2 hl hP hD hS
  exact lv_if_ge X.1 X.2.1 d ht (fun h => Kt h p l e s m args below meth c D kA ad A H locs ls ad0 X ha1 ha2 hl hP hD hS) (fun h => Kf h p l e s m args below meth c D kA ad A H locs ls ad0 X ha1 ha2 hl hP hD hS)

-- COND ICMP ge : y ≤ x | ¬ y ≤ x
theorem J_icmp_ge {mi : aMi} {res : aRes} {ck sk pc : Nat} {L : List (Nat × Value)} {st : List Value} {S : aSt} {x y : Int32} {off : Int} (tgt : Nat) (d : decode mi.1 pc = .ok (.if_icmp .ge off, 3)) (ht : (pc : Int) + off = (tgt : Int)) (Kt : y ≤ x → J mi res ck sk tgt L st S) (Kf : ¬ y ≤ x → J mi res ck sk (pc + 3) L st S) : J mi res ck sk pc L (.int y :: .int x :: st) S := by
  intro p l e s m args below meth c D kA ad A H locs ls ad0 X ha1 ha2 hl hP hD hS
  exact lv_icmp_ge X.1 X.2.1 d ht (fun h => Kt h p l e s m args below meth c D kA ad A H locs ls ad0 X ha1 ha2 hl hP hD hS) (fun h => Kf h p l e s m args below meth c D kA ad A H locs ls ad0 X ha1 ha2 hl hP hD hS)

-- COND IF gt : 0 < x | ¬ 0 < x
theorem J_if_gt {mi : aMi} {res : aRes} {ck sk pc : Nat} {L : List (Nat × Value)} {st : List Value} {S : aSt} {x : Int32} {off : Int} (tgt : Nat) (d : decode mi.1 pc = .ok (.ifCond .gt off, 3)) (ht : (pc : Int) + off = (tgt : Int)) (Kt : 0 < x → J mi res ck sk tgt L st S) (Kf : ¬ 0 < x → J mi res ck sk (pc + 3) L st S) : J mi res ck sk pc L (.int x :: st) S := by
  intro p l e s m args below meth c D kA ad A H locs ls ad0 X ha1 ha2 hl hP hD hS
  exact lv_if_gt X.1 X.2.1 d ht (fun h => Kt h p l e s m args below meth c D kA ad A H locs ls ad0 X ha1 ha2 hl hP hD hS) (fun h => Kf h p l e s m args below meth c D kA ad A H locs ls ad0 X ha1 ha2 hl hP hD hS)

-- COND ICMP gt : y < x | ¬ y < x
theorem J_icmp_gt {mi : aMi} {res : aRes} {ck sk pc : Nat} {L : List (Nat × Value)} {st : List Value} {S : aSt} {x y : Int32} {off : Int} (tgt : Nat) (d : decode mi.1 pc = .ok (.if_icmp .gt off, 3)) (ht : (pc : Int) + off = (tgt : Int)) (Kt : y < x → J mi res ck sk tgt L st S) (Kf : ¬ y < x → J mi res ck sk (pc + 3) L st S) : J mi res ck sk pc L (.int y :: .int x :: st) S := by
  intro p l e s m args below meth c D kA ad A H locs ls ad0 X ha1 ha2 hl hP hD hS
  exact lv_icmp_gt X.1 X.2.1 d ht (fun h => Kt h p l e s m args below meth c D kA ad A H locs ls ad0 X ha1 ha2 hl hP hD hS) (fun h => Kf h p l e s m args below meth c D kA ad A H locs ls ad0 X ha1 ha2 hl hP hD hS)

-- COND IF le : x ≤ 0 | ¬ x ≤ 0
theorem J_if_le {mi : aMi} {res : aRes} {ck sk pc : Nat} {L : List (Nat × Value)} {st : List Value} {S : aSt} {x : Int32} {off : Int} (tgt : Nat) (d : decode mi.1 pc = .ok (.ifCond .le off, 3)) (ht : (pc : Int) + off = (tgt : Int)) (Kt : x ≤ 0 → J mi res ck sk tgt L st S) (Kf : ¬ x ≤ 0 → J mi res ck sk (pc + 3) L st S) : J mi res ck sk pc L (.int x :: st) S := by
  intro p l e s m args below meth c D kA ad A H locs ls ad0 X ha1 ha2 hl hP hD hS
  exact lv_if_le X.1 X.2.1 d ht (fun h => Kt h p l e s m args below meth c D kA ad A H locs ls ad0 X ha1 ha2 hl hP hD hS) (fun h => Kf h p l e s m args below meth c D kA ad A H locs ls ad0 X ha1 ha2 hl hP hD hS)

-- COND ICMP le : x ≤ y | ¬ x ≤ y
theorem J_icmp_le {mi : aMi} {res : aRes} {ck sk pc : Nat} {L : List (Nat × Value)} {st : List Value} {S : aSt} {x y : Int32} {off : Int} (tgt : Nat) (d : decode mi.1 pc = .ok (.if_icmp .le off, 3)) (ht : (pc : Int) + off = (tgt : Int)) (Kt : x ≤ y → J mi res ck sk tgt L st S) (Kf : ¬ x ≤ y → J mi res ck sk (pc + 3) L st S) : J mi res ck sk pc L (.int y :: .int x :: st) S := by
  intro p l e s m args below meth c D kA ad A H locs ls ad0 X ha1 ha2 hl hP hD hS
  exact lv_icmp_le X.1 X.2.1 d ht (fun h => Kt h p l e s m args below meth c D kA ad A H locs ls ad0 X ha1 ha2 hl hP hD hS) (fun h => Kf h p l e s m args below meth c D kA ad A H locs ls ad0 X ha1 ha2 hl hP hD hS)

theorem J_goto {mi : aMi} {res : aRes} {ck sk pc : Nat} {L : List (Nat × Value)} {st : List Value} {S : aSt} {off : Int} (tgt : Nat) (d : decode mi.1 pc = .ok (.goto off, 3)) (ht : (pc : Int) + off = (tgt : Int)) (K : J mi res ck sk (tgt) L (st) S) : J mi res ck sk pc L (st) S := by
  intro p l e s m args below meth c D kA ad A H locs ls ad0 X ha1 ha2 hl hP hD hS
  exact lv_goto X.1 X.2.1 d ht (K p l e s m args below meth c D kA ad A H locs ls ad0 X ha1 ha2 hl hP hD hS)

theorem J_ifnonnull {mi : aMi} {res : aRes} {ck sk pc : Nat} {L : List (Nat × Value)} {st : List Value} {S : aSt} {off : Int} {x : Nat} (tgt : Nat) (d : decode mi.1 pc = .ok (.ifnonnull off, 3)) (ht : (pc : Int) + off = (tgt : Int)) (K : J mi res ck sk (tgt) L (st) S) : J mi res ck sk pc L (.ref x :: st) S := by
  intro p l e s m args below meth c D kA ad A H locs ls ad0 X ha1 ha2 hl hP hD hS
  exact lv_ifnonnull X.1 X.2.1 d ht (K p l e s m args below meth c D kA ad A H locs ls ad0 X ha1 ha2 hl hP hD hS)

theorem J_ifnonnullN {mi : aMi} {res : aRes} {ck sk pc : Nat} {L : List (Nat × Value)} {st : List Value} {S : aSt} {off : Int} (d : decode mi.1 pc = .ok (.ifnonnull off, 3)) (K : J mi res ck sk (pc + 3) L (st) S) : J mi res ck sk pc L (.null :: st) S := by
  intro p l e s m args below meth c D kA ad A H locs ls ad0 X ha1 ha2 hl hP hD hS
  exact lv_ifnonnullN X.1 X.2.1 d (K p l e s m args below meth c D kA ad A H locs ls ad0 X ha1 ha2 hl hP hD hS)
end
section
theorem a_in0 : ∀ w ∈ wsX00, w ∈ a_tbl := by decide +kernel
theorem a_in1 : ∀ w ∈ wsX10, w ∈ a_tbl := by decide +kernel
theorem a_in2 : ∀ w ∈ wsX20, w ∈ a_tbl := by decide +kernel
theorem a_in3 : ∀ w ∈ wsX30, w ∈ a_tbl := by decide +kernel
theorem a_in4 : ∀ w ∈ wsX40, w ∈ a_tbl := by decide +kernel
theorem a_in5 : ∀ w ∈ wsX50, w ∈ a_tbl := by decide +kernel
theorem a_in6 : ∀ w ∈ wsX60, w ∈ a_tbl := by decide +kernel
theorem a_in7 : ∀ w ∈ wsX70, w ∈ a_tbl := by decide +kernel
theorem a_in8 : ∀ w ∈ wsX80, w ∈ a_tbl := by decide +kernel
def a_clsP (C : String) (T : u_T) (N : Nat) : Prop := (∀ w ∈ u_ws C T N, w ∈ a_tbl) ∧ (∃ ty0 : Nat → FieldType, ∀ j, j < N → parseFieldDescriptor (T j).2.2.1 = some (ty0 j)) ∧ (∀ a, a < N → ∀ b, b < N → a ≠ b → (T a).2.1 ≠ (T b).2.1)
theorem a_cls {k : Nat} {q : vw_C} (h : vwCl[k]? = some q) : a_clsP q.1 q.2.1 q.2.2 := by
  match k, h with
  | 0, h => cases h; exact ⟨a_in0, ⟨tyX0, tyX0_ok⟩, nmX0⟩
  | 1, h => cases h; exact ⟨a_in1, ⟨tyX1, tyX1_ok⟩, nmX1⟩
  | 2, h => cases h; exact ⟨a_in2, ⟨tyX2, tyX2_ok⟩, nmX2⟩
  | 3, h => cases h; exact ⟨a_in3, ⟨tyX3, tyX3_ok⟩, nmX3⟩
  | 4, h => cases h; exact ⟨a_in4, ⟨tyX4, tyX4_ok⟩, nmX4⟩
  | 5, h => cases h; exact ⟨a_in5, ⟨tyX5, tyX5_ok⟩, nmX5⟩
  | 6, h => cases h; exact ⟨a_in6, ⟨tyX6, tyX6_ok⟩, nmX6⟩
  | 7, h => cases h; exact ⟨a_in7, ⟨tyX7, tyX7_ok⟩, nmX7⟩
  | 8, h => cases h; exact ⟨a_in8, ⟨tyX8, tyX8_ok⟩, nmX8⟩
  | k + 9, h => simp [vwCl] at h
section JM
variable {mi : aMi} {res : aRes} {ck sk pc : Nat} {L : List (Nat × Value)} {st : List Value} {C C' : aSc} {M M' : aMm} {S : aSt}
theorem J_sub {L' : List (Nat × Value)} (ks : List Nat) (hL : lv_pick L ks = L') (K : J mi res ck sk pc L' st S) : J mi res ck sk pc L st S := by
  intro p l e s m args below meth c D kA ad A H locs ls ad0 X ha1 ha2 hl hP hD hS
  refine K p l e s m args below meth c D kA ad A H locs ls ad0 X ha1 ha2 (lv_sub hl ks ?_) hP hD hS
  subst hL
  clear hl
  unfold lv_pick a_lc
  rw [List.map_filterMap]
  congr 1
  funext k
  simp
theorem J_eq {pc' : Nat} (h : pc = pc') (K : J mi res ck sk pc' L st S) : J mi res ck sk pc L st S := h ▸ K
/-! fields -/
theorem J_geti {c k j idx : Nat} {q : vw_C} (hk : a_kd c = k) (hc : c < 94) (hk9 : k < 9) (hcl : vwCl[k]? = some q) (hj : j < q.2.2) (ht : (a_ft k)[j]? = some 0) (hw : Cond.fieldLink mi.2.2.1 idx (q.2.1 j).1 (q.2.1 j).2.1 (q.2.1 j).2.2.1 ∈ a_tbl) (d : decode mi.1 pc = .ok (.getfield idx, 3)) (K : J mi res ck sk (pc + 3) L (.int (a_gi C c j) :: st) (C, M)) : J mi res ck sk pc L (.ref c :: st) (C, M) := by
  intro p l e s m args below meth cd D kA ad A H locs ls ad0 X ha1 ha2 hl hP hD hS
  have he := a_wl_at (kA := kA) (ad := ad) (S := (C, M)) (c := c) (by omega)
  rw [a_mk_o hk hk9, a_rowC hc] at he
  exact va_get (v := .int (C.1 c j)) X.1 X.2.1 X.2.2.2.2.1 (a_cls hcl).1 X.2.2.2.1 X.2.2.2.2.2.2.2.1 hP c he hcl j hj (X.2.2.2.2.1 _ hw) (fun _ h9 => h9) (by rw [a_fs_at ht]; rfl) d (K p l e s m args below meth cd D kA ad A H locs ls ad0 X ha1 ha2 hl hP hD hS)
theorem J_getl {c k j idx : Nat} {q : vw_C} (hk : a_kd c = k) (hc : c < 94) (hk9 : k < 9) (hcl : vwCl[k]? = some q) (hj : j < q.2.2) (ht : (a_ft k)[j]? = some 1) (hw : Cond.fieldLink mi.2.2.1 idx (q.2.1 j).1 (q.2.1 j).2.1 (q.2.1 j).2.2.1 ∈ a_tbl) (d : decode mi.1 pc = .ok (.getfield idx, 3)) (K : J mi res ck sk (pc + 3) L (.long (a_gl C c j) :: st) (C, M)) : J mi res ck sk pc L (.ref c :: st) (C, M) := by
  intro p l e s m args below meth cd D kA ad A H locs ls ad0 X ha1 ha2 hl hP hD hS
  have he := a_wl_at (kA := kA) (ad := ad) (S := (C, M)) (c := c) (by omega)
  rw [a_mk_o hk hk9, a_rowC hc] at he
  exact va_get (v := .long (C.2.1 c j)) X.1 X.2.1 X.2.2.2.2.1 (a_cls hcl).1 X.2.2.2.1 X.2.2.2.2.2.2.2.1 hP c he hcl j hj (X.2.2.2.2.1 _ hw) (fun _ h9 => h9) (by rw [a_fs_at ht]; rfl) d (K p l e s m args below meth cd D kA ad A H locs ls ad0 X ha1 ha2 hl hP hD hS)
theorem J_getr {c k j idx t r : Nat} {q : vw_C} (hk : a_kd c = k) (hc : c < 104) (hk9 : k < 9) (hcl : vwCl[k]? = some q) (hj : j < q.2.2) (ht : (a_ft k)[j]? = some (t + 2)) (hr : a_tg (t + 2) c = r) (hw : Cond.fieldLink mi.2.2.1 idx (q.2.1 j).1 (q.2.1 j).2.1 (q.2.1 j).2.2.1 ∈ a_tbl) (d : decode mi.1 pc = .ok (.getfield idx, 3)) (K : J mi res ck sk (pc + 3) L (.ref r :: st) S) : J mi res ck sk pc L (.ref c :: st) S := by
  intro p l e s m args below meth cd D kA ad A H locs ls ad0 X ha1 ha2 hl hP hD hS
  have he := a_wl_at (kA := kA) (ad := ad) (S := S) (c := c) (by omega)
  rw [a_mk_o hk hk9] at he
  subst hr
  exact va_get (v := .ref (ad (a_tg (t + 2) c))) X.1 X.2.1 X.2.2.2.2.1 (a_cls hcl).1 X.2.2.2.1 X.2.2.2.2.2.2.2.1 hP c he hcl j hj (X.2.2.2.2.1 _ hw) (fun _ h9 => h9) (by rw [a_fs_at ht]; rfl) d (K p l e s m args below meth cd D kA ad A H locs ls ad0 X ha1 ha2 hl hP hD hS)
theorem J_getiM {c m0 j idx : Nat} {k : Nat} {q : vw_C} (hm : c = 94 + m0) (hk : a_kd c = k) (hk9 : k < 9) (hcl : vwCl[k]? = some q) (hj : j < q.2.2) (ht : (a_ft k)[j]? = some 0) (hw : Cond.fieldLink mi.2.2.1 idx (q.2.1 j).1 (q.2.1 j).2.1 (q.2.1 j).2.2.1 ∈ a_tbl) (d : decode mi.1 pc = .ok (.getfield idx, 3)) (K : J mi res ck sk (pc + 3) L (.int (m_gi M m0 j) :: st) (C, M)) : J mi res ck sk pc L (.ref c :: st) (C, M) := by
  intro p l e s m args below meth cd D kA ad A H locs ls ad0 X ha1 ha2 hl hP hD hS
  have he := a_wl_at (kA := kA) (ad := ad) (S := (C, M)) (c := c) (a_lt hk (by omega))
  rw [a_mk_o hk hk9, hm, a_rowM] at he
  exact va_get (v := .int (M m0 j)) X.1 X.2.1 X.2.2.2.2.1 (a_cls hcl).1 X.2.2.2.1 X.2.2.2.2.2.2.2.1 hP _ (by rw [hm]; exact he) hcl j hj (X.2.2.2.2.1 _ hw) (fun _ h9 => h9) (by rw [a_fs_at ht]; rfl) d (K p l e s m args below meth cd D kA ad A H locs ls ad0 X ha1 ha2 hl hP hD hS)
theorem J_putG {c k j idx : Nat} {q : vw_C} {x : Int32} {ty : FieldType} (hk : a_kd c = k) (hc : c < 94) (hk9 : k < 9) (hcl : vwCl[k]? = some q) (hj : j < q.2.2) (ht : (a_ft k)[j]? = some 0) (hfin : (q.2.1 j).2.2.2 = false) (hd : parseFieldDescriptor (q.2.1 j).2.2.1 = some ty) (hn : narrow ty (.int x) = .int x) (hfit : fits ty (.int x) = true) (hw : Cond.fieldLink mi.2.2.1 idx (q.2.1 j).1 (q.2.1 j).2.1 (q.2.1 j).2.2.1 ∈ a_tbl) (hS1 : a_pi C c j x = C') (d : decode mi.1 pc = .ok (.putfield idx, 3)) (K : J mi res ck sk (pc + 3) L st (C', M)) : J mi res ck sk pc L (.int x :: .ref c :: st) (C, M) := by
  intro p l e s m args below meth cd D kA ad A H locs ls ad0 X ha1 ha2 hl hP hD hS
  have he := a_wl_at (kA := kA) (ad := ad) (S := (C, M)) (c := c) (by omega)
  rw [a_mk_o hk hk9, a_rowC hc] at he
  obtain ⟨hin, ⟨ty0, hty⟩, hnm⟩ := a_cls hcl
  refine va_put (v := .int x) (ty := ty) X.1 X.2.1 X.2.2.2.2.1 hin ty0 hty hnm X.2.2.2.1 X.2.2.2.2.2.2.2.1 hP hD hS c he hcl j hj (X.2.2.2.2.1 _ hw) (fun _ h9 => h9) hfin hd hn hfit (by rw [a_fs_len]; exact (List.getElem?_eq_some_iff.mp ht).1) d ?_
  intro H1 locs1 hP1 hD1 hS2
  subst hS1
  have hset : (a_wl kA ad (C, M)).set c (ad c, .inr (k, (a_fs k ad c (C.1 c, C.2.1 c, C.2.2 c)).set j (.int x))) = a_wl kA ad (a_pi C c j x, M) := a_wl_set (by rw [a_mk_o hk hk9, a_row_pi hc, a_fs_seti ht]) (fun q hq => a_row_pi_ne hq)
  rw [hset] at hP1 hD1
  exact K p l e s m args below meth cd D kA ad A H1 locs1 ls ad0 X ha1 ha2 hl hP1 hD1 hS2
theorem J_puti {c k j idx : Nat} {q : vw_C} {x : Int32} (hk : a_kd c = k) (hc : c < 94) (hk9 : k < 9) (hcl : vwCl[k]? = some q) (hj : j < q.2.2) (ht : (a_ft k)[j]? = some 0) (hfin : (q.2.1 j).2.2.2 = false) (hd : parseFieldDescriptor (q.2.1 j).2.2.1 = some .int) (hw : Cond.fieldLink mi.2.2.1 idx (q.2.1 j).1 (q.2.1 j).2.1 (q.2.1 j).2.2.1 ∈ a_tbl) (hS1 : a_pi C c j x = C') (d : decode mi.1 pc = .ok (.putfield idx, 3)) (K : J mi res ck sk (pc + 3) L st (C', M)) : J mi res ck sk pc L (.int x :: .ref c :: st) (C, M) :=
  J_putG hk hc hk9 hcl hj ht hfin hd rfl rfl hw hS1 d K
theorem a_nz {x : Int32} (h : x = 0 ∨ x = 1) : narrow .boolean (.int x) = .int x := by rcases h with rfl | rfl <;> rfl
theorem J_putz {c k j idx : Nat} {q : vw_C} {x : Int32} (hz : x = 0 ∨ x = 1) (hk : a_kd c = k) (hc : c < 94) (hk9 : k < 9) (hcl : vwCl[k]? = some q) (hj : j < q.2.2) (ht : (a_ft k)[j]? = some 0) (hfin : (q.2.1 j).2.2.2 = false) (hd : parseFieldDescriptor (q.2.1 j).2.2.1 = some .boolean) (hw : Cond.fieldLink mi.2.2.1 idx (q.2.1 j).1 (q.2.1 j).2.1 (q.2.1 j).2.2.1 ∈ a_tbl) (hS1 : a_pi C c j x = C') (d : decode mi.1 pc = .ok (.putfield idx, 3)) (K : J mi res ck sk (pc + 3) L st (C', M)) : J mi res ck sk pc L (.int x :: .ref c :: st) (C, M) :=
  J_putG hk hc hk9 hcl hj ht hfin hd (a_nz hz) (by rcases hz with rfl | rfl <;> rfl) hw hS1 d K
theorem J_putl {c k j idx : Nat} {q : vw_C} {x : Int64} (hk : a_kd c = k) (hc : c < 94) (hk9 : k < 9) (hcl : vwCl[k]? = some q) (hj : j < q.2.2) (ht : (a_ft k)[j]? = some 1) (hfin : (q.2.1 j).2.2.2 = false) (hd : parseFieldDescriptor (q.2.1 j).2.2.1 = some .long) (hw : Cond.fieldLink mi.2.2.1 idx (q.2.1 j).1 (q.2.1 j).2.1 (q.2.1 j).2.2.1 ∈ a_tbl) (hS1 : a_pl C c j x = C') (d : decode mi.1 pc = .ok (.putfield idx, 3)) (K : J mi res ck sk (pc + 3) L st (C', M)) : J mi res ck sk pc L (.long x :: .ref c :: st) (C, M) := by
  intro p l e s m args below meth cd D kA ad A H locs ls ad0 X ha1 ha2 hl hP hD hS
  have he := a_wl_at (kA := kA) (ad := ad) (S := (C, M)) (c := c) (by omega)
  rw [a_mk_o hk hk9, a_rowC hc] at he
  obtain ⟨hin, ⟨ty0, hty⟩, hnm⟩ := a_cls hcl
  refine va_put (v := .long x) (ty := .long) X.1 X.2.1 X.2.2.2.2.1 hin ty0 hty hnm X.2.2.2.1 X.2.2.2.2.2.2.2.1 hP hD hS c he hcl j hj (X.2.2.2.2.1 _ hw) (fun _ h9 => h9) hfin hd rfl rfl (by rw [a_fs_len]; exact (List.getElem?_eq_some_iff.mp ht).1) d ?_
  intro H1 locs1 hP1 hD1 hS2
  subst hS1
  have hset : (a_wl kA ad (C, M)).set c (ad c, .inr (k, (a_fs k ad c (C.1 c, C.2.1 c, C.2.2 c)).set j (.long x))) = a_wl kA ad (a_pl C c j x, M) := a_wl_set (by rw [a_mk_o hk hk9, a_row_pl hc, a_fs_setl ht]) (fun q hq => a_row_pl_ne hq)
  rw [hset] at hP1 hD1
  exact K p l e s m args below meth cd D kA ad A H1 locs1 ls ad0 X ha1 ha2 hl hP1 hD1 hS2
theorem J_putGM {c m0 k j idx : Nat} {q : vw_C} {x : Int32} {ty : FieldType} (hm : c = 94 + m0) (hk : a_kd c = k) (hk9 : k < 9) (hcl : vwCl[k]? = some q) (hj : j < q.2.2) (ht : (a_ft k)[j]? = some 0) (hfin : (q.2.1 j).2.2.2 = false) (hd : parseFieldDescriptor (q.2.1 j).2.2.1 = some ty) (hn : narrow ty (.int x) = .int x) (hfit : fits ty (.int x) = true) (hw : Cond.fieldLink mi.2.2.1 idx (q.2.1 j).1 (q.2.1 j).2.1 (q.2.1 j).2.2.1 ∈ a_tbl) (hS1 : m_pi M m0 j x = M') (d : decode mi.1 pc = .ok (.putfield idx, 3)) (K : J mi res ck sk (pc + 3) L st (C, M')) : J mi res ck sk pc L (.int x :: .ref c :: st) (C, M) := by
  intro p l e s m args below meth cd D kA ad A H locs ls ad0 X ha1 ha2 hl hP hD hS
  have he := a_wl_at (kA := kA) (ad := ad) (S := (C, M)) (c := c) (a_lt hk (by omega))
  rw [a_mk_o hk hk9] at he
  obtain ⟨hin, ⟨ty0, hty⟩, hnm⟩ := a_cls hcl
  refine va_put (v := .int x) (ty := ty) X.1 X.2.1 X.2.2.2.2.1 hin ty0 hty hnm X.2.2.2.1 X.2.2.2.2.2.2.2.1 hP hD hS c he hcl j hj (X.2.2.2.2.1 _ hw) (fun _ h9 => h9) hfin hd hn hfit (by rw [a_fs_len]; exact (List.getElem?_eq_some_iff.mp ht).1) d ?_
  intro H1 locs1 hP1 hD1 hS2
  subst hS1
  subst hm
  have hset : (a_wl kA ad (C, M)).set (94 + m0) (ad (94 + m0), .inr (k, (a_fs k ad (94 + m0) (a_row (C, M) (94 + m0))).set j (.int x))) = a_wl kA ad (C, m_pi M m0 j x) := a_wl_set (by rw [a_mk_o hk hk9, a_row_pm, a_rowM, a_fs_seti ht]) (fun q hq => a_row_pm_ne hq)
  rw [hset] at hP1 hD1
  exact K p l e s m args below meth cd D kA ad A H1 locs1 ls ad0 X ha1 ha2 hl hP1 hD1 hS2
theorem J_putiM {c m0 k j idx : Nat} {q : vw_C} {x : Int32} (hm : c = 94 + m0) (hk : a_kd c = k) (hk9 : k < 9) (hcl : vwCl[k]? = some q) (hj : j < q.2.2) (ht : (a_ft k)[j]? = some 0) (hfin : (q.2.1 j).2.2.2 = false) (hd : parseFieldDescriptor (q.2.1 j).2.2.1 = some .int) (hw : Cond.fieldLink mi.2.2.1 idx (q.2.1 j).1 (q.2.1 j).2.1 (q.2.1 j).2.2.1 ∈ a_tbl) (hS1 : m_pi M m0 j x = M') (d : decode mi.1 pc = .ok (.putfield idx, 3)) (K : J mi res ck sk (pc + 3) L st (C, M')) : J mi res ck sk pc L (.int x :: .ref c :: st) (C, M) :=
  J_putGM hm hk hk9 hcl hj ht hfin hd rfl rfl hw hS1 d K
theorem J_putzM {c m0 k j idx : Nat} {q : vw_C} {x : Int32} (hz : x = 0 ∨ x = 1) (hm : c = 94 + m0) (hk : a_kd c = k) (hk9 : k < 9) (hcl : vwCl[k]? = some q) (hj : j < q.2.2) (ht : (a_ft k)[j]? = some 0) (hfin : (q.2.1 j).2.2.2 = false) (hd : parseFieldDescriptor (q.2.1 j).2.2.1 = some .boolean) (hw : Cond.fieldLink mi.2.2.1 idx (q.2.1 j).1 (q.2.1 j).2.1 (q.2.1 j).2.2.1 ∈ a_tbl) (hS1 : m_pi M m0 j x = M') (d : decode mi.1 pc = .ok (.putfield idx, 3)) (K : J mi res ck sk (pc + 3) L st (C, M')) : J mi res ck sk pc L (.int x :: .ref c :: st) (C, M) :=
  J_putGM hm hk hk9 hcl hj ht hfin hd (a_nz hz) (by rcases hz with rfl | rfl <;> rfl) hw hS1 d K
/-! arrays -/
theorem a_inb {i : Int32} {n : Nat} {α : Type} {x y : α} (h : (if 0 ≤ i.toInt ∧ i.toInt < (n : Int) then some x else none) = some y) : vp_in i n ∧ x = y := by
  obtain ⟨h1, h2⟩ := br_g h
  exact ⟨vp_in_iff.mpr h1, Option.some.inj h2⟩
theorem J_iald {c : Nat} {i x : Int32} (hk : a_kd c = 10) (hc : c < 94) (hv : a_ld C c i = some x) (d : decode mi.1 pc = .ok (.iaload, 1)) (K : J mi res ck sk (pc + 1) L (.int x :: st) (C, M)) : J mi res ck sk pc L (.int i :: .ref c :: st) (C, M) := by
  intro p l e s m args below meth cd D kA ad A H locs ls ad0 X ha1 ha2 hl hP hD hS
  have he := a_wl_at (kA := kA) (ad := ad) (S := (C, M)) (c := c) (by omega)
  rw [a_mk_i hk, a_rowC hc] at he
  obtain ⟨h1, rfl⟩ := a_inb hv
  exact va_iald X.1 X.2.1 X.2.2.2.2.2.2.2.1 hP c 0 he rfl h1 d (K p l e s m args below meth cd D kA ad A H locs ls ad0 X ha1 ha2 hl hP hD hS)
theorem J_zald {c : Nat} {i x : Int32} (hk : a_kd c = 12) (hc : c < 94) (hv : a_ld C c i = some x) (d : decode mi.1 pc = .ok (.baload, 1)) (K : J mi res ck sk (pc + 1) L (.int x :: st) (C, M)) : J mi res ck sk pc L (.int i :: .ref c :: st) (C, M) := by
  intro p l e s m args below meth cd D kA ad A H locs ls ad0 X ha1 ha2 hl hP hD hS
  have he := a_wl_at (kA := kA) (ad := ad) (S := (C, M)) (c := c) (by omega)
  rw [a_mk_z hk, a_rowC hc] at he
  obtain ⟨h1, rfl⟩ := a_inb hv
  exact va_zald X.1 X.2.1 X.2.2.2.2.2.2.2.1 hP c 2 he rfl h1 d (K p l e s m args below meth cd D kA ad A H locs ls ad0 X ha1 ha2 hl hP hD hS)
theorem J_lald {c : Nat} {i : Int32} {x : Int64} (hk : a_kd c = 11) (hc : c < 94) (hv : a_ldl C c i = some x) (d : decode mi.1 pc = .ok (.laload, 1)) (K : J mi res ck sk (pc + 1) L (.long x :: st) (C, M)) : J mi res ck sk pc L (.int i :: .ref c :: st) (C, M) := by
  intro p l e s m args below meth cd D kA ad A H locs ls ad0 X ha1 ha2 hl hP hD hS
  have he := a_wl_at (kA := kA) (ad := ad) (S := (C, M)) (c := c) (by omega)
  rw [a_mk_l hk, a_rowC hc] at he
  obtain ⟨h1, rfl⟩ := a_inb hv
  exact va_lald X.1 X.2.1 X.2.2.2.2.2.2.2.1 hP c 1 he rfl h1 d (K p l e s m args below meth cd D kA ad A H locs ls ad0 X ha1 ha2 hl hP hD hS)
theorem J_ialdM {c m0 : Nat} {i x : Int32} (hm : c = 94 + m0) (hk : a_kd c = 10) (hv : m_ld M m0 i = some x) (d : decode mi.1 pc = .ok (.iaload, 1)) (K : J mi res ck sk (pc + 1) L (.int x :: st) (C, M)) : J mi res ck sk pc L (.int i :: .ref c :: st) (C, M) := by
  intro p l e s m args below meth cd D kA ad A H locs ls ad0 X ha1 ha2 hl hP hD hS
  subst hm
  have he := a_wl_at (kA := kA) (ad := ad) (S := (C, M)) (c := 94 + m0) (a_lt hk (by omega))
  rw [a_mk_i hk, a_rowM] at he
  obtain ⟨h1, rfl⟩ := a_inb hv
  exact va_iald X.1 X.2.1 X.2.2.2.2.2.2.2.1 hP _ 0 he rfl h1 d (K p l e s m args below meth cd D kA ad A H locs ls ad0 X ha1 ha2 hl hP hD hS)
theorem J_iast {c : Nat} {i x : Int32} (hk : a_kd c = 10) (hc : c < 94) (hv : a_st C c i x = some C') (d : decode mi.1 pc = .ok (.iastore, 1)) (K : J mi res ck sk (pc + 1) L st (C', M)) : J mi res ck sk pc L (.int x :: .int i :: .ref c :: st) (C, M) := by
  intro p l e s m args below meth cd D kA ad A H locs ls ad0 X ha1 ha2 hl hP hD hS
  have he := a_wl_at (kA := kA) (ad := ad) (S := (C, M)) (c := c) (by omega)
  rw [a_mk_i hk, a_rowC hc] at he
  obtain ⟨h1, rfl⟩ := a_inb hv
  refine va_iast X.1 X.2.1 X.2.2.2.2.2.2.2.1 hP hD hS c 0 he rfl h1 d ?_
  intro H1 locs1 hP1 hD1 hS2
  have hset : (a_wl kA ad (C, M)).set c (ad c, .inl (kA 0, a_len c (C.2.2 c), .inl (upd (C.1 c) i.toNatClampNeg x))) = a_wl kA ad (a_pi C c i.toNatClampNeg x, M) := a_wl_set (by rw [a_mk_i hk, a_row_pi hc]) (fun q hq => a_row_pi_ne hq)
  have hP2 := hset ▸ hP1
  have hD2 := hset ▸ hD1
  exact K p l e s m args below meth cd D kA ad A H1 locs1 ls ad0 X ha1 ha2 hl hP2 hD2 hS2
theorem J_zast {c : Nat} {i x : Int32} (hk : a_kd c = 12) (hc : c < 94) (hv : a_st C c i (vp_nar .boolean x) = some C') (d : decode mi.1 pc = .ok (.bastore, 1)) (K : J mi res ck sk (pc + 1) L st (C', M)) : J mi res ck sk pc L (.int x :: .int i :: .ref c :: st) (C, M) := by
  intro p l e s m args below meth cd D kA ad A H locs ls ad0 X ha1 ha2 hl hP hD hS
  have he := a_wl_at (kA := kA) (ad := ad) (S := (C, M)) (c := c) (by omega)
  rw [a_mk_z hk, a_rowC hc] at he
  obtain ⟨h1, rfl⟩ := a_inb hv
  refine va_zast X.1 X.2.1 X.2.2.2.2.2.2.2.1 hP hD hS c 2 he rfl h1 d ?_
  intro H1 locs1 hP1 hD1 hS2
  have hset : (a_wl kA ad (C, M)).set c (ad c, .inl (kA 2, a_len c (C.2.2 c), .inl (upd (C.1 c) i.toNatClampNeg (vp_nar .boolean x)))) = a_wl kA ad (a_pi C c i.toNatClampNeg (vp_nar .boolean x), M) := a_wl_set (by rw [a_mk_z hk, a_row_pi hc]) (fun q hq => a_row_pi_ne hq)
  have hP2 := hset ▸ hP1
  have hD2 := hset ▸ hD1
  exact K p l e s m args below meth cd D kA ad A H1 locs1 ls ad0 X ha1 ha2 hl hP2 hD2 hS2
theorem J_last {c : Nat} {i : Int32} {x : Int64} (hk : a_kd c = 11) (hc : c < 94) (hv : a_stl C c i x = some C') (d : decode mi.1 pc = .ok (.lastore, 1)) (K : J mi res ck sk (pc + 1) L st (C', M)) : J mi res ck sk pc L (.long x :: .int i :: .ref c :: st) (C, M) := by
  intro p l e s m args below meth cd D kA ad A H locs ls ad0 X ha1 ha2 hl hP hD hS
  have he := a_wl_at (kA := kA) (ad := ad) (S := (C, M)) (c := c) (by omega)
  rw [a_mk_l hk, a_rowC hc] at he
  obtain ⟨h1, rfl⟩ := a_inb hv
  refine va_last X.1 X.2.1 X.2.2.2.2.2.2.2.1 hP hD hS c 1 he rfl h1 d ?_
  intro H1 locs1 hP1 hD1 hS2
  have hset : (a_wl kA ad (C, M)).set c (ad c, .inl (kA 1, a_len c (C.2.2 c), .inr (.inl (vp_updL (C.2.1 c) i.toNatClampNeg x)))) = a_wl kA ad (a_pl C c i.toNatClampNeg x, M) := a_wl_set (by rw [a_mk_l hk, a_row_pl hc]) (fun q hq => a_row_pl_ne hq)
  have hP2 := hset ▸ hP1
  have hD2 := hset ▸ hD1
  exact K p l e s m args below meth cd D kA ad A H1 locs1 ls ad0 X ha1 ha2 hl hP2 hD2 hS2
theorem J_iastM {c m0 : Nat} {i x : Int32} (hm : c = 94 + m0) (hk : a_kd c = 10) (hv : m_st M m0 i x = some M') (d : decode mi.1 pc = .ok (.iastore, 1)) (K : J mi res ck sk (pc + 1) L st (C, M')) : J mi res ck sk pc L (.int x :: .int i :: .ref c :: st) (C, M) := by
  intro p l e s m args below meth cd D kA ad A H locs ls ad0 X ha1 ha2 hl hP hD hS
  subst hm
  have he := a_wl_at (kA := kA) (ad := ad) (S := (C, M)) (c := 94 + m0) (a_lt hk (by omega))
  rw [a_mk_i hk, a_rowM] at he
  obtain ⟨h1, rfl⟩ := a_inb hv
  refine va_iast X.1 X.2.1 X.2.2.2.2.2.2.2.1 hP hD hS _ 0 he rfl h1 d ?_
  intro H1 locs1 hP1 hD1 hS2
  have hset : (a_wl kA ad (C, M)).set (94 + m0) (ad (94 + m0), .inl (kA 0, a_len (94 + m0) 0, .inl (upd (M m0) i.toNatClampNeg x))) = a_wl kA ad (C, m_pi M m0 i.toNatClampNeg x) := a_wl_set (by rw [a_mk_i hk, a_row_pm]) (fun q hq => a_row_pm_ne hq)
  have hP2 := hset ▸ hP1
  have hD2 := hset ▸ hD1
  exact K p l e s m args below meth cd D kA ad A H1 locs1 ls ad0 X ha1 ha2 hl hP2 hD2 hS2
theorem J_aaldL {i : Int32} {r : Nat} (hv : a_rf 24 3 10 i = some r) (d : decode mi.1 pc = .ok (.aaload, 1)) (K : J mi res ck sk (pc + 1) L (.ref r :: st) S) : J mi res ck sk pc L (.int i :: .ref 3 :: st) S := by
  intro p l e s m args below meth cd D kA ad A H locs ls ad0 X ha1 ha2 hl hP hD hS
  have he := a_wl_at (kA := kA) (ad := ad) (S := S) (c := 3) (by omega)
  obtain ⟨h1, rfl⟩ := a_inb hv
  exact va_aldq (C := RX1) X.1 X.2.1 X.2.2.2.2.2.2.2.1 hP 3 3 he rfl h1 d (K p l e s m args below meth cd D kA ad A H locs ls ad0 X ha1 ha2 hl hP hD hS)
theorem J_aaldS {i : Int32} {r : Nat} (hv : a_rf 54 2 4 i = some r) (d : decode mi.1 pc = .ok (.aaload, 1)) (K : J mi res ck sk (pc + 1) L (.ref r :: st) S) : J mi res ck sk pc L (.int i :: .ref 21 :: st) S := by
  intro p l e s m args below meth cd D kA ad A H locs ls ad0 X ha1 ha2 hl hP hD hS
  have he := a_wl_at (kA := kA) (ad := ad) (S := S) (c := 21) (by omega)
  obtain ⟨h1, rfl⟩ := a_inb hv
  exact va_aldq (C := RX3) X.1 X.2.1 X.2.2.2.2.2.2.2.1 hP 21 4 he rfl h1 d (K p l e s m args below meth cd D kA ad A H locs ls ad0 X ha1 ha2 hl hP hD hS)
theorem J_aaldP {i : Int32} {r : Nat} (hv : a_rf 62 2 16 i = some r) (d : decode mi.1 pc = .ok (.aaload, 1)) (K : J mi res ck sk (pc + 1) L (.ref r :: st) S) : J mi res ck sk pc L (.int i :: .ref 23 :: st) S := by
  intro p l e s m args below meth cd D kA ad A H locs ls ad0 X ha1 ha2 hl hP hD hS
  have he := a_wl_at (kA := kA) (ad := ad) (S := S) (c := 23) (by omega)
  obtain ⟨h1, rfl⟩ := a_inb hv
  exact va_aldq (C := RX4) X.1 X.2.1 X.2.2.2.2.2.2.2.1 hP 23 5 he rfl h1 d (K p l e s m args below meth cd D kA ad A H locs ls ad0 X ha1 ha2 hl hP hD hS)
theorem a_clamp {i : Int32} {n : Nat} (h : vp_in i n) : i.toNatClampNeg < n := Nat.not_le.mp fun q => h (Or.inr q)
theorem a_rfL {i : Int32} {r : Nat} (hv : a_rf 24 3 10 i = some r) : a_kd r = 1 ∧ r < 94 ∧ a_kd (r + 1) = 11 ∧ r + 1 < 94 ∧ a_kd (r + 2) = 10 ∧ r + 2 < 94 := by
  obtain ⟨h1, rfl⟩ := a_inb hv
  have h2 := a_clamp h1
  generalize i.toNatClampNeg = j at h2
  revert j
  decide
theorem a_rfS {i : Int32} {r : Nat} (hv : a_rf 54 2 4 i = some r) : a_kd r = 3 ∧ r < 94 ∧ a_kd (r + 1) = 10 ∧ r + 1 < 94 := by
  obtain ⟨h1, rfl⟩ := a_inb hv
  have h2 := a_clamp h1
  generalize i.toNatClampNeg = j at h2
  revert j
  decide
theorem a_rfP {i : Int32} {r : Nat} (hv : a_rf 62 2 16 i = some r) : a_kd r = 4 ∧ r < 94 ∧ a_kd (r + 1) = 10 ∧ r + 1 < 94 := by
  obtain ⟨h1, rfl⟩ := a_inb hv
  have h2 := a_clamp h1
  generalize i.toNatClampNeg = j at h2
  revert j
  decide
theorem J_alen {c : Nat} (hk : a_kd c = 10) (hc : c < 94) (d : decode mi.1 pc = .ok (.arraylength, 1)) (K : J mi res ck sk (pc + 1) L (.int (Int32.ofNat (a_ln C c)) :: st) (C, M)) : J mi res ck sk pc L (.ref c :: st) (C, M) := by
  intro p l e s m args below meth cd D kA ad A H locs ls ad0 X ha1 ha2 hl hP hD hS
  have he := a_wl_at (kA := kA) (ad := ad) (S := (C, M)) (c := c) (by omega)
  rw [a_mk_i hk, a_rowC hc] at he
  exact va_alen (ty := .int) X.1 X.2.1 X.2.2.2.2.2.2.2.1 hP c 0 he rfl rfl d (K p l e s m args below meth cd D kA ad A H locs ls ad0 X ha1 ha2 hl hP hD hS)
/-! static tables -/
theorem J_gets {c idx : Nat} (h1 : 200 ≤ c) (h2 : c ≤ 202) (hw : Cond.fieldLink mi.2.2.1 idx "CoastLights" (a_tn c) "[I" ∈ a_tbl) (d : decode mi.1 pc = .ok (.getstatic idx, 3)) (K : J mi res ck sk (pc + 3) L (.ref c :: st) S) : J mi res ck sk pc L st S := by
  intro p l e s m args below meth cd D kA ad A H locs ls ad0 X ha1 ha2 hl hP hD hS
  exact va_gets X.1 X.2.1 (X.2.2.2.2.2.2.2.2.2 c h1 h2).1 hS X.2.2.2.1 (X.2.2.2.2.1 _ hw) (fun _ h => h) d (K p l e s m args below meth cd D kA ad A H locs ls ad0 X ha1 ha2 hl hP hD hS)
theorem J_tld {c : Nat} {i x : Int32} (h1 : 200 ≤ c) (h2 : c ≤ 202) (hv : a_tb c i = some x) (d : decode mi.1 pc = .ok (.iaload, 1)) (K : J mi res ck sk (pc + 1) L (.int x :: st) S) : J mi res ck sk pc L (.int i :: .ref c :: st) S := by
  intro p l e s m args below meth cd D kA ad A H locs ls ad0 X ha1 ha2 hl hP hD hS
  obtain ⟨h3, rfl⟩ := a_inb hv
  exact va_ti X.1 X.2.1 (X.2.2.2.2.2.2.2.2.2 c h1 h2).2 hS h3 rfl d (K p l e s m args below meth cd D kA ad A H locs ls ad0 X ha1 ha2 hl hP hD hS)
theorem J_tlen {c : Nat} {v : Int32} (h1 : 200 ≤ c) (h2 : c ≤ 202) (hv : Int32.ofNat (a_tl c) = v) (d : decode mi.1 pc = .ok (.arraylength, 1)) (K : J mi res ck sk (pc + 1) L (.int v :: st) S) : J mi res ck sk pc L (.ref c :: st) S := by
  intro p l e s m args below meth cd D kA ad A H locs ls ad0 X ha1 ha2 hl hP hD hS
  exact va_tlen X.1 X.2.1 (X.2.2.2.2.2.2.2.2.2 c h1 h2).2 hS hv d (K p l e s m args below meth cd D kA ad A H locs ls ad0 X ha1 ha2 hl hP hD hS)
/-! returns -/
theorem J_iret {v : Int32} (hr : mi.2.2.2.1 = some .int) (hck : ck = mi.2.2.2.2.cells) (hsk : sk = mi.2.2.2.2.slots) (hres : res = (some (.int v), S)) (d : decode mi.1 pc = .ok (.ireturn, 1)) : J mi res ck sk pc L [.int v] S := by
  intro p l e s m args below meth cd D kA ad A H locs ls ad0 X ha1 ha2 hl hP hD hS
  subst hck; subst hsk; subst hres
  exact W.iret X.1 X.2.1 (X.2.2.2.2.2.1.trans hr) (fun t ht hW => ⟨⟨ad, ha1, ha2, rfl, by rw [ht]; exact hP, hD⟩, hS.F ht⟩) hS.2.2 d X.2.2.2.2.2.2.1
theorem J_zret {v : Int32} (hz : v = 0 ∨ v = 1) (hr : mi.2.2.2.1 = some .boolean) (hck : ck = mi.2.2.2.2.cells) (hsk : sk = mi.2.2.2.2.slots) (hres : res = (some (.int v), S)) (d : decode mi.1 pc = .ok (.ireturn, 1)) : J mi res ck sk pc L [.int v] S := by
  intro p l e s m args below meth cd D kA ad A H locs ls ad0 X ha1 ha2 hl hP hD hS
  subst hck; subst hsk; subst hres
  exact W.zret X.1 X.2.1 (X.2.2.2.2.2.1.trans hr) (a_nz hz) (fun t ht hW => ⟨⟨ad, ha1, ha2, rfl, by rw [ht]; exact hP, hD⟩, hS.F ht⟩) hS.2.2 d X.2.2.2.2.2.2.1
theorem J_lret {v : Int64} (hr : mi.2.2.2.1 = some .long) (hck : ck = mi.2.2.2.2.cells) (hsk : sk = mi.2.2.2.2.slots) (hres : res = (some (.long v), S)) (d : decode mi.1 pc = .ok (.lreturn, 1)) : J mi res ck sk pc L [.long v] S := by
  intro p l e s m args below meth cd D kA ad A H locs ls ad0 X ha1 ha2 hl hP hD hS
  subst hck; subst hsk; subst hres
  exact W.lret X.1 X.2.1 (X.2.2.2.2.2.1.trans hr) (fun t ht hW => ⟨⟨ad, ha1, ha2, rfl, by rw [ht]; exact hP, hD⟩, hS.F ht⟩) hS.2.2 d X.2.2.2.2.2.2.1
theorem J_vret (hr : mi.2.2.2.1 = none) (hck : ck = mi.2.2.2.2.cells) (hsk : sk = mi.2.2.2.2.slots) (hres : res = (none, S)) (d : decode mi.1 pc = .ok (.return_, 1)) : J mi res ck sk pc L [] S := by
  intro p l e s m args below meth cd D kA ad A H locs ls ad0 X ha1 ha2 hl hP hD hS
  subst hck; subst hsk; subst hres
  exact W.vret X.1 X.2.1 (X.2.2.2.2.2.1.trans hr) (fun t ht hW => ⟨⟨ad, ha1, ha2, rfl, by rw [ht]; exact hP, hD⟩, hS.F ht⟩) hS.2.2 d X.2.2.2.2.2.2.1
theorem J_aret {r : Nat} {rt : FieldType} (hrt : (∃ n, rt = .object n) ∨ ∃ t, rt = .array t) (hr : mi.2.2.2.1 = some rt) (hck : ck = mi.2.2.2.2.cells) (hsk : sk = mi.2.2.2.2.slots) (hres : res = (some (.ref r), S)) (d : decode mi.1 pc = .ok (.areturn, 1)) : J mi res ck sk pc L [.ref r] S := by
  intro p l e s m args below meth cd D kA ad A H locs ls ad0 X ha1 ha2 hl hP hD hS
  subst hck; subst hsk; subst hres
  exact W.aret X.1 X.2.1 (X.2.2.2.2.2.1.trans hr) hrt (Or.inr ⟨_, rfl⟩) (fun t ht hW => ⟨⟨ad, ha1, ha2, rfl, by rw [ht]; exact hP, hD⟩, hS.F ht⟩) hS.2.2 d X.2.2.2.2.2.2.1
theorem J_aretN {rt : FieldType} (hrt : (∃ n, rt = .object n) ∨ ∃ t, rt = .array t) (hr : mi.2.2.2.1 = some rt) (hck : ck = mi.2.2.2.2.cells) (hsk : sk = mi.2.2.2.2.slots) (hres : res = (some .null, S)) (d : decode mi.1 pc = .ok (.areturn, 1)) : J mi res ck sk pc L [.null] S := by
  intro p l e s m args below meth cd D kA ad A H locs ls ad0 X ha1 ha2 hl hP hD hS
  subst hck; subst hsk; subst hres
  exact W.aret X.1 X.2.1 (X.2.2.2.2.2.1.trans hr) hrt (Or.inl rfl) (fun t ht hW => ⟨⟨ad, ha1, ha2, rfl, by rw [ht]; exact hP, hD⟩, hS.F ht⟩) hS.2.2 d X.2.2.2.2.2.2.1
end JM
end
section
theorem a_lc_args (ad : Nat → Nat) : ∀ (as : List Value) (i : Nat), lv_args i (as.map (a_cv ad)) = a_lc ad (lv_args i as)
  | [], _ => rfl
  | v :: as, i => by
    show (i, a_cv ad v) :: lv_args (if (a_cv ad v).category = 2 then i + 2 else i + 1) (as.map (a_cv ad)) = _
    rw [a_cv_cat, a_lc_args ad as]
    rfl
theorem a_cats (ad : Nat → Nat) (st : List Value) : ((st.map (a_cv ad)).map fun v => v.category).sum = (st.map fun v => v.category).sum := by
  rw [List.map_map]
  congr 1
  apply List.map_congr_left
  intro v _
  exact a_cv_cat ad v
theorem a_sl_len (ad : Nat → Nat) : ∀ as : List Value, (lg_sl (as.map (a_cv ad))).length = (as.map fun v => v.category).sum
  | [] => rfl
  | v :: as => by
    have ih := a_sl_len ad as
    show ((if (a_cv ad v).category = 2 then [Slot.val (a_cv ad v), .second] else [.val (a_cv ad v)]) ++ lg_sl (as.map (a_cv ad))).length = v.category + _
    rw [List.length_append, ih, a_cv_cat]
    rcases lv_cat v with h | h <;> simp [h]
def a_Pc (D : va_G) (kA : Nat → ClassId) (ad : Nat → Nat) (sz : Nat) (S : aSt) (U : State) : Prop := U.heap.size = sz ∧ va_P D vwCl (a_wl kA ad S) U.heap ∧ va_K D vwCl (a_tys kA) U ∧ va_D (fun _ => True) (a_wl kA ad S) ∧ a_Sx ad (va_A (a_wl kA ad S) sz) U U.heap
/-- A METHOD'S CONTRACT: from these arguments in this state it ends with 'res' -/
def Ct (mi : aMi) (y : MethodName) (as : List Value) (S : aSt) (res : aRes) : Prop := ∀ (l : Launch) (D : va_G) (kA : Nat → ClassId) (ad : Nat → Nat) (sz : Nat),
  Met l y (Cond.code y mi.1 mi.2.1 mi.2.2.2.1 :: a_tbl) mi.2.2.2.2 (va_Pc (as.map (a_cv ad)) (a_Pc D kA ad sz S)) (a_Q D kA ad (va_A (a_wl kA ad S) sz) mi.2.2.2.2.cells res) mi.2.2.2.2.cells mi.2.2.2.2.slots (va_A (a_wl kA ad S) sz)
theorem Ct_of_J {mi : aMi} {y : MethodName} {as : List Value} {S : aSt} {res : aRes} (hy : plainName y.cls = true) (hown : mi.2.2.1 = y.cls) (hlen : (as.map fun v => v.category).sum ≤ mi.2.1) (h : J mi res 0 0 0 (lv_args 0 as) [] S) : Ct mi y as S res := by
  intro l D kA ad sz
  refine Met.ofW (cc := mi.1) (maxL := mi.2.1) (ret := mi.2.2.2.1) hy rfl ?_
  intro p e s m args below meth c s₁ B hml hv
  obtain ⟨rfl, hsz, hP, hK, hD0, hSx⟩ := hv
  have hts := atoms_spec (ws := Cond.code y mi.1 mi.2.1 mi.2.2.2.1 :: a_tbl) B.pre
  have hown' : s.vm.findClass y.cls = some m.cls := findClass_of_methodNamed B.named
  subst hsz
  have hl := lv_entry (as.map (a_cv ad)) (n := mi.2.1) (by rw [a_sl_len]; exact hlen)
  rw [lg_entry_eq]
  generalize (lg_sl (as.map (a_cv ad)) ++ List.replicate (mi.2.1 - (lg_sl (as.map (a_cv ad))).length) Slot.unset).toArray = ls at hl ⊢
  rw [a_lc_args] at hl
  exact h p l e s m _ below meth c D kA ad (va_A (a_wl kA ad S) s.heap.size) s.heap [] ls ad ⟨B.exec, B.bytes, hml, by rw [hown]; exact hown', fun w hw => hts w (List.mem_cons_of_mem _ hw), B.returns, B.notSynchronized, hK, fun q h => Or.inr h, hSx⟩ (fun _ _ => rfl) (fun _ => rfl) hl hP hD0.self va_S.rf
theorem a_go {p : Program} {l : Launch} {e : Env} {R : Room} {s : State} {m : MethodId} {args : Array Value} {below : List Frame} {meth : Method} {c : Code} {H : Heap} {locs : List Loc} {ck sk mc ms pc : Nat} {ls : Array Slot} {st0 rest' : List Value} {D : va_G} {kA : Nat → ClassId} {ad : Nat → Nat} {A A1 : Nat → Prop} {v : Option Value} {S' : aSt} {a : Array Value} {Q : State → Prop}
    (hr : va_Run p l e R s m args below meth c H locs ck sk mc ms (F0 m pc ls st0) rest' (a_Q D kA ad A1 mc (v, S') a) A1) (hS : va_S A s.heap H locs) (hF : ∀ q, A1 q → A q)
    (kk : ∀ (ad' : Nat → Nat) (H1 : Heap) (locs1 : List Loc), (∀ c, ¬ (c = 18 ∨ c = 19) → ad' c = ad c) → (mc = 0 → ad' = ad) → va_P D vwCl (a_wl kA ad' S') H1 → va_D A (a_wl kA ad' S') → va_S A s.heap H1 locs1 → W p l e R s m args below meth c H1 locs1 (ck + mc) (sk + ms) Q (F0 m (pc + 3) ls ((v.map (a_cv ad')).toList ++ rest'))) :
    W p l e R s m args below meth c H locs ck sk Q (F0 m pc ls st0) := by
  intro T hT X
  obtain ⟨v0, st₀, t, T', L, h0, X', hL, e1, e2, ⟨⟨ad', had, had0, hv, hP', hD'⟩, hz, hk⟩, st⟩ := hr T hT X
  have hv' : v0 = v.map (a_cv ad') := by injection hv
  subst hv'
  rw [h0] at hz hk
  obtain ⟨t2, a1, b1⟩ := kk ad' T'.heap (locs ++ L) had had0 (by rw [e1]; exact hP') (hD'.weaken (fun _ _ _ h => hF _ h))
    ⟨Nat.le_trans hS.1 (by rw [e1]; exact hz), fun q h1 h2 => by rw [e1, hk q (Nat.lt_of_lt_of_le h1 hS.1) (fun z => h2 (hF q z))]; exact hS.2.1 q h1 h2, fun q hq => by
      rcases List.mem_append.mp hq with h | h
      · exact hS.2.2 q h
      · exact hF _ (hL q h)⟩ T' rfl X'
  exact ⟨t2, st t2 a1, b1⟩
theorem a_blind (av : List Value) (D : va_G) (kA : Nat → ClassId) (ad : Nat → Nat) (sz : Nat) (S : aSt) : FrameBlind (va_Pc av (a_Pc D kA ad sz S)) := by
  intro a U g mk q
  obtain ⟨q0, q1, qP, qK, qD, qS⟩ := q
  exact ⟨q0, q1, qP, va_K.moved (u := U) (U := U.calling g mk a) (Vm.Alike.refl U.vm) qK, qD, qS.moved (u := U) (U := U.calling g mk a) (Vm.Alike.refl U.vm)⟩
theorem a_wA {kA : Nat → ClassId} {ad : Nat → Nat} {S : aSt} {A : Nat → Prop} {H0 H : Heap} {locs : List Loc} (hD : va_D A (a_wl kA ad S)) (hS : va_S A H0 H locs) (hA : ∀ q, H0.size ≤ q → A q) : ∀ q, va_A (a_wl kA ad S) H.size q → A q := by
  intro q h
  rcases h with ⟨k, e, h⟩ | h
  · exact hD.2 k (q, e) h
  · exact hA q (Nat.le_trans hS.1 h)
theorem a_pre {kA : Nat → ClassId} {ad : Nat → Nat} {S : aSt} {A : Nat → Prop} {D : va_G} {s : State} {H : Heap} {locs : List Loc} (av : List Value) (hK : va_K D vwCl (a_tys kA) s) (hSx : a_Sx ad A s s.heap) (hA : ∀ q, s.heap.size ≤ q → A q) (hP : va_P D vwCl (a_wl kA ad S) H) (hD : va_D A (a_wl kA ad S)) (hS : va_S A s.heap H locs) :
    ∀ U : State, U.heap = H → s.WarmedH U.vm → va_Pc av (a_Pc D kA ad H.size S) av.toArray U := fun U hU hW =>
  ⟨rfl, by rw [hU], by rw [hU]; exact hP, va_K.moved hW.alike hK, hD.weaken (fun _ _ _ _ => trivial), by
    rw [hU]
    exact ((hSx.kept hS.2.1).narrow (a_wA hD hS hA)).moved hW.alike⟩
theorem a_goodS {w : Cond} {ws : List Cond} (h : ∀ x ∈ ws, x ∈ a_tbl) : GoodIn a_tbl ws := fun x hx => ⟨h x hx, good_of_word (a_good (h x hx))⟩
theorem a_goodV {own : String} {idx : Nat} {Cn : String} {y : MethodName} {cw : Cond} (h1 : Cond.methodLink own idx y ∈ a_tbl) (h2 : Cond.instanceMethod y ∈ a_tbl) (h3 : Cond.selects Cn y y ∈ a_tbl) (h4 : Cond.initialized Cn ∈ a_tbl) (h5 : cw ∈ a_tbl) : GoodIn a_tbl (wsV own idx Cn y (cw :: a_tbl)) := by
  refine a_goodS (w := cw) (fun x hx => ?_)
  unfold wsV at hx
  simp only [List.cons_append, List.nil_append, List.mem_cons] at hx
  rcases hx with rfl | rfl | rfl | rfl | rfl | hx
  · exact h1
  · exact h2
  · exact h3
  · exact h4
  · exact h5
  · exact hx
theorem a_goodT {own : String} {idx : Nat} {y : MethodName} {cw : Cond} (h1 : Cond.methodLink own idx y ∈ a_tbl) (h2 : Cond.static y ∈ a_tbl) (h4 : Cond.initialized y.cls ∈ a_tbl) (h5 : cw ∈ a_tbl) : GoodIn a_tbl (va_wsS own idx y (cw :: a_tbl)) := by
  refine a_goodS (w := cw) (fun x hx => ?_)
  unfold va_wsS at hx
  simp only [List.cons_append, List.nil_append, List.mem_cons] at hx
  rcases hx with rfl | rfl | rfl | rfl | hx
  · exact h1
  · exact h2
  · exact h4
  · exact h5
  · exact hx
section JC
variable {mi mj : aMi} {res : aRes} {ck sk pc : Nat} {L : List (Nat × Value)} {st rest as : List Value} {C C' : aSc} {M M' : aMm} {S S' : aSt} {y : MethodName} {v : Option Value}
theorem a_app (ad : Nat → Nat) (v : Option Value) (rest : List Value) : (v.map (a_cv ad)).toList ++ rest.map (a_cv ad) = (v.toList ++ rest).map (a_cv ad) := by cases v <;> rfl
theorem J_callV {b k n idx : Nat} {q : vw_C} (hC : Ct mj y (.ref b :: as) S (v, S')) (h0 : mj.2.2.2.2.cells = 0 ∧ mj.2.2.2.2.slots = 0) (hst : st = as.reverse ++ .ref b :: rest) (hk : a_kd b = k) (hk9 : k < 9) (hcl : vwCl[k]? = some q)
    (hG : GoodIn a_tbl (wsV mi.2.2.1 idx q.1 y (Cond.code y mj.1 mj.2.1 mj.2.2.2.1 :: a_tbl))) (hd : y.cls = q.1 ∧ y.cls ≠ "java/lang/invoke/MethodHandle" ∧ y.cls ≠ "java/lang/invoke/VarHandle" ∧ (parseMethodDescriptor y.desc).map (fun d => d.parameters.length) = some n) (hn : as.length = n)
    (hR : mj.2.2.2.2.frames + 1 ≤ mi.2.2.2.2.frames ∧ 8 + (mj.2.1 + 11) + mj.2.2.2.2.locals ≤ mi.2.2.2.2.locals) (hsum : (rest.map fun v => v.category).sum ≤ 8) (hcs : ck ≤ mi.2.2.2.2.cells ∧ sk ≤ mi.2.2.2.2.slots) (d : decode mi.1 pc = .ok (.invokevirtual idx, 3))
    (K : J mi res ck sk (pc + 3) L (v.toList ++ rest) S') : J mi res ck sk pc L st S := by
  intro p l e s m args below meth cd D kA ad A H locs ls ad0 X ha1 ha2 hl hP hD hS
  have hb : b < 104 := a_lt hk (by omega)
  have he := a_wl_at (kA := kA) (ad := ad) (S := S) (c := b) hb
  rw [a_mk_o hk hk9] at he
  obtain ⟨hx, hbc, hml, hown, hts, hrt, hlk, hKK, hA, hSx⟩ := id X
  have hF := a_wA hD hS hA
  have hM := hC l D kA ad H.size
  rw [h0.1, h0.2] at hM
  refine a_go (mc := 0) (ms := 0) (va_runV (As := as.map (a_cv ad)) (rest := rest.map (a_cv ad)) (b := ad b) ⟨hx, hbc, hml, hown, hts⟩ hM (cwV n hts hG rfl h0.1 h0.2 hd hR) ⟨a_blind _ _ _ _ _ _, va_recv hKK hP hcl he, a_pre _ hKK hSx hA hP hD hS⟩ rfl (by rw [List.length_map]; exact hn) hl.1 (by rw [hst]; simp [a_cv]) (lv_room (by rw [a_cats]; exact hsum)) d ⟨hcs.1, hcs.2⟩) hS hF ?_
  intro ad' H1 locs1 h1 h2 hP1 hD1 hS1
  have hh := h2 rfl
  subst hh
  rw [a_app]
  exact K p l e s m args below meth cd D kA ad' A H1 locs1 ls ad0 X ha1 ha2 hl hP1 hD1 hS1
theorem J_callS {n idx : Nat} (hC : Ct mj y as S (v, S')) (h0 : mj.2.2.2.2.cells = 0 ∧ mj.2.2.2.2.slots = 0) (hst : st = as.reverse ++ rest)
    (hG : GoodIn a_tbl (va_wsS mi.2.2.1 idx y (Cond.code y mj.1 mj.2.1 mj.2.2.2.1 :: a_tbl))) (hd : y.cls ≠ "java/lang/invoke/MethodHandle" ∧ y.cls ≠ "java/lang/invoke/VarHandle" ∧ (parseMethodDescriptor y.desc).map (fun d => d.parameters.length) = some n) (hn : as.length = n)
    (hR : mj.2.2.2.2.frames + 1 ≤ mi.2.2.2.2.frames ∧ 8 + (mj.2.1 + 11) + mj.2.2.2.2.locals ≤ mi.2.2.2.2.locals) (hsum : (rest.map fun v => v.category).sum ≤ 8) (hcs : ck ≤ mi.2.2.2.2.cells ∧ sk ≤ mi.2.2.2.2.slots) (d : decode mi.1 pc = .ok (.invokestatic idx, 3))
    (K : J mi res ck sk (pc + 3) L (v.toList ++ rest) S') : J mi res ck sk pc L st S := by
  intro p l e s m args below meth cd D kA ad A H locs ls ad0 X ha1 ha2 hl hP hD hS
  obtain ⟨hx, hbc, hml, hown, hts, hrt, hlk, hKK, hA, hSx⟩ := id X
  have hF := a_wA hD hS hA
  have hM := hC l D kA ad H.size
  rw [h0.1, h0.2] at hM
  refine a_go (mc := 0) (ms := 0) (va_runS (As := as.map (a_cv ad)) (rest := rest.map (a_cv ad)) ⟨hx, hbc, hml, hown, hts⟩ hM (va_cwS n hts hG rfl h0.1 h0.2 hd hR) ⟨a_blind _ _ _ _ _ _, a_pre _ hKK hSx hA hP hD hS⟩ rfl (by rw [List.length_map]; exact hn) hl.1 (by rw [hst]; simp [a_cv]) (lv_room (by rw [a_cats]; exact hsum)) d ⟨hcs.1, hcs.2⟩) hS hF ?_
  intro ad' H1 locs1 h1 h2 hP1 hD1 hS1
  have hh := h2 rfl
  subst hh
  rw [a_app]
  exact K p l e s m args below meth cd D kA ad' A H1 locs1 ls ad0 X ha1 ha2 hl hP1 hD1 hS1
theorem J_mmax {idx : Nat} {x z : Int32} (hw : Cond.methodLink mi.2.2.1 idx Lib.Math.max.name ∈ a_tbl) (hs : Cond.static Lib.Math.max.name ∈ a_tbl) (hi : Cond.initialized "java/lang/Math" ∈ a_tbl) (hc : Cond.code Lib.Math.max.name Lib.Math.max.code 2 (some .int) ∈ a_tbl) (hfr : 1 ≤ mi.2.2.2.2.frames) (hsum : (st.map fun v => v.category).sum + 13 ≤ mi.2.2.2.2.locals) (hcs : ck ≤ mi.2.2.2.2.cells ∧ sk ≤ mi.2.2.2.2.slots) (d : decode mi.1 pc = .ok (.invokestatic idx, 3)) (K : J mi res ck sk (pc + 3) L (.int (a_max x z) :: st) S) : J mi res ck sk pc L (.int z :: .int x :: st) S := by
  intro p l e s m args below meth cd D kA ad A H locs ls ad0 X ha1 ha2 hl hP hD hS
  obtain ⟨hx, hbc, hml, hown, hts, hrt, hlk, hKK, hA, hSx⟩ := id X
  exact va_mmax hx hbc (hml.trans hl.1.symm) hown (hts _ hw) (hts _ hs) (hts _ hi) (hts _ hc) hfr (by rw [a_cats]; exact hsum) hcs.1 hcs.2 d (K p l e s m args below meth cd D kA ad A H locs ls ad0 X ha1 ha2 hl hP hD hS)
theorem J_mmin {idx : Nat} {x z : Int32} (hw : Cond.methodLink mi.2.2.1 idx Lib.Math.min.name ∈ a_tbl) (hs : Cond.static Lib.Math.min.name ∈ a_tbl) (hi : Cond.initialized "java/lang/Math" ∈ a_tbl) (hc : Cond.code Lib.Math.min.name Lib.Math.min.code 2 (some .int) ∈ a_tbl) (hfr : 1 ≤ mi.2.2.2.2.frames) (hsum : (st.map fun v => v.category).sum + 13 ≤ mi.2.2.2.2.locals) (hcs : ck ≤ mi.2.2.2.2.cells ∧ sk ≤ mi.2.2.2.2.slots) (d : decode mi.1 pc = .ok (.invokestatic idx, 3)) (K : J mi res ck sk (pc + 3) L (.int (a_min x z) :: st) S) : J mi res ck sk pc L (.int z :: .int x :: st) S := by
  intro p l e s m args below meth cd D kA ad A H locs ls ad0 X ha1 ha2 hl hP hD hS
  obtain ⟨hx, hbc, hml, hown, hts, hrt, hlk, hKK, hA, hSx⟩ := id X
  exact va_mmin hx hbc (hml.trans hl.1.symm) hown (hts _ hw) (hts _ hs) (hts _ hi) (hts _ hc) hfr (by rw [a_cats]; exact hsum) hcs.1 hcs.2 d (K p l e s m args below meth cd D kA ad A H locs ls ad0 X ha1 ha2 hl hP hD hS)
/-- System.arraycopy between int arrays of the class -/
def a_cpr (C : aSc) (c0 sp c1 dp n : Nat) : aSc := ((fun q => if q = c1 then va_cpy (C.1 c0) (C.1 c1) sp dp n else C.1 q), C.2)
def a_cpy (C : aSc) (c0 : Nat) (sp : Int32) (c1 : Nat) (dp n : Int32) : Option aSc :=
  if ¬ sp < 0 ∧ ¬ dp < 0 ∧ ¬ n < 0 ∧ sp.toNatClampNeg + n.toNatClampNeg ≤ a_len c0 (C.2.2 c0) ∧ dp.toNatClampNeg + n.toNatClampNeg ≤ a_len c1 (C.2.2 c1) then some (a_cpr C c0 sp.toNatClampNeg c1 dp.toNatClampNeg n.toNatClampNeg) else none
theorem J_copy {idx c0 c1 : Nat} {sp dp n : Int32} (hw : Cond.methodLink mi.2.2.1 idx arraycopyName ∈ a_tbl) (h1 : Cond.native arraycopyName ∈ a_tbl) (h2 : Cond.static arraycopyName ∈ a_tbl) (h3 : Cond.initialized "java/lang/System" ∈ a_tbl) (hk0 : a_kd c0 = 10) (hc0 : c0 < 94) (hk1 : a_kd c1 = 10) (hc1 : c1 < 94) (hv : a_cpy C c0 sp c1 dp n = some C') (hfr : 1 ≤ mi.2.2.2.2.frames) (hsum : (st.map fun v => v.category).sum + (nativeFrameWords "java/lang/System" "arraycopy" 5 + 11) ≤ mi.2.2.2.2.locals) (d : decode mi.1 pc = .ok (.invokestatic idx, 3)) (K : J mi res ck sk (pc + 3) L st (C', M)) : J mi res ck sk pc L (.int n :: .int dp :: .ref c1 :: .int sp :: .ref c0 :: st) (C, M) := by
  intro p l e s m args below meth cd D kA ad A H locs ls ad0 X ha1 ha2 hl hP hD hS
  obtain ⟨hx, hbc, hml, hown, hts, hrt, hlk, hKK, hA, hSx⟩ := id X
  have he0 := a_wl_at (kA := kA) (ad := ad) (S := (C, M)) (c := c0) (by omega)
  have he1 := a_wl_at (kA := kA) (ad := ad) (S := (C, M)) (c := c1) (by omega)
  rw [a_mk_i hk0, a_rowC hc0] at he0
  rw [a_mk_i hk1, a_rowC hc1] at he1
  obtain ⟨⟨g1, g2, g3, g4, g5⟩, hv⟩ := br_g hv
  cases hv
  refine va_copyi (ty := .int) hx hbc (hml.trans hl.1.symm) hown (hts _ hw) (hts _ h1) (hts _ h2) (hts _ h3) hKK hP hD hS c0 c1 0 0 he0 he1 rfl rfl rfl g1 g2 g3 g4 g5 (fun i _ => rfl) hfr (by rw [a_cats]; exact hsum) d ?_
  intro H1 locs1 hP1 hD1 hS2
  have hset : (a_wl kA ad (C, M)).set c1 (ad c1, .inl (kA 0, a_len c1 (C.2.2 c1), .inl (va_cpy (C.1 c0) (C.1 c1) sp.toNatClampNeg dp.toNatClampNeg n.toNatClampNeg))) = a_wl kA ad (a_cpr C c0 sp.toNatClampNeg c1 dp.toNatClampNeg n.toNatClampNeg, M) := a_wl_set (by rw [a_mk_i hk1, a_rowC hc1]; simp [a_cpr]) (fun q hq => by simp [a_row, a_cpr, hq])
  have hP2 := hset ▸ hP1
  have hD2 := hset ▸ hD1
  exact K p l e s m args below meth cd D kA ad A H1 locs1 ls ad0 X ha1 ha2 hl hP2 hD2 hS2
/-! switches -/
def a_tsw (dflt lo hi : Int) (offs : Array Int) (x : Int) : Int := if x < lo ∨ hi < x then dflt else (offs[(x - lo).toNat]?).getD dflt
theorem J_tsw {dflt lo hi : Int} {offs : Array Int} {len : Nat} {x : Int32} (tgt : Nat) (d : decode mi.1 pc = .ok (.tableswitch dflt lo hi offs, len)) (hlen : (hi - lo).toNat < offs.size) (ht : (pc : Int) + a_tsw dflt lo hi offs x.toInt = (tgt : Int)) (K : J mi res ck sk tgt L st S) : J mi res ck sk pc L (.int x :: st) S := by
  intro p l e s m args below meth cd D kA ad A H locs ls ad0 X ha1 ha2 hl hP hD hS
  unfold a_tsw at ht
  by_cases h : x.toInt < lo ∨ hi < x.toInt
  · rw [if_pos h] at ht
    exact lv_tableOut X.1 X.2.1 d h ht (K p l e s m args below meth cd D kA ad A H locs ls ad0 X ha1 ha2 hl hP hD hS)
  · rw [if_neg h] at ht
    have hl2 : (x.toInt - lo).toNat < offs.size := by omega
    obtain ⟨off, ho⟩ : ∃ off, offs[(x.toInt - lo).toNat]? = some off := ⟨_, Array.getElem?_eq_getElem hl2⟩
    rw [ho] at ht
    exact lv_tableIn X.1 X.2.1 d (fun q => h (Or.inl q)) (fun q => h (Or.inr q)) ho ht (K p l e s m args below meth cd D kA ad A H locs ls ad0 X ha1 ha2 hl hP hD hS)
theorem J_lsw {dflt : Int} {ps : Array (Int × Int)} {len : Nat} {x : Int32} (tgt : Nat) (d : decode mi.1 pc = .ok (.lookupswitch dflt ps, len)) (hp : (ps.toList.zip (ps.toList.drop 1)).all (fun (a, next) => a.1 < next.1) = true) (ht : (pc : Int) + Op.lookupswitch.offset ps.toList dflt x.toInt = (tgt : Int)) (K : J mi res ck sk tgt L st S) : J mi res ck sk pc L (.int x :: st) S := by
  intro p l e s m args below meth cd D kA ad A H locs ls ad0 X ha1 ha2 hl hP hD hS
  exact lv_lookup X.1 X.2.1 d hp rfl ht (K p l e s m args below meth cd D kA ad A H locs ls ad0 X ha1 ha2 hl hP hD hS)
end JC
end
