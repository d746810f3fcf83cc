-- ===== PART A: goes FIRST, ahead of the names: the tables' words, and 'selects' of the private methods out of them =====
/-- a private method of a class that the tables say can be made, by its rows of tables_1 -/
def lw_okq (q : MethodName × Nat) : Prop := (q.1.cls ≠ "java/lang/invoke/MethodHandle" ∧ q.1.cls ≠ "java/lang/invoke/VarHandle") ∧ Cond.instantiable q.1.cls q.2 ∈ tables_1 ∧ Cond.privateMethod q.1 ∈ tables_1 ∧ Cond.instanceMethod q.1 ∈ tables_1
theorem lw_p0 : lw_okq (⟨"EvenVoyage$Text", "takesToken", "(LEvenVoyage$Ship;I)Z"⟩, 8) := ⟨⟨by decide +kernel, by decide +kernel⟩, List.mem_of_getElem? (i := 78) (by decide +kernel), List.mem_of_getElem? (i := 231) (by decide +kernel), List.mem_of_getElem? (i := 232) (by decide +kernel)⟩
theorem lw_p1 : lw_okq (⟨"EvenVoyage$Text", "beginsItem", "(LEvenVoyage$Ship;I)Z"⟩, 8) := ⟨⟨by decide +kernel, by decide +kernel⟩, List.mem_of_getElem? (i := 78) (by decide +kernel), List.mem_of_getElem? (i := 235) (by decide +kernel), List.mem_of_getElem? (i := 236) (by decide +kernel)⟩
theorem lw_p2 : lw_okq (⟨"EvenVoyage$Text", "numbersOfItem", "()I"⟩, 8) := ⟨⟨by decide +kernel, by decide +kernel⟩, List.mem_of_getElem? (i := 78) (by decide +kernel), List.mem_of_getElem? (i := 243) (by decide +kernel), List.mem_of_getElem? (i := 244) (by decide +kernel)⟩
theorem lw_p3 : lw_okq (⟨"EvenVoyage$Text", "numberAt", "(I)I"⟩, 8) := ⟨⟨by decide +kernel, by decide +kernel⟩, List.mem_of_getElem? (i := 78) (by decide +kernel), List.mem_of_getElem? (i := 250) (by decide +kernel), List.mem_of_getElem? (i := 251) (by decide +kernel)⟩
theorem lw_p4 : lw_okq (⟨"EvenVoyage$Text", "tokenEnd", "(I)I"⟩, 8) := ⟨⟨by decide +kernel, by decide +kernel⟩, List.mem_of_getElem? (i := 78) (by decide +kernel), List.mem_of_getElem? (i := 254) (by decide +kernel), List.mem_of_getElem? (i := 255) (by decide +kernel)⟩
theorem lw_p5 : lw_okq (⟨"EvenVoyage$Text", "takesNumber", "(I)Z"⟩, 8) := ⟨⟨by decide +kernel, by decide +kernel⟩, List.mem_of_getElem? (i := 78) (by decide +kernel), List.mem_of_getElem? (i := 261) (by decide +kernel), List.mem_of_getElem? (i := 262) (by decide +kernel)⟩
theorem lw_p6 : lw_okq (⟨"EvenVoyage$Text", "least", "()I"⟩, 8) := ⟨⟨by decide +kernel, by decide +kernel⟩, List.mem_of_getElem? (i := 78) (by decide +kernel), List.mem_of_getElem? (i := 265) (by decide +kernel), List.mem_of_getElem? (i := 266) (by decide +kernel)⟩
theorem lw_p7 : lw_okq (⟨"EvenVoyage$Text", "greatest", "()I"⟩, 8) := ⟨⟨by decide +kernel, by decide +kernel⟩, List.mem_of_getElem? (i := 78) (by decide +kernel), List.mem_of_getElem? (i := 271) (by decide +kernel), List.mem_of_getElem? (i := 272) (by decide +kernel)⟩
theorem lw_p8 : lw_okq (⟨"EvenVoyage$Text", "endItem", "(LEvenVoyage$Ship;)V"⟩, 8) := ⟨⟨by decide +kernel, by decide +kernel⟩, List.mem_of_getElem? (i := 78) (by decide +kernel), List.mem_of_getElem? (i := 277) (by decide +kernel), List.mem_of_getElem? (i := 278) (by decide +kernel)⟩
theorem lw_p9 : lw_okq (⟨"EvenVoyage", "drawnPlan", "(I)LEvenVoyage$Plan;"⟩, 12) := ⟨⟨by decide +kernel, by decide +kernel⟩, List.mem_of_getElem? (i := 13) (by decide +kernel), List.mem_of_getElem? (i := 310) (by decide +kernel), List.mem_of_getElem? (i := 311) (by decide +kernel)⟩
theorem lw_p10 : lw_okq (⟨"EvenVoyage$Plan", "layPorts", "(LEvenVoyage$Ship;)V"⟩, 14) := ⟨⟨by decide +kernel, by decide +kernel⟩, List.mem_of_getElem? (i := 112) (by decide +kernel), List.mem_of_getElem? (i := 323) (by decide +kernel), List.mem_of_getElem? (i := 324) (by decide +kernel)⟩
theorem lw_p11 : lw_okq (⟨"EvenVoyage$Plan", "splitStretches", "()V"⟩, 14) := ⟨⟨by decide +kernel, by decide +kernel⟩, List.mem_of_getElem? (i := 112) (by decide +kernel), List.mem_of_getElem? (i := 331) (by decide +kernel), List.mem_of_getElem? (i := 332) (by decide +kernel)⟩
theorem lw_p12 : lw_okq (⟨"EvenVoyage$Plan", "nextEnd", "(I)I"⟩, 14) := ⟨⟨by decide +kernel, by decide +kernel⟩, List.mem_of_getElem? (i := 112) (by decide +kernel), List.mem_of_getElem? (i := 335) (by decide +kernel), List.mem_of_getElem? (i := 336) (by decide +kernel)⟩
theorem lw_p13 : lw_okq (⟨"EvenVoyage$Plan", "mostMissed", "(II)I"⟩, 14) := ⟨⟨by decide +kernel, by decide +kernel⟩, List.mem_of_getElem? (i := 112) (by decide +kernel), List.mem_of_getElem? (i := 339) (by decide +kernel), List.mem_of_getElem? (i := 340) (by decide +kernel)⟩
theorem lw_p14 : lw_okq (⟨"EvenVoyage$Plan", "missAt", "(III)I"⟩, 14) := ⟨⟨by decide +kernel, by decide +kernel⟩, List.mem_of_getElem? (i := 112) (by decide +kernel), List.mem_of_getElem? (i := 343) (by decide +kernel), List.mem_of_getElem? (i := 344) (by decide +kernel)⟩
theorem lw_p15 : lw_okq (⟨"EvenVoyage$Plan", "evenHour", "(III)I"⟩, 14) := ⟨⟨by decide +kernel, by decide +kernel⟩, List.mem_of_getElem? (i := 112) (by decide +kernel), List.mem_of_getElem? (i := 347) (by decide +kernel), List.mem_of_getElem? (i := 348) (by decide +kernel)⟩
def lw_privs_1 : List (MethodName × Nat) := [(⟨"EvenVoyage$Text", "takesToken", "(LEvenVoyage$Ship;I)Z"⟩, 8), (⟨"EvenVoyage$Text", "beginsItem", "(LEvenVoyage$Ship;I)Z"⟩, 8), (⟨"EvenVoyage$Text", "numbersOfItem", "()I"⟩, 8), (⟨"EvenVoyage$Text", "numberAt", "(I)I"⟩, 8), (⟨"EvenVoyage$Text", "tokenEnd", "(I)I"⟩, 8), (⟨"EvenVoyage$Text", "takesNumber", "(I)Z"⟩, 8), (⟨"EvenVoyage$Text", "least", "()I"⟩, 8), (⟨"EvenVoyage$Text", "greatest", "()I"⟩, 8), (⟨"EvenVoyage$Text", "endItem", "(LEvenVoyage$Ship;)V"⟩, 8), (⟨"EvenVoyage", "drawnPlan", "(I)LEvenVoyage$Plan;"⟩, 12), (⟨"EvenVoyage$Plan", "layPorts", "(LEvenVoyage$Ship;)V"⟩, 14), (⟨"EvenVoyage$Plan", "splitStretches", "()V"⟩, 14), (⟨"EvenVoyage$Plan", "nextEnd", "(I)I"⟩, 14), (⟨"EvenVoyage$Plan", "mostMissed", "(II)I"⟩, 14), (⟨"EvenVoyage$Plan", "missAt", "(III)I"⟩, 14), (⟨"EvenVoyage$Plan", "evenHour", "(III)I"⟩, 14)]
theorem lw_r1 : ∀ q ∈ lw_privs_1, lw_okq q := List.forall_mem_cons.mpr ⟨lw_p0, List.forall_mem_cons.mpr ⟨lw_p1, List.forall_mem_cons.mpr ⟨lw_p2, List.forall_mem_cons.mpr ⟨lw_p3, List.forall_mem_cons.mpr ⟨lw_p4, List.forall_mem_cons.mpr ⟨lw_p5, List.forall_mem_cons.mpr ⟨lw_p6, List.forall_mem_cons.mpr ⟨lw_p7, List.forall_mem_cons.mpr ⟨lw_p8, List.forall_mem_cons.mpr ⟨lw_p9, List.forall_mem_cons.mpr ⟨lw_p10, List.forall_mem_cons.mpr ⟨lw_p11, List.forall_mem_cons.mpr ⟨lw_p12, List.forall_mem_cons.mpr ⟨lw_p13, List.forall_mem_cons.mpr ⟨lw_p14, List.forall_mem_cons.mpr ⟨lw_p15, fun _ h => absurd h List.not_mem_nil⟩⟩⟩⟩⟩⟩⟩⟩⟩⟩⟩⟩⟩⟩⟩⟩
theorem lw_p16 : lw_okq (⟨"EvenVoyage$Plan", "measureStretches", "()V"⟩, 14) := ⟨⟨by decide +kernel, by decide +kernel⟩, List.mem_of_getElem? (i := 112) (by decide +kernel), List.mem_of_getElem? (i := 354) (by decide +kernel), List.mem_of_getElem? (i := 355) (by decide +kernel)⟩
theorem lw_p17 : lw_okq (⟨"EvenVoyage$Plan", "isNoLeg", "(I)Z"⟩, 14) := ⟨⟨by decide +kernel, by decide +kernel⟩, List.mem_of_getElem? (i := 112) (by decide +kernel), List.mem_of_getElem? (i := 375) (by decide +kernel), List.mem_of_getElem? (i := 376) (by decide +kernel)⟩
theorem lw_p18 : lw_okq (⟨"EvenVoyage$Plan", "milesOfLeg", "(I)I"⟩, 14) := ⟨⟨by decide +kernel, by decide +kernel⟩, List.mem_of_getElem? (i := 112) (by decide +kernel), List.mem_of_getElem? (i := 400) (by decide +kernel), List.mem_of_getElem? (i := 401) (by decide +kernel)⟩
theorem lw_p19 : lw_okq (⟨"EvenVoyage", "drawEased", "(LEvenVoyage$Ship;II)V"⟩, 12) := ⟨⟨by decide +kernel, by decide +kernel⟩, List.mem_of_getElem? (i := 13) (by decide +kernel), List.mem_of_getElem? (i := 508) (by decide +kernel), List.mem_of_getElem? (i := 509) (by decide +kernel)⟩
theorem lw_p20 : lw_okq (⟨"EvenVoyage$Plan", "sailedOnLeg", "(II)I"⟩, 14) := ⟨⟨by decide +kernel, by decide +kernel⟩, List.mem_of_getElem? (i := 112) (by decide +kernel), List.mem_of_getElem? (i := 521) (by decide +kernel), List.mem_of_getElem? (i := 522) (by decide +kernel)⟩
theorem lw_p21 : lw_okq (⟨"EvenVoyage", "drawAllPlans", "()V"⟩, 12) := ⟨⟨by decide +kernel, by decide +kernel⟩, List.mem_of_getElem? (i := 13) (by decide +kernel), List.mem_of_getElem? (i := 537) (by decide +kernel), List.mem_of_getElem? (i := 538) (by decide +kernel)⟩
theorem lw_p22 : lw_okq (⟨"EvenVoyage", "suspects", "()I"⟩, 12) := ⟨⟨by decide +kernel, by decide +kernel⟩, List.mem_of_getElem? (i := 13) (by decide +kernel), List.mem_of_getElem? (i := 541) (by decide +kernel), List.mem_of_getElem? (i := 542) (by decide +kernel)⟩
theorem lw_p23 : lw_okq (⟨"EvenVoyage", "agrees", "(LEvenVoyage$Plan;)Z"⟩, 12) := ⟨⟨by decide +kernel, by decide +kernel⟩, List.mem_of_getElem? (i := 13) (by decide +kernel), List.mem_of_getElem? (i := 545) (by decide +kernel), List.mem_of_getElem? (i := 546) (by decide +kernel)⟩
theorem lw_p24 : lw_okq (⟨"EvenVoyage", "mostAlike", "(II)I"⟩, 12) := ⟨⟨by decide +kernel, by decide +kernel⟩, List.mem_of_getElem? (i := 13) (by decide +kernel), List.mem_of_getElem? (i := 559) (by decide +kernel), List.mem_of_getElem? (i := 560) (by decide +kernel)⟩
theorem lw_p25 : lw_okq (⟨"EvenVoyageModel", "reads", "()I"⟩, 25) := ⟨⟨by decide +kernel, by decide +kernel⟩, List.mem_of_getElem? (i := 586) (by decide +kernel), List.mem_of_getElem? (i := 694) (by decide +kernel), List.mem_of_getElem? (i := 695) (by decide +kernel)⟩
theorem lw_p26 : lw_okq (⟨"EvenVoyageModel", "blanks", "()V"⟩, 25) := ⟨⟨by decide +kernel, by decide +kernel⟩, List.mem_of_getElem? (i := 586) (by decide +kernel), List.mem_of_getElem? (i := 698) (by decide +kernel), List.mem_of_getElem? (i := 699) (by decide +kernel)⟩
theorem lw_p27 : lw_okq (⟨"EvenVoyageModel", "takesLeg", "()Z"⟩, 25) := ⟨⟨by decide +kernel, by decide +kernel⟩, List.mem_of_getElem? (i := 586) (by decide +kernel), List.mem_of_getElem? (i := 702) (by decide +kernel), List.mem_of_getElem? (i := 703) (by decide +kernel)⟩
theorem lw_p28 : lw_okq (⟨"EvenVoyageModel", "takesNumber", "(II)Z"⟩, 25) := ⟨⟨by decide +kernel, by decide +kernel⟩, List.mem_of_getElem? (i := 586) (by decide +kernel), List.mem_of_getElem? (i := 709) (by decide +kernel), List.mem_of_getElem? (i := 710) (by decide +kernel)⟩
theorem lw_p29 : lw_okq (⟨"EvenVoyageModel", "isAt", "(II)Z"⟩, 25) := ⟨⟨by decide +kernel, by decide +kernel⟩, List.mem_of_getElem? (i := 586) (by decide +kernel), List.mem_of_getElem? (i := 713) (by decide +kernel), List.mem_of_getElem? (i := 714) (by decide +kernel)⟩
theorem lw_p30 : lw_okq (⟨"EvenVoyageModel", "takesStop", "()Z"⟩, 25) := ⟨⟨by decide +kernel, by decide +kernel⟩, List.mem_of_getElem? (i := 586) (by decide +kernel), List.mem_of_getElem? (i := 717) (by decide +kernel), List.mem_of_getElem? (i := 718) (by decide +kernel)⟩
theorem lw_p31 : lw_okq (⟨"EvenVoyageModel", "takesFastest", "()Z"⟩, 25) := ⟨⟨by decide +kernel, by decide +kernel⟩, List.mem_of_getElem? (i := 586) (by decide +kernel), List.mem_of_getElem? (i := 721) (by decide +kernel), List.mem_of_getElem? (i := 722) (by decide +kernel)⟩
def lw_privs_2 : List (MethodName × Nat) := [(⟨"EvenVoyage$Plan", "measureStretches", "()V"⟩, 14), (⟨"EvenVoyage$Plan", "isNoLeg", "(I)Z"⟩, 14), (⟨"EvenVoyage$Plan", "milesOfLeg", "(I)I"⟩, 14), (⟨"EvenVoyage", "drawEased", "(LEvenVoyage$Ship;II)V"⟩, 12), (⟨"EvenVoyage$Plan", "sailedOnLeg", "(II)I"⟩, 14), (⟨"EvenVoyage", "drawAllPlans", "()V"⟩, 12), (⟨"EvenVoyage", "suspects", "()I"⟩, 12), (⟨"EvenVoyage", "agrees", "(LEvenVoyage$Plan;)Z"⟩, 12), (⟨"EvenVoyage", "mostAlike", "(II)I"⟩, 12), (⟨"EvenVoyageModel", "reads", "()I"⟩, 25), (⟨"EvenVoyageModel", "blanks", "()V"⟩, 25), (⟨"EvenVoyageModel", "takesLeg", "()Z"⟩, 25), (⟨"EvenVoyageModel", "takesNumber", "(II)Z"⟩, 25), (⟨"EvenVoyageModel", "isAt", "(II)Z"⟩, 25), (⟨"EvenVoyageModel", "takesStop", "()Z"⟩, 25), (⟨"EvenVoyageModel", "takesFastest", "()Z"⟩, 25)]
theorem lw_r2 : ∀ q ∈ lw_privs_2, lw_okq q := List.forall_mem_cons.mpr ⟨lw_p16, List.forall_mem_cons.mpr ⟨lw_p17, List.forall_mem_cons.mpr ⟨lw_p18, List.forall_mem_cons.mpr ⟨lw_p19, List.forall_mem_cons.mpr ⟨lw_p20, List.forall_mem_cons.mpr ⟨lw_p21, List.forall_mem_cons.mpr ⟨lw_p22, List.forall_mem_cons.mpr ⟨lw_p23, List.forall_mem_cons.mpr ⟨lw_p24, List.forall_mem_cons.mpr ⟨lw_p25, List.forall_mem_cons.mpr ⟨lw_p26, List.forall_mem_cons.mpr ⟨lw_p27, List.forall_mem_cons.mpr ⟨lw_p28, List.forall_mem_cons.mpr ⟨lw_p29, List.forall_mem_cons.mpr ⟨lw_p30, List.forall_mem_cons.mpr ⟨lw_p31, fun _ h => absurd h List.not_mem_nil⟩⟩⟩⟩⟩⟩⟩⟩⟩⟩⟩⟩⟩⟩⟩⟩
theorem lw_p32 : lw_okq (⟨"EvenVoyageModel", "takesTable", "()Z"⟩, 25) := ⟨⟨by decide +kernel, by decide +kernel⟩, List.mem_of_getElem? (i := 586) (by decide +kernel), List.mem_of_getElem? (i := 725) (by decide +kernel), List.mem_of_getElem? (i := 726) (by decide +kernel)⟩
theorem lw_p33 : lw_okq (⟨"EvenVoyageModel", "remembers", "()V"⟩, 25) := ⟨⟨by decide +kernel, by decide +kernel⟩, List.mem_of_getElem? (i := 586) (by decide +kernel), List.mem_of_getElem? (i := 729) (by decide +kernel), List.mem_of_getElem? (i := 730) (by decide +kernel)⟩
theorem lw_p34 : lw_okq (⟨"EvenVoyageModel", "plans", "(I)Z"⟩, 25) := ⟨⟨by decide +kernel, by decide +kernel⟩, List.mem_of_getElem? (i := 586) (by decide +kernel), List.mem_of_getElem? (i := 737) (by decide +kernel), List.mem_of_getElem? (i := 738) (by decide +kernel)⟩
theorem lw_p35 : lw_okq (⟨"EvenVoyageModel", "lays", "(IIII)V"⟩, 25) := ⟨⟨by decide +kernel, by decide +kernel⟩, List.mem_of_getElem? (i := 586) (by decide +kernel), List.mem_of_getElem? (i := 741) (by decide +kernel), List.mem_of_getElem? (i := 742) (by decide +kernel)⟩
theorem lw_p36 : lw_okq (⟨"EvenVoyageModel", "of", "(II)I"⟩, 25) := ⟨⟨by decide +kernel, by decide +kernel⟩, List.mem_of_getElem? (i := 586) (by decide +kernel), List.mem_of_getElem? (i := 745) (by decide +kernel), List.mem_of_getElem? (i := 746) (by decide +kernel)⟩
theorem lw_p37 : lw_okq (⟨"EvenVoyageModel", "ofLeg", "(III)I"⟩, 25) := ⟨⟨by decide +kernel, by decide +kernel⟩, List.mem_of_getElem? (i := 586) (by decide +kernel), List.mem_of_getElem? (i := 749) (by decide +kernel), List.mem_of_getElem? (i := 750) (by decide +kernel)⟩
theorem lw_p38 : lw_okq (⟨"EvenVoyageModel", "marksAll", "()V"⟩, 25) := ⟨⟨by decide +kernel, by decide +kernel⟩, List.mem_of_getElem? (i := 586) (by decide +kernel), List.mem_of_getElem? (i := 753) (by decide +kernel), List.mem_of_getElem? (i := 754) (by decide +kernel)⟩
theorem lw_p39 : lw_okq (⟨"EvenVoyageModel", "markBehind", "(I)I"⟩, 25) := ⟨⟨by decide +kernel, by decide +kernel⟩, List.mem_of_getElem? (i := 586) (by decide +kernel), List.mem_of_getElem? (i := 757) (by decide +kernel), List.mem_of_getElem? (i := 758) (by decide +kernel)⟩
theorem lw_p40 : lw_okq (⟨"EvenVoyageModel", "marksOne", "(II)Z"⟩, 25) := ⟨⟨by decide +kernel, by decide +kernel⟩, List.mem_of_getElem? (i := 586) (by decide +kernel), List.mem_of_getElem? (i := 761) (by decide +kernel), List.mem_of_getElem? (i := 762) (by decide +kernel)⟩
theorem lw_p41 : lw_okq (⟨"EvenVoyageModel", "missedTimes", "(III)J"⟩, 25) := ⟨⟨by decide +kernel, by decide +kernel⟩, List.mem_of_getElem? (i := 586) (by decide +kernel), List.mem_of_getElem? (i := 765) (by decide +kernel), List.mem_of_getElem? (i := 766) (by decide +kernel)⟩
theorem lw_p42 : lw_okq (⟨"EvenVoyageModel", "evenTimes", "(III)J"⟩, 25) := ⟨⟨by decide +kernel, by decide +kernel⟩, List.mem_of_getElem? (i := 586) (by decide +kernel), List.mem_of_getElem? (i := 769) (by decide +kernel), List.mem_of_getElem? (i := 770) (by decide +kernel)⟩
theorem lw_p43 : lw_okq (⟨"EvenVoyageModel", "hasPlan", "()Z"⟩, 25) := ⟨⟨by decide +kernel, by decide +kernel⟩, List.mem_of_getElem? (i := 586) (by decide +kernel), List.mem_of_getElem? (i := 773) (by decide +kernel), List.mem_of_getElem? (i := 774) (by decide +kernel)⟩
theorem lw_p44 : lw_okq (⟨"EvenVoyageModel", "fastNeeded", "()I"⟩, 25) := ⟨⟨by decide +kernel, by decide +kernel⟩, List.mem_of_getElem? (i := 586) (by decide +kernel), List.mem_of_getElem? (i := 777) (by decide +kernel), List.mem_of_getElem? (i := 778) (by decide +kernel)⟩
theorem lw_p45 : lw_okq (⟨"EvenVoyageModel", "milesAt", "(I)J"⟩, 25) := ⟨⟨by decide +kernel, by decide +kernel⟩, List.mem_of_getElem? (i := 586) (by decide +kernel), List.mem_of_getElem? (i := 781) (by decide +kernel), List.mem_of_getElem? (i := 782) (by decide +kernel)⟩
theorem lw_p46 : lw_okq (⟨"EvenVoyageModel", "markAhead", "(I)I"⟩, 25) := ⟨⟨by decide +kernel, by decide +kernel⟩, List.mem_of_getElem? (i := 586) (by decide +kernel), List.mem_of_getElem? (i := 785) (by decide +kernel), List.mem_of_getElem? (i := 786) (by decide +kernel)⟩
theorem lw_p47 : lw_okq (⟨"EvenVoyageModel", "timeTimes", "(I)J"⟩, 25) := ⟨⟨by decide +kernel, by decide +kernel⟩, List.mem_of_getElem? (i := 586) (by decide +kernel), List.mem_of_getElem? (i := 789) (by decide +kernel), List.mem_of_getElem? (i := 790) (by decide +kernel)⟩
def lw_privs_3 : List (MethodName × Nat) := [(⟨"EvenVoyageModel", "takesTable", "()Z"⟩, 25), (⟨"EvenVoyageModel", "remembers", "()V"⟩, 25), (⟨"EvenVoyageModel", "plans", "(I)Z"⟩, 25), (⟨"EvenVoyageModel", "lays", "(IIII)V"⟩, 25), (⟨"EvenVoyageModel", "of", "(II)I"⟩, 25), (⟨"EvenVoyageModel", "ofLeg", "(III)I"⟩, 25), (⟨"EvenVoyageModel", "marksAll", "()V"⟩, 25), (⟨"EvenVoyageModel", "markBehind", "(I)I"⟩, 25), (⟨"EvenVoyageModel", "marksOne", "(II)Z"⟩, 25), (⟨"EvenVoyageModel", "missedTimes", "(III)J"⟩, 25), (⟨"EvenVoyageModel", "evenTimes", "(III)J"⟩, 25), (⟨"EvenVoyageModel", "hasPlan", "()Z"⟩, 25), (⟨"EvenVoyageModel", "fastNeeded", "()I"⟩, 25), (⟨"EvenVoyageModel", "milesAt", "(I)J"⟩, 25), (⟨"EvenVoyageModel", "markAhead", "(I)I"⟩, 25), (⟨"EvenVoyageModel", "timeTimes", "(I)J"⟩, 25)]
theorem lw_r3 : ∀ q ∈ lw_privs_3, lw_okq q := List.forall_mem_cons.mpr ⟨lw_p32, List.forall_mem_cons.mpr ⟨lw_p33, List.forall_mem_cons.mpr ⟨lw_p34, List.forall_mem_cons.mpr ⟨lw_p35, List.forall_mem_cons.mpr ⟨lw_p36, List.forall_mem_cons.mpr ⟨lw_p37, List.forall_mem_cons.mpr ⟨lw_p38, List.forall_mem_cons.mpr ⟨lw_p39, List.forall_mem_cons.mpr ⟨lw_p40, List.forall_mem_cons.mpr ⟨lw_p41, List.forall_mem_cons.mpr ⟨lw_p42, List.forall_mem_cons.mpr ⟨lw_p43, List.forall_mem_cons.mpr ⟨lw_p44, List.forall_mem_cons.mpr ⟨lw_p45, List.forall_mem_cons.mpr ⟨lw_p46, List.forall_mem_cons.mpr ⟨lw_p47, fun _ h => absurd h List.not_mem_nil⟩⟩⟩⟩⟩⟩⟩⟩⟩⟩⟩⟩⟩⟩⟩⟩
theorem lw_p48 : lw_okq (⟨"EvenVoyageModel", "costOf", "(I)I"⟩, 25) := ⟨⟨by decide +kernel, by decide +kernel⟩, List.mem_of_getElem? (i := 586) (by decide +kernel), List.mem_of_getElem? (i := 793) (by decide +kernel), List.mem_of_getElem? (i := 794) (by decide +kernel)⟩
theorem lw_p49 : lw_okq (⟨"EvenVoyageModel", "isAhead", "(II)Z"⟩, 25) := ⟨⟨by decide +kernel, by decide +kernel⟩, List.mem_of_getElem? (i := 586) (by decide +kernel), List.mem_of_getElem? (i := 807) (by decide +kernel), List.mem_of_getElem? (i := 808) (by decide +kernel)⟩
theorem lw_p50 : lw_okq (⟨"EvenVoyageModel", "stretches", "()I"⟩, 25) := ⟨⟨by decide +kernel, by decide +kernel⟩, List.mem_of_getElem? (i := 586) (by decide +kernel), List.mem_of_getElem? (i := 827) (by decide +kernel), List.mem_of_getElem? (i := 828) (by decide +kernel)⟩
theorem lw_p51 : lw_okq (⟨"EvenVoyageModel", "costsAhead", "()I"⟩, 25) := ⟨⟨by decide +kernel, by decide +kernel⟩, List.mem_of_getElem? (i := 586) (by decide +kernel), List.mem_of_getElem? (i := 831) (by decide +kernel), List.mem_of_getElem? (i := 832) (by decide +kernel)⟩
theorem lw_p52 : lw_okq (⟨"EvenVoyageModel", "mileOf", "(II)I"⟩, 25) := ⟨⟨by decide +kernel, by decide +kernel⟩, List.mem_of_getElem? (i := 586) (by decide +kernel), List.mem_of_getElem? (i := 875) (by decide +kernel), List.mem_of_getElem? (i := 876) (by decide +kernel)⟩
theorem lw_p53 : lw_okq (⟨"EvenVoyageModel", "mileAt", "(I)I"⟩, 25) := ⟨⟨by decide +kernel, by decide +kernel⟩, List.mem_of_getElem? (i := 586) (by decide +kernel), List.mem_of_getElem? (i := 879) (by decide +kernel), List.mem_of_getElem? (i := 880) (by decide +kernel)⟩
theorem lw_p54 : lw_okq (⟨"EvenVoyageModel", "whichNow", "()I"⟩, 25) := ⟨⟨by decide +kernel, by decide +kernel⟩, List.mem_of_getElem? (i := 586) (by decide +kernel), List.mem_of_getElem? (i := 895) (by decide +kernel), List.mem_of_getElem? (i := 896) (by decide +kernel)⟩
theorem lw_p55 : lw_okq (⟨"EvenVoyageModel", "alikeAt", "(II)I"⟩, 25) := ⟨⟨by decide +kernel, by decide +kernel⟩, List.mem_of_getElem? (i := 586) (by decide +kernel), List.mem_of_getElem? (i := 903) (by decide +kernel), List.mem_of_getElem? (i := 904) (by decide +kernel)⟩
theorem lw_p56 : lw_okq (⟨"EvenVoyageModel", "legsOfAll", "()I"⟩, 25) := ⟨⟨by decide +kernel, by decide +kernel⟩, List.mem_of_getElem? (i := 586) (by decide +kernel), List.mem_of_getElem? (i := 911) (by decide +kernel), List.mem_of_getElem? (i := 912) (by decide +kernel)⟩
def lw_privs_4 : List (MethodName × Nat) := [(⟨"EvenVoyageModel", "costOf", "(I)I"⟩, 25), (⟨"EvenVoyageModel", "isAhead", "(II)Z"⟩, 25), (⟨"EvenVoyageModel", "stretches", "()I"⟩, 25), (⟨"EvenVoyageModel", "costsAhead", "()I"⟩, 25), (⟨"EvenVoyageModel", "mileOf", "(II)I"⟩, 25), (⟨"EvenVoyageModel", "mileAt", "(I)I"⟩, 25), (⟨"EvenVoyageModel", "whichNow", "()I"⟩, 25), (⟨"EvenVoyageModel", "alikeAt", "(II)I"⟩, 25), (⟨"EvenVoyageModel", "legsOfAll", "()I"⟩, 25)]
theorem lw_r4 : ∀ q ∈ lw_privs_4, lw_okq q := List.forall_mem_cons.mpr ⟨lw_p48, List.forall_mem_cons.mpr ⟨lw_p49, List.forall_mem_cons.mpr ⟨lw_p50, List.forall_mem_cons.mpr ⟨lw_p51, List.forall_mem_cons.mpr ⟨lw_p52, List.forall_mem_cons.mpr ⟨lw_p53, List.forall_mem_cons.mpr ⟨lw_p54, List.forall_mem_cons.mpr ⟨lw_p55, List.forall_mem_cons.mpr ⟨lw_p56, fun _ h => absurd h List.not_mem_nil⟩⟩⟩⟩⟩⟩⟩⟩⟩
def lw_privs : List (MethodName × Nat) := lw_privs_1 ++ (lw_privs_2 ++ (lw_privs_3 ++ (lw_privs_4)))
def lw_tbl : List Cond := k2_sels lw_privs ++ tables_1
theorem lw_privs_ok : ∀ q ∈ lw_privs, lw_okq q := by
  show ∀ q ∈ lw_privs_1 ++ (lw_privs_2 ++ (lw_privs_3 ++ (lw_privs_4))), lw_okq q
  exact List.forall_mem_append.mpr ⟨lw_r1, List.forall_mem_append.mpr ⟨lw_r2, List.forall_mem_append.mpr ⟨lw_r3, lw_r4⟩⟩⟩

def RX0 : String := "EvenVoyage$Fleet"
def TX0 : u_T := fun k => match k with
  | _ => ("EvenVoyage$Fleet", "ships", "[LEvenVoyage$Ship;", true)
def tyX0 : Nat → FieldType := fun k => match k with
  | _ => .array (.object "EvenVoyage$Ship")
theorem nmX0 : ∀ a, a < 1 → ∀ b, b < 1 → a ≠ b → (TX0 a).2.1 ≠ (TX0 b).2.1 := by decide +kernel
theorem tyX0_ok : ∀ k, k < 1 → parseFieldDescriptor (TX0 k).2.2.1 = some (tyX0 k) := by decide +kernel
abbrev cX0_init : ByteArray := prog_2_method_1_code
def yX0_init : MethodName := ⟨RX0, "<init>", "()V"⟩
abbrev cX0_becomeLike : ByteArray := prog_2_method_2_code
def yX0_becomeLike : MethodName := ⟨RX0, "becomeLike", "(LEvenVoyage$Fleet;)V"⟩
abbrev cX0_legsInAll : ByteArray := prog_2_method_3_code
def yX0_legsInAll : MethodName := ⟨RX0, "legsInAll", "()I"⟩
def RX1 : String := "EvenVoyage$Past"
def TX1 : u_T := fun k => match k with
  | 0 => ("EvenVoyage$Past", "fleets", "[LEvenVoyage$Fleet;", true)
  | 1 => ("EvenVoyage$Past", "next", "I", false)
  | _ => ("EvenVoyage$Past", "knownCount", "I", false)
def tyX1 : Nat → FieldType := fun k => match k with
  | 0 => .array (.object "EvenVoyage$Fleet")
  | 1 => .int
  | _ => .int
theorem nmX1 : ∀ a, a < 3 → ∀ b, b < 3 → a ≠ b → (TX1 a).2.1 ≠ (TX1 b).2.1 := by decide +kernel
theorem tyX1_ok : ∀ k, k < 3 → parseFieldDescriptor (TX1 k).2.2.1 = some (tyX1 k) := by decide +kernel
abbrev cX1_init : ByteArray := prog_3_method_1_code
def yX1_init : MethodName := ⟨RX1, "<init>", "()V"⟩
abbrev cX1_known : ByteArray := prog_3_method_2_code
def yX1_known : MethodName := ⟨RX1, "known", "()I"⟩
abbrev cX1_remember : ByteArray := prog_3_method_3_code
def yX1_remember : MethodName := ⟨RX1, "remember", "(LEvenVoyage$Fleet;)V"⟩
abbrev cX1_restore : ByteArray := prog_3_method_4_code
def yX1_restore : MethodName := ⟨RX1, "restore", "(LEvenVoyage$Fleet;)V"⟩
abbrev cX1_lose : ByteArray := prog_3_method_5_code
def yX1_lose : MethodName := ⟨RX1, "lose", "()V"⟩
def RX2 : String := "EvenVoyage$Plan"
def TX2 : u_T := fun k => match k with
  | 0 => ("EvenVoyage$Plan", "first", "I", false)
  | 1 => ("EvenVoyage$Plan", "last", "I", false)
  | 2 => ("EvenVoyage$Plan", "milesUpTo", "[I", true)
  | 3 => ("EvenVoyage$Plan", "waits", "[I", true)
  | 4 => ("EvenVoyage$Plan", "lows", "[I", true)
  | 5 => ("EvenVoyage$Plan", "highs", "[I", true)
  | 6 => ("EvenVoyage$Plan", "hours", "[I", true)
  | 7 => ("EvenVoyage$Plan", "meetings", "[I", true)
  | 8 => ("EvenVoyage$Plan", "stretchBegin", "[I", true)
  | 9 => ("EvenVoyage$Plan", "stretchEnd", "[I", true)
  | 10 => ("EvenVoyage$Plan", "table", "[I", true)
  | 11 => ("EvenVoyage$Plan", "stretches", "I", false)
  | 12 => ("EvenVoyage$Plan", "needed", "I", false)
  | _ => ("EvenVoyage$Plan", "fastest", "I", false)
def tyX2 : Nat → FieldType := fun k => match k with
  | 0 => .int
  | 1 => .int
  | 2 => .array .int
  | 3 => .array .int
  | 4 => .array .int
  | 5 => .array .int
  | 6 => .array .int
  | 7 => .array .int
  | 8 => .array .int
  | 9 => .array .int
  | 10 => .array .int
  | 11 => .int
  | 12 => .int
  | _ => .int
theorem nmX2 : ∀ a, a < 14 → ∀ b, b < 14 → a ≠ b → (TX2 a).2.1 ≠ (TX2 b).2.1 := by decide +kernel
theorem tyX2_ok : ∀ k, k < 14 → parseFieldDescriptor (TX2 k).2.2.1 = some (tyX2 k) := by decide +kernel
abbrev cX2_init : ByteArray := prog_4_method_1_code
def yX2_init : MethodName := ⟨RX2, "<init>", "()V"⟩
abbrev cX2_draw : ByteArray := prog_4_method_2_code
def yX2_draw : MethodName := ⟨RX2, "draw", "(LEvenVoyage$Ship;)V"⟩
abbrev cX2_stands : ByteArray := prog_4_method_3_code
def yX2_stands : MethodName := ⟨RX2, "stands", "()Z"⟩
abbrev cX2_neededSpeed : ByteArray := prog_4_method_4_code
def yX2_neededSpeed : MethodName := ⟨RX2, "neededSpeed", "()I"⟩
abbrev cX2_stretchCount : ByteArray := prog_4_method_5_code
def yX2_stretchCount : MethodName := ⟨RX2, "stretchCount", "()I"⟩
abbrev cX2_meetingAt : ByteArray := prog_4_method_6_code
def yX2_meetingAt : MethodName := ⟨RX2, "meetingAt", "(I)I"⟩
abbrev cX2_milesAround : ByteArray := prog_4_method_7_code
def yX2_milesAround : MethodName := ⟨RX2, "milesAround", "(I)I"⟩
abbrev cX2_hoursAround : ByteArray := prog_4_method_8_code
def yX2_hoursAround : MethodName := ⟨RX2, "hoursAround", "(I)I"⟩
abbrev cX2_hourUpper : ByteArray := prog_4_method_9_code
def yX2_hourUpper : MethodName := ⟨RX2, "hourUpper", "(I)I"⟩
abbrev cX2_hourLower : ByteArray := prog_4_method_10_code
def yX2_hourLower : MethodName := ⟨RX2, "hourLower", "(I)I"⟩
abbrev cX2_hourRoundedUp : ByteArray := prog_4_method_11_code
def yX2_hourRoundedUp : MethodName := ⟨RX2, "hourRoundedUp", "(I)I"⟩
abbrev cX2_burntOnLeg : ByteArray := prog_4_method_12_code
def yX2_burntOnLeg : MethodName := ⟨RX2, "burntOnLeg", "(I)I"⟩
abbrev cX2_burntInAll : ByteArray := prog_4_method_13_code
def yX2_burntInAll : MethodName := ⟨RX2, "burntInAll", "()I"⟩
abbrev cX2_mileAt : ByteArray := prog_4_method_14_code
def yX2_mileAt : MethodName := ⟨RX2, "mileAt", "(I)I"⟩
abbrev cX2_isNoLeg : ByteArray := prog_4_method_15_code
def yX2_isNoLeg : MethodName := ⟨RX2, "isNoLeg", "(I)Z"⟩
abbrev cX2_milesOfLeg : ByteArray := prog_4_method_16_code
def yX2_milesOfLeg : MethodName := ⟨RX2, "milesOfLeg", "(I)I"⟩
abbrev cX2_sailedOnLeg : ByteArray := prog_4_method_17_code
def yX2_sailedOnLeg : MethodName := ⟨RX2, "sailedOnLeg", "(II)I"⟩
abbrev cX2_layPorts : ByteArray := prog_4_method_18_code
def yX2_layPorts : MethodName := ⟨RX2, "layPorts", "(LEvenVoyage$Ship;)V"⟩
abbrev cX2_splitStretches : ByteArray := prog_4_method_19_code
def yX2_splitStretches : MethodName := ⟨RX2, "splitStretches", "()V"⟩
abbrev cX2_nextEnd : ByteArray := prog_4_method_20_code
def yX2_nextEnd : MethodName := ⟨RX2, "nextEnd", "(I)I"⟩
abbrev cX2_mostMissed : ByteArray := prog_4_method_21_code
def yX2_mostMissed : MethodName := ⟨RX2, "mostMissed", "(II)I"⟩
abbrev cX2_missAt : ByteArray := prog_4_method_22_code
def yX2_missAt : MethodName := ⟨RX2, "missAt", "(III)I"⟩
abbrev cX2_evenHour : ByteArray := prog_4_method_23_code
def yX2_evenHour : MethodName := ⟨RX2, "evenHour", "(III)I"⟩
abbrev cX2_measureStretches : ByteArray := prog_4_method_24_code
def yX2_measureStretches : MethodName := ⟨RX2, "measureStretches", "()V"⟩
def RX3 : String := "EvenVoyage$Ship"
def TX3 : u_T := fun k => match k with
  | 0 => ("EvenVoyage$Ship", "traits", "[I", true)
  | _ => ("EvenVoyage$Ship", "legParts", "[I", true)
def tyX3 : Nat → FieldType := fun k => match k with
  | 0 => .array .int
  | _ => .array .int
theorem nmX3 : ∀ a, a < 2 → ∀ b, b < 2 → a ≠ b → (TX3 a).2.1 ≠ (TX3 b).2.1 := by decide +kernel
theorem tyX3_ok : ∀ k, k < 2 → parseFieldDescriptor (TX3 k).2.2.1 = some (tyX3 k) := by decide +kernel
abbrev cX3_init : ByteArray := prog_5_method_1_code
def yX3_init : MethodName := ⟨RX3, "<init>", "()V"⟩
abbrev cX3_becomeNew : ByteArray := prog_5_method_2_code
def yX3_becomeNew : MethodName := ⟨RX3, "becomeNew", "()V"⟩
abbrev cX3_becomeLike : ByteArray := prog_5_method_3_code
def yX3_becomeLike : MethodName := ⟨RX3, "becomeLike", "(LEvenVoyage$Ship;)V"⟩
abbrev cX3_trait : ByteArray := prog_5_method_4_code
def yX3_trait : MethodName := ⟨RX3, "trait", "(I)I"⟩
abbrev cX3_setTrait : ByteArray := prog_5_method_5_code
def yX3_setTrait : MethodName := ⟨RX3, "setTrait", "(II)V"⟩
abbrev cX3_ofLeg : ByteArray := prog_5_method_6_code
def yX3_ofLeg : MethodName := ⟨RX3, "ofLeg", "(II)I"⟩
abbrev cX3_setOfLeg : ByteArray := prog_5_method_7_code
def yX3_setOfLeg : MethodName := ⟨RX3, "setOfLeg", "(III)V"⟩
abbrev cX3_isPortAhead : ByteArray := prog_5_method_8_code
def yX3_isPortAhead : MethodName := ⟨RX3, "isPortAhead", "(I)Z"⟩
abbrev cX3_isLegAhead : ByteArray := prog_5_method_9_code
def yX3_isLegAhead : MethodName := ⟨RX3, "isLegAhead", "(I)Z"⟩
abbrev cX3_placeOf : ByteArray := prog_5_method_10_code
def yX3_placeOf : MethodName := ⟨RX3, "placeOf", "(II)I"⟩
def RX4 : String := "EvenVoyage$Text"
def TX4 : u_T := fun k => match k with
  | 0 => ("EvenVoyage$Text", "letters", "[I", true)
  | 1 => ("EvenVoyage$Text", "size", "I", false)
  | 2 => ("EvenVoyage$Text", "item", "I", false)
  | 3 => ("EvenVoyage$Text", "given", "I", false)
  | 4 => ("EvenVoyage$Text", "values", "[I", true)
  | 5 => ("EvenVoyage$Text", "items", "I", false)
  | 6 => ("EvenVoyage$Text", "fastestTold", "Z", false)
  | _ => ("EvenVoyage$Text", "tableTold", "Z", false)
def tyX4 : Nat → FieldType := fun k => match k with
  | 0 => .array .int
  | 1 => .int
  | 2 => .int
  | 3 => .int
  | 4 => .array .int
  | 5 => .int
  | 6 => .boolean
  | _ => .boolean
theorem nmX4 : ∀ a, a < 8 → ∀ b, b < 8 → a ≠ b → (TX4 a).2.1 ≠ (TX4 b).2.1 := by decide +kernel
theorem tyX4_ok : ∀ k, k < 8 → parseFieldDescriptor (TX4 k).2.2.1 = some (tyX4 k) := by decide +kernel
abbrev cX4_init : ByteArray := prog_6_method_1_code
def yX4_init : MethodName := ⟨RX4, "<init>", "()V"⟩
abbrev cX4_length : ByteArray := prog_6_method_2_code
def yX4_length : MethodName := ⟨RX4, "length", "()I"⟩
abbrev cX4_takesLetter : ByteArray := prog_6_method_3_code
def yX4_takesLetter : MethodName := ⟨RX4, "takesLetter", "(I)Z"⟩
abbrev cX4_becomeEmpty : ByteArray := prog_6_method_4_code
def yX4_becomeEmpty : MethodName := ⟨RX4, "becomeEmpty", "()V"⟩
abbrev cX4_tellShip : ByteArray := prog_6_method_5_code
def yX4_tellShip : MethodName := ⟨RX4, "tellShip", "(LEvenVoyage$Ship;)I"⟩
abbrev cX4_takesToken : ByteArray := prog_6_method_6_code
def yX4_takesToken : MethodName := ⟨RX4, "takesToken", "(LEvenVoyage$Ship;I)Z"⟩
abbrev cX4_beginsItem : ByteArray := prog_6_method_7_code
def yX4_beginsItem : MethodName := ⟨RX4, "beginsItem", "(LEvenVoyage$Ship;I)Z"⟩
abbrev cX4_numbersOfItem : ByteArray := prog_6_method_8_code
def yX4_numbersOfItem : MethodName := ⟨RX4, "numbersOfItem", "()I"⟩
abbrev cX4_takesNumber : ByteArray := prog_6_method_9_code
def yX4_takesNumber : MethodName := ⟨RX4, "takesNumber", "(I)Z"⟩
abbrev cX4_least : ByteArray := prog_6_method_10_code
def yX4_least : MethodName := ⟨RX4, "least", "()I"⟩
abbrev cX4_greatest : ByteArray := prog_6_method_11_code
def yX4_greatest : MethodName := ⟨RX4, "greatest", "()I"⟩
abbrev cX4_endItem : ByteArray := prog_6_method_12_code
def yX4_endItem : MethodName := ⟨RX4, "endItem", "(LEvenVoyage$Ship;)V"⟩
abbrev cX4_tokenEnd : ByteArray := prog_6_method_13_code
def yX4_tokenEnd : MethodName := ⟨RX4, "tokenEnd", "(I)I"⟩
abbrev cX4_numberAt : ByteArray := prog_6_method_14_code
def yX4_numberAt : MethodName := ⟨RX4, "numberAt", "(I)I"⟩
abbrev cX4_isFigure : ByteArray := prog_6_method_15_code
def yX4_isFigure : MethodName := ⟨RX4, "isFigure", "(I)Z"⟩
def RX5 : String := "EvenVoyage"
def TX5 : u_T := fun k => match k with
  | 0 => ("EvenVoyage", "fleet", "LEvenVoyage$Fleet;", true)
  | 1 => ("EvenVoyage", "past", "LEvenVoyage$Past;", true)
  | 2 => ("EvenVoyage", "images", "[LEvenVoyage$Fleet;", true)
  | 3 => ("EvenVoyage", "kept", "[Z", true)
  | 4 => ("EvenVoyage", "text", "LEvenVoyage$Text;", true)
  | 5 => ("EvenVoyage", "trialShip", "LEvenVoyage$Ship;", true)
  | 6 => ("EvenVoyage", "trialPlan", "LEvenVoyage$Plan;", true)
  | 7 => ("EvenVoyage", "plans", "[LEvenVoyage$Plan;", true)
  | 8 => ("EvenVoyage", "seenHours", "[I", true)
  | 9 => ("EvenVoyage", "seenMiles", "[I", true)
  | 10 => ("EvenVoyage", "seen", "I", false)
  | _ => ("EvenVoyage", "places", "[I", true)
def tyX5 : Nat → FieldType := fun k => match k with
  | 0 => .object "EvenVoyage$Fleet"
  | 1 => .object "EvenVoyage$Past"
  | 2 => .array (.object "EvenVoyage$Fleet")
  | 3 => .array .boolean
  | 4 => .object "EvenVoyage$Text"
  | 5 => .object "EvenVoyage$Ship"
  | 6 => .object "EvenVoyage$Plan"
  | 7 => .array (.object "EvenVoyage$Plan")
  | 8 => .array .int
  | 9 => .array .int
  | 10 => .int
  | _ => .array .int
theorem nmX5 : ∀ a, a < 12 → ∀ b, b < 12 → a ≠ b → (TX5 a).2.1 ≠ (TX5 b).2.1 := by decide +kernel
theorem tyX5_ok : ∀ k, k < 12 → parseFieldDescriptor (TX5 k).2.2.1 = some (tyX5 k) := by decide +kernel
abbrev cX5_init : ByteArray := prog_1_method_1_code
def yX5_init : MethodName := ⟨RX5, "<init>", "()V"⟩
abbrev cX5_type : ByteArray := prog_1_method_2_code
def yX5_type : MethodName := ⟨RX5, "type", "(I)I"⟩
abbrev cX5_clear : ByteArray := prog_1_method_3_code
def yX5_clear : MethodName := ⟨RX5, "clear", "()I"⟩
abbrev cX5_tells : ByteArray := prog_1_method_4_code
def yX5_tells : MethodName := ⟨RX5, "tells", "(I)I"⟩
abbrev cX5_sails : ByteArray := prog_1_method_5_code
def yX5_sails : MethodName := ⟨RX5, "sails", "(I)I"⟩
abbrev cX5_holds : ByteArray := prog_1_method_6_code
def yX5_holds : MethodName := ⟨RX5, "holds", "(II)I"⟩
abbrev cX5_moves : ByteArray := prog_1_method_7_code
def yX5_moves : MethodName := ⟨RX5, "moves", "(IIII)I"⟩
abbrev cX5_fastens : ByteArray := prog_1_method_8_code
def yX5_fastens : MethodName := ⟨RX5, "fastens", "(II)I"⟩
abbrev cX5_undo : ByteArray := prog_1_method_9_code
def yX5_undo : MethodName := ⟨RX5, "undo", "()I"⟩
abbrev cX5_ship : ByteArray := prog_1_method_10_code
def yX5_ship : MethodName := ⟨RX5, "ship", "(II)I"⟩
abbrev cX5_leg : ByteArray := prog_1_method_11_code
def yX5_leg : MethodName := ⟨RX5, "leg", "(III)I"⟩
abbrev cX5_plan : ByteArray := prog_1_method_12_code
def yX5_plan : MethodName := ⟨RX5, "plan", "(II)I"⟩
abbrev cX5_time : ByteArray := prog_1_method_13_code
def yX5_time : MethodName := ⟨RX5, "time", "(III)I"⟩
abbrev cX5_speed : ByteArray := prog_1_method_14_code
def yX5_speed : MethodName := ⟨RX5, "speed", "(III)I"⟩
abbrev cX5_closed : ByteArray := prog_1_method_15_code
def yX5_closed : MethodName := ⟨RX5, "closed", "(II)I"⟩
abbrev cX5_cost : ByteArray := prog_1_method_16_code
def yX5_cost : MethodName := ⟨RX5, "cost", "(II)I"⟩
abbrev cX5_slack : ByteArray := prog_1_method_17_code
def yX5_slack : MethodName := ⟨RX5, "slack", "(I)I"⟩
abbrev cX5_needs : ByteArray := prog_1_method_18_code
def yX5_needs : MethodName := ⟨RX5, "needs", "(I)I"⟩
abbrev cX5_eased : ByteArray := prog_1_method_19_code
def yX5_eased : MethodName := ⟨RX5, "eased", "(I)I"⟩
abbrev cX5_mile : ByteArray := prog_1_method_20_code
def yX5_mile : MethodName := ⟨RX5, "mile", "(II)I"⟩
abbrev cX5_sees : ByteArray := prog_1_method_21_code
def yX5_sees : MethodName := ⟨RX5, "sees", "(II)I"⟩
abbrev cX5_forget : ByteArray := prog_1_method_22_code
def yX5_forget : MethodName := ⟨RX5, "forget", "()I"⟩
abbrev cX5_which : ByteArray := prog_1_method_23_code
def yX5_which : MethodName := ⟨RX5, "which", "()I"⟩
abbrev cX5_look : ByteArray := prog_1_method_24_code
def yX5_look : MethodName := ⟨RX5, "look", "()I"⟩
abbrev cX5_keep : ByteArray := prog_1_method_25_code
def yX5_keep : MethodName := ⟨RX5, "keep", "(I)I"⟩
abbrev cX5_back : ByteArray := prog_1_method_26_code
def yX5_back : MethodName := ⟨RX5, "back", "(I)I"⟩
abbrev cX5_count : ByteArray := prog_1_method_27_code
def yX5_count : MethodName := ⟨RX5, "count", "(I)I"⟩
abbrev cX5_isNoShip : ByteArray := prog_1_method_28_code
def yX5_isNoShip : MethodName := ⟨RX5, "isNoShip", "(I)Z"⟩
abbrev cX5_drawnPlan : ByteArray := prog_1_method_29_code
def yX5_drawnPlan : MethodName := ⟨RX5, "drawnPlan", "(I)LEvenVoyage$Plan;"⟩
abbrev cX5_drawAllPlans : ByteArray := prog_1_method_30_code
def yX5_drawAllPlans : MethodName := ⟨RX5, "drawAllPlans", "()V"⟩
abbrev cX5_drawEased : ByteArray := prog_1_method_31_code
def yX5_drawEased : MethodName := ⟨RX5, "drawEased", "(LEvenVoyage$Ship;II)V"⟩
abbrev cX5_suspects : ByteArray := prog_1_method_32_code
def yX5_suspects : MethodName := ⟨RX5, "suspects", "()I"⟩
abbrev cX5_agrees : ByteArray := prog_1_method_33_code
def yX5_agrees : MethodName := ⟨RX5, "agrees", "(LEvenVoyage$Plan;)Z"⟩
abbrev cX5_mostAlike : ByteArray := prog_1_method_34_code
def yX5_mostAlike : MethodName := ⟨RX5, "mostAlike", "(II)I"⟩
abbrev cX5_partOf : ByteArray := prog_1_method_35_code
def yX5_partOf : MethodName := ⟨RX5, "partOf", "(III)I"⟩
abbrev cX5_commonMeasure : ByteArray := prog_1_method_36_code
def yX5_commonMeasure : MethodName := ⟨RX5, "commonMeasure", "(II)I"⟩
def RX6 : String := "EvenVoyageModel"
def TX6 : u_T := fun k => match k with
  | 0 => ("EvenVoyageModel", "now", "[I", true)
  | 1 => ("EvenVoyageModel", "past", "[I", true)
  | 2 => ("EvenVoyageModel", "undone", "I", false)
  | 3 => ("EvenVoyageModel", "images", "[I", true)
  | 4 => ("EvenVoyageModel", "isKept", "[Z", true)
  | 5 => ("EvenVoyageModel", "text", "[I", true)
  | 6 => ("EvenVoyageModel", "letters", "I", false)
  | 7 => ("EvenVoyageModel", "facts", "[I", true)
  | 8 => ("EvenVoyageModel", "seen", "I", false)
  | 9 => ("EvenVoyageModel", "read", "[I", true)
  | 10 => ("EvenVoyageModel", "spot", "I", false)
  | 11 => ("EvenVoyageModel", "tokenAt", "I", false)
  | 12 => ("EvenVoyageModel", "value", "I", false)
  | 13 => ("EvenVoyageModel", "isFast", "Z", false)
  | 14 => ("EvenVoyageModel", "isTabled", "Z", false)
  | 15 => ("EvenVoyageModel", "ship", "I", false)
  | 16 => ("EvenVoyageModel", "begin", "I", false)
  | 17 => ("EvenVoyageModel", "last", "I", false)
  | 18 => ("EvenVoyageModel", "far", "[I", true)
  | 19 => ("EvenVoyageModel", "wait", "[I", true)
  | 20 => ("EvenVoyageModel", "low", "[I", true)
  | 21 => ("EvenVoyageModel", "high", "[I", true)
  | 22 => ("EvenVoyageModel", "mark", "[I", true)
  | 23 => ("EvenVoyageModel", "hour", "[J", true)
  | _ => ("EvenVoyageModel", "miles", "[I", true)
def tyX6 : Nat → FieldType := fun k => match k with
  | 0 => .array .int
  | 1 => .array .int
  | 2 => .int
  | 3 => .array .int
  | 4 => .array .boolean
  | 5 => .array .int
  | 6 => .int
  | 7 => .array .int
  | 8 => .int
  | 9 => .array .int
  | 10 => .int
  | 11 => .int
  | 12 => .int
  | 13 => .boolean
  | 14 => .boolean
  | 15 => .int
  | 16 => .int
  | 17 => .int
  | 18 => .array .int
  | 19 => .array .int
  | 20 => .array .int
  | 21 => .array .int
  | 22 => .array .int
  | 23 => .array .long
  | _ => .array .int
theorem nmX6 : ∀ a, a < 25 → ∀ b, b < 25 → a ≠ b → (TX6 a).2.1 ≠ (TX6 b).2.1 := by decide +kernel
theorem tyX6_ok : ∀ k, k < 25 → parseFieldDescriptor (TX6 k).2.2.1 = some (tyX6 k) := by decide +kernel
abbrev cX6_init : ByteArray := prog_8_method_1_code
def yX6_init : MethodName := ⟨RX6, "<init>", "()V"⟩
abbrev cX6_in : ByteArray := prog_8_method_3_code
def yX6_in : MethodName := ⟨RX6, "in", "(III)Z"⟩
abbrev cX6_begins : ByteArray := prog_8_method_4_code
def yX6_begins : MethodName := ⟨RX6, "begins", "([II)V"⟩
abbrev cX6_remembers : ByteArray := prog_8_method_5_code
def yX6_remembers : MethodName := ⟨RX6, "remembers", "()V"⟩
abbrev cX6_undo : ByteArray := prog_8_method_6_code
def yX6_undo : MethodName := ⟨RX6, "undo", "()I"⟩
abbrev cX6_isShip : ByteArray := prog_8_method_7_code
def yX6_isShip : MethodName := ⟨RX6, "isShip", "(I)Z"⟩
abbrev cX6_of : ByteArray := prog_8_method_8_code
def yX6_of : MethodName := ⟨RX6, "of", "(II)I"⟩
abbrev cX6_legPlace : ByteArray := prog_8_method_9_code
def yX6_legPlace : MethodName := ⟨RX6, "legPlace", "(II)I"⟩
abbrev cX6_ofLeg : ByteArray := prog_8_method_10_code
def yX6_ofLeg : MethodName := ⟨RX6, "ofLeg", "(III)I"⟩
abbrev cX6_type : ByteArray := prog_8_method_11_code
def yX6_type : MethodName := ⟨RX6, "type", "(I)I"⟩
abbrev cX6_clear : ByteArray := prog_8_method_12_code
def yX6_clear : MethodName := ⟨RX6, "clear", "()I"⟩
abbrev cX6_blanks : ByteArray := prog_8_method_13_code
def yX6_blanks : MethodName := ⟨RX6, "blanks", "()V"⟩
abbrev cX6_isAt : ByteArray := prog_8_method_14_code
def yX6_isAt : MethodName := ⟨RX6, "isAt", "(II)Z"⟩
abbrev cX6_takesNumber : ByteArray := prog_8_method_15_code
def yX6_takesNumber : MethodName := ⟨RX6, "takesNumber", "(II)Z"⟩
abbrev cX6_takesStop : ByteArray := prog_8_method_16_code
def yX6_takesStop : MethodName := ⟨RX6, "takesStop", "()Z"⟩
abbrev cX6_takesLeg : ByteArray := prog_8_method_17_code
def yX6_takesLeg : MethodName := ⟨RX6, "takesLeg", "()Z"⟩
abbrev cX6_takesFastest : ByteArray := prog_8_method_18_code
def yX6_takesFastest : MethodName := ⟨RX6, "takesFastest", "()Z"⟩
abbrev cX6_takesTable : ByteArray := prog_8_method_19_code
def yX6_takesTable : MethodName := ⟨RX6, "takesTable", "()Z"⟩
abbrev cX6_reads : ByteArray := prog_8_method_20_code
def yX6_reads : MethodName := ⟨RX6, "reads", "()I"⟩
abbrev cX6_tells : ByteArray := prog_8_method_21_code
def yX6_tells : MethodName := ⟨RX6, "tells", "(I)I"⟩
abbrev cX6_lays : ByteArray := prog_8_method_22_code
def yX6_lays : MethodName := ⟨RX6, "lays", "(IIII)V"⟩
abbrev cX6_markBehind : ByteArray := prog_8_method_23_code
def yX6_markBehind : MethodName := ⟨RX6, "markBehind", "(I)I"⟩
abbrev cX6_markAhead : ByteArray := prog_8_method_24_code
def yX6_markAhead : MethodName := ⟨RX6, "markAhead", "(I)I"⟩
abbrev cX6_evenTimes : ByteArray := prog_8_method_25_code
def yX6_evenTimes : MethodName := ⟨RX6, "evenTimes", "(III)J"⟩
abbrev cX6_missedTimes : ByteArray := prog_8_method_26_code
def yX6_missedTimes : MethodName := ⟨RX6, "missedTimes", "(III)J"⟩
abbrev cX6_marksOne : ByteArray := prog_8_method_27_code
def yX6_marksOne : MethodName := ⟨RX6, "marksOne", "(II)Z"⟩
abbrev cX6_marksAll : ByteArray := prog_8_method_28_code
def yX6_marksAll : MethodName := ⟨RX6, "marksAll", "()V"⟩
abbrev cX6_fastNeeded : ByteArray := prog_8_method_29_code
def yX6_fastNeeded : MethodName := ⟨RX6, "fastNeeded", "()I"⟩
abbrev cX6_hasPlan : ByteArray := prog_8_method_30_code
def yX6_hasPlan : MethodName := ⟨RX6, "hasPlan", "()Z"⟩
abbrev cX6_plans : ByteArray := prog_8_method_31_code
def yX6_plans : MethodName := ⟨RX6, "plans", "(I)Z"⟩
abbrev cX6_isAhead : ByteArray := prog_8_method_32_code
def yX6_isAhead : MethodName := ⟨RX6, "isAhead", "(II)Z"⟩
abbrev cX6_common : ByteArray := prog_8_method_33_code
def yX6_common : MethodName := ⟨RX6, "common", "(JJ)J"⟩
abbrev cX6_lowest : ByteArray := prog_8_method_34_code
def yX6_lowest : MethodName := ⟨RX6, "lowest", "(JJI)I"⟩
abbrev cX6_timeTimes : ByteArray := prog_8_method_35_code
def yX6_timeTimes : MethodName := ⟨RX6, "timeTimes", "(I)J"⟩
abbrev cX6_milesAt : ByteArray := prog_8_method_36_code
def yX6_milesAt : MethodName := ⟨RX6, "milesAt", "(I)J"⟩
abbrev cX6_costOf : ByteArray := prog_8_method_37_code
def yX6_costOf : MethodName := ⟨RX6, "costOf", "(I)I"⟩
abbrev cX6_costsAhead : ByteArray := prog_8_method_38_code
def yX6_costsAhead : MethodName := ⟨RX6, "costsAhead", "()I"⟩
abbrev cX6_sails : ByteArray := prog_8_method_39_code
def yX6_sails : MethodName := ⟨RX6, "sails", "(I)I"⟩
abbrev cX6_holds : ByteArray := prog_8_method_40_code
def yX6_holds : MethodName := ⟨RX6, "holds", "(II)I"⟩
abbrev cX6_moves : ByteArray := prog_8_method_41_code
def yX6_moves : MethodName := ⟨RX6, "moves", "(IIII)I"⟩
abbrev cX6_fastens : ByteArray := prog_8_method_42_code
def yX6_fastens : MethodName := ⟨RX6, "fastens", "(II)I"⟩
abbrev cX6_ship : ByteArray := prog_8_method_43_code
def yX6_ship : MethodName := ⟨RX6, "ship", "(II)I"⟩
abbrev cX6_leg : ByteArray := prog_8_method_44_code
def yX6_leg : MethodName := ⟨RX6, "leg", "(III)I"⟩
abbrev cX6_stretches : ByteArray := prog_8_method_45_code
def yX6_stretches : MethodName := ⟨RX6, "stretches", "()I"⟩
abbrev cX6_plan : ByteArray := prog_8_method_46_code
def yX6_plan : MethodName := ⟨RX6, "plan", "(II)I"⟩
abbrev cX6_time : ByteArray := prog_8_method_47_code
def yX6_time : MethodName := ⟨RX6, "time", "(III)I"⟩
abbrev cX6_speed : ByteArray := prog_8_method_48_code
def yX6_speed : MethodName := ⟨RX6, "speed", "(III)I"⟩
abbrev cX6_closed : ByteArray := prog_8_method_49_code
def yX6_closed : MethodName := ⟨RX6, "closed", "(II)I"⟩
abbrev cX6_cost : ByteArray := prog_8_method_50_code
def yX6_cost : MethodName := ⟨RX6, "cost", "(II)I"⟩
abbrev cX6_slack : ByteArray := prog_8_method_51_code
def yX6_slack : MethodName := ⟨RX6, "slack", "(I)I"⟩
abbrev cX6_needs : ByteArray := prog_8_method_52_code
def yX6_needs : MethodName := ⟨RX6, "needs", "(I)I"⟩
abbrev cX6_eased : ByteArray := prog_8_method_53_code
def yX6_eased : MethodName := ⟨RX6, "eased", "(I)I"⟩
abbrev cX6_mileAt : ByteArray := prog_8_method_54_code
def yX6_mileAt : MethodName := ⟨RX6, "mileAt", "(I)I"⟩
abbrev cX6_mileOf : ByteArray := prog_8_method_55_code
def yX6_mileOf : MethodName := ⟨RX6, "mileOf", "(II)I"⟩
abbrev cX6_mile : ByteArray := prog_8_method_56_code
def yX6_mile : MethodName := ⟨RX6, "mile", "(II)I"⟩
abbrev cX6_sees : ByteArray := prog_8_method_57_code
def yX6_sees : MethodName := ⟨RX6, "sees", "(II)I"⟩
abbrev cX6_forget : ByteArray := prog_8_method_58_code
def yX6_forget : MethodName := ⟨RX6, "forget", "()I"⟩
abbrev cX6_whichNow : ByteArray := prog_8_method_59_code
def yX6_whichNow : MethodName := ⟨RX6, "whichNow", "()I"⟩
abbrev cX6_which : ByteArray := prog_8_method_60_code
def yX6_which : MethodName := ⟨RX6, "which", "()I"⟩
abbrev cX6_alikeAt : ByteArray := prog_8_method_61_code
def yX6_alikeAt : MethodName := ⟨RX6, "alikeAt", "(II)I"⟩
abbrev cX6_look : ByteArray := prog_8_method_62_code
def yX6_look : MethodName := ⟨RX6, "look", "()I"⟩
abbrev cX6_legsOfAll : ByteArray := prog_8_method_63_code
def yX6_legsOfAll : MethodName := ⟨RX6, "legsOfAll", "()I"⟩
abbrev cX6_keep : ByteArray := prog_8_method_64_code
def yX6_keep : MethodName := ⟨RX6, "keep", "(I)I"⟩
abbrev cX6_back : ByteArray := prog_8_method_65_code
def yX6_back : MethodName := ⟨RX6, "back", "(I)I"⟩
abbrev cX6_count : ByteArray := prog_8_method_66_code
def yX6_count : MethodName := ⟨RX6, "count", "(I)I"⟩
def RJ6 : String := "java/lang/Integer"
def TJ6 : u_T := fun k => match k with
  | _ => ("", "", "", false)
def tyJ6 : Nat → FieldType := fun k => match k with
  | _ => .int
abbrev cJ6_bitCount_0f7a4 : ByteArray := prog_9_method_49_code
def yJ6_bitCount_0f7a4 : MethodName := ⟨RJ6, "bitCount", "(I)I"⟩
def RJ9 : String := "java/lang/Math"
def TJ9 : u_T := fun k => match k with
  | _ => ("", "", "", false)
def tyJ9 : Nat → FieldType := fun k => match k with
  | _ => .int
abbrev cJ9_floorDiv_7cf53 : ByteArray := prog_10_method_47_code
def yJ9_floorDiv_7cf53 : MethodName := ⟨RJ9, "floorDiv", "(II)I"⟩
abbrev cJ9_abs_0f7a4 : ByteArray := prog_10_method_59_code
def yJ9_abs_0f7a4 : MethodName := ⟨RJ9, "abs", "(I)I"⟩
abbrev cJ9_max_7cf53 : ByteArray := prog_10_method_65_code
def yJ9_max_7cf53 : MethodName := ⟨RJ9, "max", "(II)I"⟩
abbrev cJ9_min_7cf53 : ByteArray := prog_10_method_69_code
def yJ9_min_7cf53 : MethodName := ⟨RJ9, "min", "(II)I"⟩
abbrev cJ9_min_f86c9 : ByteArray := prog_10_method_70_code
def yJ9_min_f86c9 : MethodName := ⟨RJ9, "min", "(JJ)J"⟩
def RJ10 : String := "java/lang/System"
def TJ10 : u_T := fun k => match k with
  | _ => ("", "", "", false)
def tyJ10 : Nat → FieldType := fun k => match k with
  | _ => .int
def RJ7 : String := "java/util/Arrays"
def TJ7 : u_T := fun k => match k with
  | _ => ("", "", "", false)
def tyJ7 : Nat → FieldType := fun k => match k with
  | _ => .int
abbrev cJ7_fill_53178 : ByteArray := prog_12_method_103_code
def yJ7_fill_53178 : MethodName := ⟨RJ7, "fill", "([II)V"⟩
def RL : String := "EvenVoyageLaw"
abbrev cL_law : ByteArray := code
def yL_law : MethodName := ⟨RL, "law", "([I)Z"⟩
abbrev vwCl : List vw_C := [(RX0, TX0, 1), (RX1, TX1, 3), (RX2, TX2, 14), (RX3, TX3, 2), (RX4, TX4, 8), (RX5, TX5, 12), (RX6, TX6, 25)]

def evT : Nat → Nat := fun kd => match kd with
  | 0 => 0
  | 1 => 0
  | 2 => 4
  | 3 => 0
  | 4 => 1
  | 5 => 1
  | 6 => 0
  | 7 => 1
  | 8 => 1
  | 9 => 1
  | 10 => 1
  | 11 => 1
  | 12 => 1
  | 13 => 1
  | 14 => 1
  | 15 => 1
  | 16 => 0
  | 17 => 4
  | 18 => 0
  | 19 => 1
  | 20 => 1
  | 21 => 4
  | 22 => 3
  | 23 => 4
  | 24 => 1
  | 25 => 1
  | 26 => 1
  | 30 => 0
  | 31 => 1
  | 32 => 1
  | 34 => 1
  | 35 => 3
  | 36 => 1
  | 38 => 1
  | 40 => 1
  | 49 => 1
  | 50 => 1
  | 51 => 1
  | 52 => 1
  | 53 => 1
  | 54 => 2
  | 55 => 1
  | _ => 9
def evC : Nat → Nat := fun kd => match kd with
  | 0 => 5
  | 1 => 0
  | 3 => 3
  | 6 => 2
  | 16 => 1
  | 18 => 4
  | 30 => 6
  | _ => 0
def evQ : Nat → vw_C := fun kd => match kd with
  | 0 => (RX5, TX5, 12)
  | 1 => (RX0, TX0, 1)
  | 3 => (RX3, TX3, 2)
  | 6 => (RX2, TX2, 14)
  | 16 => (RX1, TX1, 3)
  | 18 => (RX4, TX4, 8)
  | 30 => (RX6, TX6, 25)
  | _ => ("", fun _ => ("", "", "", false), 0)
def evY : Nat → Nat → FieldType := fun kd => match kd with
  | 0 => tyX5
  | 1 => tyX0
  | 3 => tyX3
  | 6 => tyX2
  | 16 => tyX1
  | 18 => tyX4
  | 30 => tyX6
  | _ => fun _ => .int
def evN : Nat → Nat := fun kd => match kd with
  | 0 => 12
  | 1 => 1
  | 2 => 4
  | 3 => 2
  | 4 => 9
  | 5 => 24
  | 6 => 14
  | 7 => 7
  | 8 => 7
  | 9 => 7
  | 10 => 7
  | 11 => 7
  | 12 => 7
  | 13 => 6
  | 14 => 6
  | 15 => 4
  | 16 => 3
  | 17 => 6
  | 18 => 8
  | 19 => 150
  | 20 => 4
  | 21 => 2
  | 22 => 2
  | 23 => 4
  | 24 => 6
  | 25 => 6
  | 26 => 4
  | 30 => 25
  | 31 => 132
  | 32 => 792
  | 34 => 264
  | 35 => 2
  | 36 => 150
  | 38 => 12
  | 40 => 33
  | 49 => 7
  | 50 => 7
  | 51 => 7
  | 52 => 7
  | 53 => 7
  | 54 => 7
  | 55 => 4
  | _ => 0
def evR : Nat → Nat → Option Nat := fun kd k => match kd, k with
  | 0, 0 => some 1
  | 0, 1 => some 16
  | 0, 2 => some 21
  | 0, 3 => some 22
  | 0, 4 => some 18
  | 0, 5 => some 3
  | 0, 6 => some 6
  | 0, 7 => some 23
  | 0, 8 => some 24
  | 0, 9 => some 25
  | 0, 11 => some 26
  | 1, 0 => some 2
  | 3, 0 => some 4
  | 3, 1 => some 5
  | 6, 2 => some 7
  | 6, 3 => some 8
  | 6, 4 => some 9
  | 6, 5 => some 10
  | 6, 6 => some 11
  | 6, 7 => some 12
  | 6, 8 => some 13
  | 6, 9 => some 14
  | 6, 10 => some 15
  | 16, 0 => some 17
  | 18, 0 => some 19
  | 18, 4 => some 20
  | 30, 0 => some 31
  | 30, 1 => some 32
  | 30, 3 => some 34
  | 30, 4 => some 35
  | 30, 5 => some 36
  | 30, 7 => some 38
  | 30, 9 => some 40
  | 30, 18 => some 49
  | 30, 19 => some 50
  | 30, 20 => some 51
  | 30, 21 => some 52
  | 30, 22 => some 53
  | 30, 23 => some 54
  | 30, 24 => some 55
  | _, _ => none
def evX : Nat → Nat → Nat → Nat := fun kd k x => match kd, k with
  | 0, 0 => 0
  | 0, 1 => 0
  | 0, 2 => 0
  | 0, 3 => 0
  | 0, 4 => 0
  | 0, 5 => 36
  | 0, 6 => 4
  | 0, 7 => 0
  | 0, 8 => 0
  | 0, 9 => 0
  | 0, 11 => 0
  | 1, 0 => x
  | 3, 0 => x
  | 3, 1 => x
  | 6, 2 => x
  | 6, 3 => x
  | 6, 4 => x
  | 6, 5 => x
  | 6, 6 => x
  | 6, 7 => x
  | 6, 8 => x
  | 6, 9 => x
  | 6, 10 => x
  | 16, 0 => 0
  | 18, 0 => 0
  | 18, 4 => 0
  | 30, 0 => 0
  | 30, 1 => 0
  | 30, 3 => 0
  | 30, 4 => 0
  | 30, 5 => 0
  | 30, 7 => 0
  | 30, 9 => 0
  | 30, 18 => 0
  | 30, 19 => 0
  | 30, 20 => 0
  | 30, 21 => 0
  | 30, 22 => 0
  | 30, 23 => 0
  | 30, 24 => 0
  | _, _ => 0
def evE : Nat → Nat := fun kd => match kd with
  | 2 => 3
  | 17 => 1
  | 21 => 1
  | 23 => 6
  | _ => 0
def evEX : Nat → Nat → Nat → Nat := fun kd x i => match kd with
  | 2 => 4 * x + i
  | 17 => 1 + i
  | 21 => 7 + i
  | 23 => i
  | _ => 0
def evA : Nat → Nat := fun kd => match kd with
  | 2 => 4
  | 17 => 3
  | 21 => 3
  | 23 => 5
  | _ => 0
def evst : Nat → Nat → Int32 := fun kd j => match kd with
  | 61 => ([0, 20, 0, 0, 0, 1, 2, 4, 8] : List Int32).getD j 0
  | 62 => ([1, 0, 0, 0] : List Int32).getD j 0
  | _ => ([99, 9, 999, 999] : List Int32).getD j 0
