section
-- ===== PART A: goes FIRST, ahead of the names: the tables' words, and 'selects' of the private methods out of them =====
/-- a private method of a class that the tables say can be made, by its rows of tables_1 -/
def lw_okq (q : MethodName × Nat) : Prop := (q.1.cls ≠ "java/lang/invoke/MethodHandle" ∧ q.1.cls ≠ "java/lang/invoke/VarHandle") ∧ Cond.instantiable q.1.cls q.2 ∈ tables_1 ∧ Cond.privateMethod q.1 ∈ tables_1 ∧ Cond.instanceMethod q.1 ∈ tables_1
theorem lw_p0 : lw_okq (⟨"EvenVoyage$Text", "takesToken", "(LEvenVoyage$Ship;I)Z"⟩, 8) := ⟨⟨by decide +kernel, by decide +kernel⟩, List.mem_of_getElem? (i := 78) (by decide +kernel), List.mem_of_getElem? (i := 231) (by decide +kernel), List.mem_of_getElem? (i := 232) (by decide +kernel)⟩
theorem lw_p1 : lw_okq (⟨"EvenVoyage$Text", "beginsItem", "(LEvenVoyage$Ship;I)Z"⟩, 8) := ⟨⟨by decide +kernel, by decide +kernel⟩, List.mem_of_getElem? (i := 78) (by decide +kernel), List.mem_of_getElem? (i := 235) (by decide +kernel), List.mem_of_getElem? (i := 236) (by decide +kernel)⟩
theorem lw_p2 : lw_okq (⟨"EvenVoyage$Text", "numbersOfItem", "()I"⟩, 8) := ⟨⟨by decide +kernel, by decide +kernel⟩, List.mem_of_getElem? (i := 78) (by decide +kernel), List.mem_of_getElem? (i := 243) (by decide +kernel), List.mem_of_getElem? (i := 244) (by decide +kernel)⟩
theorem lw_p3 : lw_okq (⟨"EvenVoyage$Text", "numberAt", "(I)I"⟩, 8) := ⟨⟨by decide +kernel, by decide +kernel⟩, List.mem_of_getElem? (i := 78) (by decide +kernel), List.mem_of_getElem? (i := 250) (by decide +kernel), List.mem_of_getElem? (i := 251) (by decide +kernel)⟩
theorem lw_p4 : lw_okq (⟨"EvenVoyage$Text", "tokenEnd", "(I)I"⟩, 8) := ⟨⟨by decide +kernel, by decide +kernel⟩, List.mem_of_getElem? (i := 78) (by decide +kernel), List.mem_of_getElem? (i := 254) (by decide +kernel), List.mem_of_getElem? (i := 255) (by decide +kernel)⟩
theorem lw_p5 : lw_okq (⟨"EvenVoyage$Text", "takesNumber", "(I)Z"⟩, 8) := ⟨⟨by decide +kernel, by decide +kernel⟩, List.mem_of_getElem? (i := 78) (by decide +kernel), List.mem_of_getElem? (i := 261) (by decide +kernel), List.mem_of_getElem? (i := 262) (by decide +kernel)⟩
theorem lw_p6 : lw_okq (⟨"EvenVoyage$Text", "least", "()I"⟩, 8) := ⟨⟨by decide +kernel, by decide +kernel⟩, List.mem_of_getElem? (i := 78) (by decide +kernel), List.mem_of_getElem? (i := 265) (by decide +kernel), List.mem_of_getElem? (i := 266) (by decide +kernel)⟩
theorem lw_p7 : lw_okq (⟨"EvenVoyage$Text", "greatest", "()I"⟩, 8) := ⟨⟨by decide +kernel, by decide +kernel⟩, List.mem_of_getElem? (i := 78) (by decide +kernel), List.mem_of_getElem? (i := 271) (by decide +kernel), List.mem_of_getElem? (i := 272) (by decide +kernel)⟩
theorem lw_p8 : lw_okq (⟨"EvenVoyage$Text", "endItem", "(LEvenVoyage$Ship;)V"⟩, 8) := ⟨⟨by decide +kernel, by decide +kernel⟩, List.mem_of_getElem? (i := 78) (by decide +kernel), List.mem_of_getElem? (i := 277) (by decide +kernel), List.mem_of_getElem? (i := 278) (by decide +kernel)⟩
theorem lw_p9 : lw_okq (⟨"EvenVoyage", "drawnPlan", "(I)LEvenVoyage$Plan;"⟩, 12) := ⟨⟨by decide +kernel, by decide +kernel⟩, List.mem_of_getElem? (i := 13) (by decide +kernel), List.mem_of_getElem? (i := 310) (by decide +kernel), List.mem_of_getElem? (i := 311) (by decide +kernel)⟩
theorem lw_p10 : lw_okq (⟨"EvenVoyage$Plan", "layPorts", "(LEvenVoyage$Ship;)V"⟩, 14) := ⟨⟨by decide +kernel, by decide +kernel⟩, List.mem_of_getElem? (i := 112) (by decide +kernel), List.mem_of_getElem? (i := 323) (by decide +kernel), List.mem_of_getElem? (i := 324) (by decide +kernel)⟩
theorem lw_p11 : lw_okq (⟨"EvenVoyage$Plan", "splitStretches", "()V"⟩, 14) := ⟨⟨by decide +kernel, by decide +kernel⟩, List.mem_of_getElem? (i := 112) (by decide +kernel), List.mem_of_getElem? (i := 331) (by decide +kernel), List.mem_of_getElem? (i := 332) (by decide +kernel)⟩
theorem lw_p12 : lw_okq (⟨"EvenVoyage$Plan", "nextEnd", "(I)I"⟩, 14) := ⟨⟨by decide +kernel, by decide +kernel⟩, List.mem_of_getElem? (i := 112) (by decide +kernel), List.mem_of_getElem? (i := 335) (by decide +kernel), List.mem_of_getElem? (i := 336) (by decide +kernel)⟩
theorem lw_p13 : lw_okq (⟨"EvenVoyage$Plan", "mostMissed", "(II)I"⟩, 14) := ⟨⟨by decide +kernel, by decide +kernel⟩, List.mem_of_getElem? (i := 112) (by decide +kernel), List.mem_of_getElem? (i := 339) (by decide +kernel), List.mem_of_getElem? (i := 340) (by decide +kernel)⟩
theorem lw_p14 : lw_okq (⟨"EvenVoyage$Plan", "missAt", "(III)I"⟩, 14) := ⟨⟨by decide +kernel, by decide +kernel⟩, List.mem_of_getElem? (i := 112) (by decide +kernel), List.mem_of_getElem? (i := 343) (by decide +kernel), List.mem_of_getElem? (i := 344) (by decide +kernel)⟩
theorem lw_p15 : lw_okq (⟨"EvenVoyage$Plan", "evenHour", "(III)I"⟩, 14) := ⟨⟨by decide +kernel, by decide +kernel⟩, List.mem_of_getElem? (i := 112) (by decide +kernel), List.mem_of_getElem? (i := 347) (by decide +kernel), List.mem_of_getElem? (i := 348) (by decide +kernel)⟩
def lw_privs_1 : List (MethodName × Nat) := [(⟨"EvenVoyage$Text", "takesToken", "(LEvenVoyage$Ship;I)Z"⟩, 8), (⟨"EvenVoyage$Text", "beginsItem", "(LEvenVoyage$Ship;I)Z"⟩, 8), (⟨"EvenVoyage$Text", "numbersOfItem", "()I"⟩, 8), (⟨"EvenVoyage$Text", "numberAt", "(I)I"⟩, 8), (⟨"EvenVoyage$Text", "tokenEnd", "(I)I"⟩, 8), (⟨"EvenVoyage$Text", "takesNumber", "(I)Z"⟩, 8), (⟨"EvenVoyage$Text", "least", "()I"⟩, 8), (⟨"EvenVoyage$Text", "greatest", "()I"⟩, 8), (⟨"EvenVoyage$Text", "endItem", "(LEvenVoyage$Ship;)V"⟩, 8), (⟨"EvenVoyage", "drawnPlan", "(I)LEvenVoyage$Plan;"⟩, 12), (⟨"EvenVoyage$Plan", "layPorts", "(LEvenVoyage$Ship;)V"⟩, 14), (⟨"EvenVoyage$Plan", "splitStretches", "()V"⟩, 14), (⟨"EvenVoyage$Plan", "nextEnd", "(I)I"⟩, 14), (⟨"EvenVoyage$Plan", "mostMissed", "(II)I"⟩, 14), (⟨"EvenVoyage$Plan", "missAt", "(III)I"⟩, 14), (⟨"EvenVoyage$Plan", "evenHour", "(III)I"⟩, 14)]
theorem lw_r1 : ∀ q ∈ lw_privs_1, lw_okq q := List.forall_mem_cons.mpr ⟨lw_p0, List.forall_mem_cons.mpr ⟨lw_p1, List.forall_mem_cons.mpr ⟨lw_p2, List.forall_mem_cons.mpr ⟨lw_p3, List.forall_mem_cons.mpr ⟨lw_p4, List.forall_mem_cons.mpr ⟨lw_p5, List.forall_mem_cons.mpr ⟨lw_p6, List.forall_mem_cons.mpr ⟨lw_p7, List.forall_mem_cons.mpr ⟨lw_p8, List.forall_mem_cons.mpr ⟨lw_p9, List.forall_mem_cons.mpr ⟨lw_p10, List.forall_mem_cons.mpr ⟨lw_p11, List.forall_mem_cons.mpr ⟨lw_p12, List.forall_mem_cons.mpr ⟨lw_p13, List.forall_mem_cons.mpr ⟨lw_p14, List.forall_mem_cons.mpr ⟨lw_p15, fun _ h => absurd h List.not_mem_nil⟩⟩⟩⟩⟩⟩⟩⟩⟩⟩⟩⟩⟩⟩⟩⟩
theorem lw_p16 : lw_okq (⟨"EvenVoyage$Plan", "measureStretches", "()V"⟩, 14) := ⟨⟨by decide +kernel, by decide +kernel⟩, List.mem_of_getElem? (i := 112) (by decide +kernel), List.mem_of_getElem? (i := 354) (by decide +kernel), List.mem_of_getElem? (i := 355) (by decide +kernel)⟩
theorem lw_p17 : lw_okq (⟨"EvenVoyage$Plan", "isNoLeg", "(I)Z"⟩, 14) := ⟨⟨by decide +kernel, by decide +kernel⟩, List.mem_of_getElem? (i := 112) (by decide +kernel), List.mem_of_getElem? (i := 375) (by decide +kernel), List.mem_of_getElem? (i := 376) (by decide +kernel)⟩
theorem lw_p18 : lw_okq (⟨"EvenVoyage$Plan", "milesOfLeg", "(I)I"⟩, 14) := ⟨⟨by decide +kernel, by decide +kernel⟩, List.mem_of_getElem? (i := 112) (by decide +kernel), List.mem_of_getElem? (i := 400) (by decide +kernel), List.mem_of_getElem? (i := 401) (by decide +kernel)⟩
theorem lw_p19 : lw_okq (⟨"EvenVoyage", "drawEased", "(LEvenVoyage$Ship;II)V"⟩, 12) := ⟨⟨by decide +kernel, by decide +kernel⟩, List.mem_of_getElem? (i := 13) (by decide +kernel), List.mem_of_getElem? (i := 508) (by decide +kernel), List.mem_of_getElem? (i := 509) (by decide +kernel)⟩
theorem lw_p20 : lw_okq (⟨"EvenVoyage$Plan", "sailedOnLeg", "(II)I"⟩, 14) := ⟨⟨by decide +kernel, by decide +kernel⟩, List.mem_of_getElem? (i := 112) (by decide +kernel), List.mem_of_getElem? (i := 521) (by decide +kernel), List.mem_of_getElem? (i := 522) (by decide +kernel)⟩
theorem lw_p21 : lw_okq (⟨"EvenVoyage", "drawAllPlans", "()V"⟩, 12) := ⟨⟨by decide +kernel, by decide +kernel⟩, List.mem_of_getElem? (i := 13) (by decide +kernel), List.mem_of_getElem? (i := 537) (by decide +kernel), List.mem_of_getElem? (i := 538) (by decide +kernel)⟩
theorem lw_p22 : lw_okq (⟨"EvenVoyage", "suspects", "()I"⟩, 12) := ⟨⟨by decide +kernel, by decide +kernel⟩, List.mem_of_getElem? (i := 13) (by decide +kernel), List.mem_of_getElem? (i := 541) (by decide +kernel), List.mem_of_getElem? (i := 542) (by decide +kernel)⟩
theorem lw_p23 : lw_okq (⟨"EvenVoyage", "agrees", "(LEvenVoyage$Plan;)Z"⟩, 12) := ⟨⟨by decide +kernel, by decide +kernel⟩, List.mem_of_getElem? (i := 13) (by decide +kernel), List.mem_of_getElem? (i := 545) (by decide +kernel), List.mem_of_getElem? (i := 546) (by decide +kernel)⟩
theorem lw_p24 : lw_okq (⟨"EvenVoyage", "mostAlike", "(II)I"⟩, 12) := ⟨⟨by decide +kernel, by decide +kernel⟩, List.mem_of_getElem? (i := 13) (by decide +kernel), List.mem_of_getElem? (i := 559) (by decide +kernel), List.mem_of_getElem? (i := 560) (by decide +kernel)⟩
theorem lw_p25 : lw_okq (⟨"EvenVoyageModel", "reads", "()I"⟩, 25) := ⟨⟨by decide +kernel, by decide +kernel⟩, List.mem_of_getElem? (i := 586) (by decide +kernel), List.mem_of_getElem? (i := 694) (by decide +kernel), List.mem_of_getElem? (i := 695) (by decide +kernel)⟩
theorem lw_p26 : lw_okq (⟨"EvenVoyageModel", "blanks", "()V"⟩, 25) := ⟨⟨by decide +kernel, by decide +kernel⟩, List.mem_of_getElem? (i := 586) (by decide +kernel), List.mem_of_getElem? (i := 698) (by decide +kernel), List.mem_of_getElem? (i := 699) (by decide +kernel)⟩
theorem lw_p27 : lw_okq (⟨"EvenVoyageModel", "takesLeg", "()Z"⟩, 25) := ⟨⟨by decide +kernel, by decide +kernel⟩, List.mem_of_getElem? (i := 586) (by decide +kernel), List.mem_of_getElem? (i := 702) (by decide +kernel), List.mem_of_getElem? (i := 703) (by decide +kernel)⟩
theorem lw_p28 : lw_okq (⟨"EvenVoyageModel", "takesNumber", "(II)Z"⟩, 25) := ⟨⟨by decide +kernel, by decide +kernel⟩, List.mem_of_getElem? (i := 586) (by decide +kernel), List.mem_of_getElem? (i := 709) (by decide +kernel), List.mem_of_getElem? (i := 710) (by decide +kernel)⟩
theorem lw_p29 : lw_okq (⟨"EvenVoyageModel", "isAt", "(II)Z"⟩, 25) := ⟨⟨by decide +kernel, by decide +kernel⟩, List.mem_of_getElem? (i := 586) (by decide +kernel), List.mem_of_getElem? (i := 713) (by decide +kernel), List.mem_of_getElem? (i := 714) (by decide +kernel)⟩
theorem lw_p30 : lw_okq (⟨"EvenVoyageModel", "takesStop", "()Z"⟩, 25) := ⟨⟨by decide +kernel, by decide +kernel⟩, List.mem_of_getElem? (i := 586) (by decide +kernel), List.mem_of_getElem? (i := 717) (by decide +kernel), List.mem_of_getElem? (i := 718) (by decide +kernel)⟩
theorem lw_p31 : lw_okq (⟨"EvenVoyageModel", "takesFastest", "()Z"⟩, 25) := ⟨⟨by decide +kernel, by decide +kernel⟩, List.mem_of_getElem? (i := 586) (by decide +kernel), List.mem_of_getElem? (i := 721) (by decide +kernel), List.mem_of_getElem? (i := 722) (by decide +kernel)⟩
def lw_privs_2 : List (MethodName × Nat) := [(⟨"EvenVoyage$Plan", "measureStretches", "()V"⟩, 14), (⟨"EvenVoyage$Plan", "isNoLeg", "(I)Z"⟩, 14), (⟨"EvenVoyage$Plan", "milesOfLeg", "(I)I"⟩, 14), (⟨"EvenVoyage", "drawEased", "(LEvenVoyage$Ship;II)V"⟩, 12), (⟨"EvenVoyage$Plan", "sailedOnLeg", "(II)I"⟩, 14), (⟨"EvenVoyage", "drawAllPlans", "()V"⟩, 12), (⟨"EvenVoyage", "suspects", "()I"⟩, 12), (⟨"EvenVoyage", "agrees", "(LEvenVoyage$Plan;)Z"⟩, 12), (⟨"EvenVoyage", "mostAlike", "(II)I"⟩, 12), (⟨"EvenVoyageModel", "reads", "()I"⟩, 25), (⟨"EvenVoyageModel", "blanks", "()V"⟩, 25), (⟨"EvenVoyageModel", "takesLeg", "()Z"⟩, 25), (⟨"EvenVoyageModel", "takesNumber", "(II)Z"⟩, 25), (⟨"EvenVoyageModel", "isAt", "(II)Z"⟩, 25), (⟨"EvenVoyageModel", "takesStop", "()Z"⟩, 25), (⟨"EvenVoyageModel", "takesFastest", "()Z"⟩, 25)]
theorem lw_r2 : ∀ q ∈ lw_privs_2, lw_okq q := List.forall_mem_cons.mpr ⟨lw_p16, List.forall_mem_cons.mpr ⟨lw_p17, List.forall_mem_cons.mpr ⟨lw_p18, List.forall_mem_cons.mpr ⟨lw_p19, List.forall_mem_cons.mpr ⟨lw_p20, List.forall_mem_cons.mpr ⟨lw_p21, List.forall_mem_cons.mpr ⟨lw_p22, List.forall_mem_cons.mpr ⟨lw_p23, List.forall_mem_cons.mpr ⟨lw_p24, List.forall_mem_cons.mpr ⟨lw_p25, List.forall_mem_cons.mpr ⟨lw_p26, List.forall_mem_cons.mpr ⟨lw_p27, List.forall_mem_cons.mpr ⟨lw_p28, List.forall_mem_cons.mpr ⟨lw_p29, List.forall_mem_cons.mpr ⟨lw_p30, List.forall_mem_cons.mpr ⟨lw_p31, fun _ h => absurd h List.not_mem_nil⟩⟩⟩⟩⟩⟩⟩⟩⟩⟩⟩⟩⟩⟩⟩⟩
theorem lw_p32 : lw_okq (⟨"EvenVoyageModel", "takesTable", "()Z"⟩, 25) := ⟨⟨by decide +kernel, by decide +kernel⟩, List.mem_of_getElem? (i := 586) (by decide +kernel), List.mem_of_getElem? (i := 725) (by decide +kernel), List.mem_of_getElem? (i := 726) (by decide +kernel)⟩
theorem lw_p33 : lw_okq (⟨"EvenVoyageModel", "remembers", "()V"⟩, 25) := ⟨⟨by decide +kernel, by decide +kernel⟩, List.mem_of_getElem? (i := 586) (by decide +kernel), List.mem_of_getElem? (i := 729) (by decide +kernel), List.mem_of_getElem? (i := 730) (by decide +kernel)⟩
theorem lw_p34 : lw_okq (⟨"EvenVoyageModel", "plans", "(I)Z"⟩, 25) := ⟨⟨by decide +kernel, by decide +kernel⟩, List.mem_of_getElem? (i := 586) (by decide +kernel), List.mem_of_getElem? (i := 737) (by decide +kernel), List.mem_of_getElem? (i := 738) (by decide +kernel)⟩
theorem lw_p35 : lw_okq (⟨"EvenVoyageModel", "lays", "(IIII)V"⟩, 25) := ⟨⟨by decide +kernel, by decide +kernel⟩, List.mem_of_getElem? (i := 586) (by decide +kernel), List.mem_of_getElem? (i := 741) (by decide +kernel), List.mem_of_getElem? (i := 742) (by decide +kernel)⟩
theorem lw_p36 : lw_okq (⟨"EvenVoyageModel", "of", "(II)I"⟩, 25) := ⟨⟨by decide +kernel, by decide +kernel⟩, List.mem_of_getElem? (i := 586) (by decide +kernel), List.mem_of_getElem? (i := 745) (by decide +kernel), List.mem_of_getElem? (i := 746) (by decide +kernel)⟩
theorem lw_p37 : lw_okq (⟨"EvenVoyageModel", "ofLeg", "(III)I"⟩, 25) := ⟨⟨by decide +kernel, by decide +kernel⟩, List.mem_of_getElem? (i := 586) (by decide +kernel), List.mem_of_getElem? (i := 749) (by decide +kernel), List.mem_of_getElem? (i := 750) (by decide +kernel)⟩
theorem lw_p38 : lw_okq (⟨"EvenVoyageModel", "marksAll", "()V"⟩, 25) := ⟨⟨by decide +kernel, by decide +kernel⟩, List.mem_of_getElem? (i := 586) (by decide +kernel), List.mem_of_getElem? (i := 753) (by decide +kernel), List.mem_of_getElem? (i := 754) (by decide +kernel)⟩
theorem lw_p39 : lw_okq (⟨"EvenVoyageModel", "markBehind", "(I)I"⟩, 25) := ⟨⟨by decide +kernel, by decide +kernel⟩, List.mem_of_getElem? (i := 586) (by decide +kernel), List.mem_of_getElem? (i := 757) (by decide +kernel), List.mem_of_getElem? (i := 758) (by decide +kernel)⟩
theorem lw_p40 : lw_okq (⟨"EvenVoyageModel", "marksOne", "(II)Z"⟩, 25) := ⟨⟨by decide +kernel, by decide +kernel⟩, List.mem_of_getElem? (i := 586) (by decide +kernel), List.mem_of_getElem? (i := 761) (by decide +kernel), List.mem_of_getElem? (i := 762) (by decide +kernel)⟩
theorem lw_p41 : lw_okq (⟨"EvenVoyageModel", "missedTimes", "(III)J"⟩, 25) := ⟨⟨by decide +kernel, by decide +kernel⟩, List.mem_of_getElem? (i := 586) (by decide +kernel), List.mem_of_getElem? (i := 765) (by decide +kernel), List.mem_of_getElem? (i := 766) (by decide +kernel)⟩
theorem lw_p42 : lw_okq (⟨"EvenVoyageModel", "evenTimes", "(III)J"⟩, 25) := ⟨⟨by decide +kernel, by decide +kernel⟩, List.mem_of_getElem? (i := 586) (by decide +kernel), List.mem_of_getElem? (i := 769) (by decide +kernel), List.mem_of_getElem? (i := 770) (by decide +kernel)⟩
theorem lw_p43 : lw_okq (⟨"EvenVoyageModel", "hasPlan", "()Z"⟩, 25) := ⟨⟨by decide +kernel, by decide +kernel⟩, List.mem_of_getElem? (i := 586) (by decide +kernel), List.mem_of_getElem? (i := 773) (by decide +kernel), List.mem_of_getElem? (i := 774) (by decide +kernel)⟩
theorem lw_p44 : lw_okq (⟨"EvenVoyageModel", "fastNeeded", "()I"⟩, 25) := ⟨⟨by decide +kernel, by decide +kernel⟩, List.mem_of_getElem? (i := 586) (by decide +kernel), List.mem_of_getElem? (i := 777) (by decide +kernel), List.mem_of_getElem? (i := 778) (by decide +kernel)⟩
theorem lw_p45 : lw_okq (⟨"EvenVoyageModel", "milesAt", "(I)J"⟩, 25) := ⟨⟨by decide +kernel, by decide +kernel⟩, List.mem_of_getElem? (i := 586) (by decide +kernel), List.mem_of_getElem? (i := 781) (by decide +kernel), List.mem_of_getElem? (i := 782) (by decide +kernel)⟩
theorem lw_p46 : lw_okq (⟨"EvenVoyageModel", "markAhead", "(I)I"⟩, 25) := ⟨⟨by decide +kernel, by decide +kernel⟩, List.mem_of_getElem? (i := 586) (by decide +kernel), List.mem_of_getElem? (i := 785) (by decide +kernel), List.mem_of_getElem? (i := 786) (by decide +kernel)⟩
theorem lw_p47 : lw_okq (⟨"EvenVoyageModel", "timeTimes", "(I)J"⟩, 25) := ⟨⟨by decide +kernel, by decide +kernel⟩, List.mem_of_getElem? (i := 586) (by decide +kernel), List.mem_of_getElem? (i := 789) (by decide +kernel), List.mem_of_getElem? (i := 790) (by decide +kernel)⟩
def lw_privs_3 : List (MethodName × Nat) := [(⟨"EvenVoyageModel", "takesTable", "()Z"⟩, 25), (⟨"EvenVoyageModel", "remembers", "()V"⟩, 25), (⟨"EvenVoyageModel", "plans", "(I)Z"⟩, 25), (⟨"EvenVoyageModel", "lays", "(IIII)V"⟩, 25), (⟨"EvenVoyageModel", "of", "(II)I"⟩, 25), (⟨"EvenVoyageModel", "ofLeg", "(III)I"⟩, 25), (⟨"EvenVoyageModel", "marksAll", "()V"⟩, 25), (⟨"EvenVoyageModel", "markBehind", "(I)I"⟩, 25), (⟨"EvenVoyageModel", "marksOne", "(II)Z"⟩, 25), (⟨"EvenVoyageModel", "missedTimes", "(III)J"⟩, 25), (⟨"EvenVoyageModel", "evenTimes", "(III)J"⟩, 25), (⟨"EvenVoyageModel", "hasPlan", "()Z"⟩, 25), (⟨"EvenVoyageModel", "fastNeeded", "()I"⟩, 25), (⟨"EvenVoyageModel", "milesAt", "(I)J"⟩, 25), (⟨"EvenVoyageModel", "markAhead", "(I)I"⟩, 25), (⟨"EvenVoyageModel", "timeTimes", "(I)J"⟩, 25)]
theorem lw_r3 : ∀ q ∈ lw_privs_3, lw_okq q := List.forall_mem_cons.mpr ⟨lw_p32, List.forall_mem_cons.mpr ⟨lw_p33, List.forall_mem_cons.mpr ⟨lw_p34, List.forall_mem_cons.mpr ⟨lw_p35, List.forall_mem_cons.mpr ⟨lw_p36, List.forall_mem_cons.mpr ⟨lw_p37, List.forall_mem_cons.mpr ⟨lw_p38, List.forall_mem_cons.mpr ⟨lw_p39, List.forall_mem_cons.mpr ⟨lw_p40, List.forall_mem_cons.mpr ⟨lw_p41, List.forall_mem_cons.mpr ⟨lw_p42, List.forall_mem_cons.mpr ⟨lw_p43, List.forall_mem_cons.mpr ⟨lw_p44, List.forall_mem_cons.mpr ⟨lw_p45, List.forall_mem_cons.mpr ⟨lw_p46, List.forall_mem_cons.mpr ⟨lw_p47, fun _ h => absurd h List.not_mem_nil⟩⟩⟩⟩⟩⟩⟩⟩⟩⟩⟩⟩⟩⟩⟩⟩
theorem lw_p48 : lw_okq (⟨"EvenVoyageModel", "costOf", "(I)I"⟩, 25) := ⟨⟨by decide +kernel, by decide +kernel⟩, List.mem_of_getElem? (i := 586) (by decide +kernel), List.mem_of_getElem? (i := 793) (by decide +kernel), List.mem_of_getElem? (i := 794) (by decide +kernel)⟩
theorem lw_p49 : lw_okq (⟨"EvenVoyageModel", "isAhead", "(II)Z"⟩, 25) := ⟨⟨by decide +kernel, by decide +kernel⟩, List.mem_of_getElem? (i := 586) (by decide +kernel), List.mem_of_getElem? (i := 807) (by decide +kernel), List.mem_of_getElem? (i := 808) (by decide +kernel)⟩
theorem lw_p50 : lw_okq (⟨"EvenVoyageModel", "stretches", "()I"⟩, 25) := ⟨⟨by decide +kernel, by decide +kernel⟩, List.mem_of_getElem? (i := 586) (by decide +kernel), List.mem_of_getElem? (i := 827) (by decide +kernel), List.mem_of_getElem? (i := 828) (by decide +kernel)⟩
theorem lw_p51 : lw_okq (⟨"EvenVoyageModel", "costsAhead", "()I"⟩, 25) := ⟨⟨by decide +kernel, by decide +kernel⟩, List.mem_of_getElem? (i := 586) (by decide +kernel), List.mem_of_getElem? (i := 831) (by decide +kernel), List.mem_of_getElem? (i := 832) (by decide +kernel)⟩
theorem lw_p52 : lw_okq (⟨"EvenVoyageModel", "mileOf", "(II)I"⟩, 25) := ⟨⟨by decide +kernel, by decide +kernel⟩, List.mem_of_getElem? (i := 586) (by decide +kernel), List.mem_of_getElem? (i := 875) (by decide +kernel), List.mem_of_getElem? (i := 876) (by decide +kernel)⟩
theorem lw_p53 : lw_okq (⟨"EvenVoyageModel", "mileAt", "(I)I"⟩, 25) := ⟨⟨by decide +kernel, by decide +kernel⟩, List.mem_of_getElem? (i := 586) (by decide +kernel), List.mem_of_getElem? (i := 879) (by decide +kernel), List.mem_of_getElem? (i := 880) (by decide +kernel)⟩
theorem lw_p54 : lw_okq (⟨"EvenVoyageModel", "whichNow", "()I"⟩, 25) := ⟨⟨by decide +kernel, by decide +kernel⟩, List.mem_of_getElem? (i := 586) (by decide +kernel), List.mem_of_getElem? (i := 895) (by decide +kernel), List.mem_of_getElem? (i := 896) (by decide +kernel)⟩
theorem lw_p55 : lw_okq (⟨"EvenVoyageModel", "alikeAt", "(II)I"⟩, 25) := ⟨⟨by decide +kernel, by decide +kernel⟩, List.mem_of_getElem? (i := 586) (by decide +kernel), List.mem_of_getElem? (i := 903) (by decide +kernel), List.mem_of_getElem? (i := 904) (by decide +kernel)⟩
theorem lw_p56 : lw_okq (⟨"EvenVoyageModel", "legsOfAll", "()I"⟩, 25) := ⟨⟨by decide +kernel, by decide +kernel⟩, List.mem_of_getElem? (i := 586) (by decide +kernel), List.mem_of_getElem? (i := 911) (by decide +kernel), List.mem_of_getElem? (i := 912) (by decide +kernel)⟩
def lw_privs_4 : List (MethodName × Nat) := [(⟨"EvenVoyageModel", "costOf", "(I)I"⟩, 25), (⟨"EvenVoyageModel", "isAhead", "(II)Z"⟩, 25), (⟨"EvenVoyageModel", "stretches", "()I"⟩, 25), (⟨"EvenVoyageModel", "costsAhead", "()I"⟩, 25), (⟨"EvenVoyageModel", "mileOf", "(II)I"⟩, 25), (⟨"EvenVoyageModel", "mileAt", "(I)I"⟩, 25), (⟨"EvenVoyageModel", "whichNow", "()I"⟩, 25), (⟨"EvenVoyageModel", "alikeAt", "(II)I"⟩, 25), (⟨"EvenVoyageModel", "legsOfAll", "()I"⟩, 25)]
theorem lw_r4 : ∀ q ∈ lw_privs_4, lw_okq q := List.forall_mem_cons.mpr ⟨lw_p48, List.forall_mem_cons.mpr ⟨lw_p49, List.forall_mem_cons.mpr ⟨lw_p50, List.forall_mem_cons.mpr ⟨lw_p51, List.forall_mem_cons.mpr ⟨lw_p52, List.forall_mem_cons.mpr ⟨lw_p53, List.forall_mem_cons.mpr ⟨lw_p54, List.forall_mem_cons.mpr ⟨lw_p55, List.forall_mem_cons.mpr ⟨lw_p56, fun _ h => absurd h List.not_mem_nil⟩⟩⟩⟩⟩⟩⟩⟩⟩
def lw_privs : List (MethodName × Nat) := lw_privs_1 ++ (lw_privs_2 ++ (lw_privs_3 ++ (lw_privs_4)))
def lw_tbl : List Cond := k2_sels lw_privs ++ tables_1
theorem lw_privs_ok : ∀ q ∈ lw_privs, lw_okq q := by
  show ∀ q ∈ lw_privs_1 ++ (lw_privs_2 ++ (lw_privs_3 ++ (lw_privs_4))), lw_okq q
  exact List.forall_mem_append.mpr ⟨lw_r1, List.forall_mem_append.mpr ⟨lw_r2, List.forall_mem_append.mpr ⟨lw_r3, lw_r4⟩⟩⟩

def RX0 : String := "EvenVoyage$Fleet"
def TX0 : u_T := fun k => match k with
  | _ => ("EvenVoyage$Fleet", "ships", "[LEvenVoyage$Ship;", true)
def tyX0 : Nat → FieldType := fun k => match k with
  | _ => .array (.object "EvenVoyage$Ship")
theorem nmX0 : ∀ a, a < 1 → ∀ b, b < 1 → a ≠ b → (TX0 a).2.1 ≠ (TX0 b).2.1 := by decide +kernel
theorem tyX0_ok : ∀ k, k < 1 → parseFieldDescriptor (TX0 k).2.2.1 = some (tyX0 k) := by decide +kernel
abbrev cX0_init : ByteArray := prog_2_method_1_code
def yX0_init : MethodName := ⟨RX0, "<init>", "()V"⟩
abbrev cX0_becomeLike : ByteArray := prog_2_method_2_code
def yX0_becomeLike : MethodName := ⟨RX0, "becomeLike", "(LEvenVoyage$Fleet;)V"⟩
abbrev cX0_legsInAll : ByteArray := prog_2_method_3_code
def yX0_legsInAll : MethodName := ⟨RX0, "legsInAll", "()I"⟩
def RX1 : String := "EvenVoyage$Past"
def TX1 : u_T := fun k => match k with
  | 0 => ("EvenVoyage$Past", "fleets", "[LEvenVoyage$Fleet;", true)
  | 1 => ("EvenVoyage$Past", "next", "I", false)
  | _ => ("EvenVoyage$Past", "knownCount", "I", false)
def tyX1 : Nat → FieldType := fun k => match k with
  | 0 => .array (.object "EvenVoyage$Fleet")
  | 1 => .int
  | _ => .int
theorem nmX1 : ∀ a, a < 3 → ∀ b, b < 3 → a ≠ b → (TX1 a).2.1 ≠ (TX1 b).2.1 := by decide +kernel
theorem tyX1_ok : ∀ k, k < 3 → parseFieldDescriptor (TX1 k).2.2.1 = some (tyX1 k) := by decide +kernel
abbrev cX1_init : ByteArray := prog_3_method_1_code
def yX1_init : MethodName := ⟨RX1, "<init>", "()V"⟩
abbrev cX1_known : ByteArray := prog_3_method_2_code
def yX1_known : MethodName := ⟨RX1, "known", "()I"⟩
abbrev cX1_remember : ByteArray := prog_3_method_3_code
def yX1_remember : MethodName := ⟨RX1, "remember", "(LEvenVoyage$Fleet;)V"⟩
abbrev cX1_restore : ByteArray := prog_3_method_4_code
def yX1_restore : MethodName := ⟨RX1, "restore", "(LEvenVoyage$Fleet;)V"⟩
abbrev cX1_lose : ByteArray := prog_3_method_5_code
def yX1_lose : MethodName := ⟨RX1, "lose", "()V"⟩
def RX2 : String := "EvenVoyage$Plan"
def TX2 : u_T := fun k => match k with
  | 0 => ("EvenVoyage$Plan", "first", "I", false)
  | 1 => ("EvenVoyage$Plan", "last", "I", false)
  | 2 => ("EvenVoyage$Plan", "milesUpTo", "[I", true)
  | 3 => ("EvenVoyage$Plan", "waits", "[I", true)
  | 4 => ("EvenVoyage$Plan", "lows", "[I", true)
  | 5 => ("EvenVoyage$Plan", "highs", "[I", true)
  | 6 => ("EvenVoyage$Plan", "hours", "[I", true)
  | 7 => ("EvenVoyage$Plan", "ends", "[I", true)
  | 8 => ("EvenVoyage$Plan", "stretchBegin", "[I", true)
  | 9 => ("EvenVoyage$Plan", "stretchEnd", "[I", true)
  | 10 => ("EvenVoyage$Plan", "table", "[I", true)
  | 11 => ("EvenVoyage$Plan", "stretches", "I", false)
  | 12 => ("EvenVoyage$Plan", "needed", "I", false)
  | _ => ("EvenVoyage$Plan", "fastest", "I", false)
def tyX2 : Nat → FieldType := fun k => match k with
  | 0 => .int
  | 1 => .int
  | 2 => .array .int
  | 3 => .array .int
  | 4 => .array .int
  | 5 => .array .int
  | 6 => .array .int
  | 7 => .array .int
  | 8 => .array .int
  | 9 => .array .int
  | 10 => .array .int
  | 11 => .int
  | 12 => .int
  | _ => .int
theorem nmX2 : ∀ a, a < 14 → ∀ b, b < 14 → a ≠ b → (TX2 a).2.1 ≠ (TX2 b).2.1 := by decide +kernel
theorem tyX2_ok : ∀ k, k < 14 → parseFieldDescriptor (TX2 k).2.2.1 = some (tyX2 k) := by decide +kernel
abbrev cX2_init : ByteArray := prog_4_method_1_code
def yX2_init : MethodName := ⟨RX2, "<init>", "()V"⟩
abbrev cX2_draw : ByteArray := prog_4_method_2_code
def yX2_draw : MethodName := ⟨RX2, "draw", "(LEvenVoyage$Ship;)V"⟩
abbrev cX2_stands : ByteArray := prog_4_method_3_code
def yX2_stands : MethodName := ⟨RX2, "stands", "()Z"⟩
abbrev cX2_neededSpeed : ByteArray := prog_4_method_4_code
def yX2_neededSpeed : MethodName := ⟨RX2, "neededSpeed", "()I"⟩
abbrev cX2_stretchCount : ByteArray := prog_4_method_5_code
def yX2_stretchCount : MethodName := ⟨RX2, "stretchCount", "()I"⟩
abbrev cX2_meetingAt : ByteArray := prog_4_method_6_code
def yX2_meetingAt : MethodName := ⟨RX2, "meetingAt", "(I)I"⟩
abbrev cX2_milesAround : ByteArray := prog_4_method_7_code
def yX2_milesAround : MethodName := ⟨RX2, "milesAround", "(I)I"⟩
abbrev cX2_hoursAround : ByteArray := prog_4_method_8_code
def yX2_hoursAround : MethodName := ⟨RX2, "hoursAround", "(I)I"⟩
abbrev cX2_hourUpper : ByteArray := prog_4_method_9_code
def yX2_hourUpper : MethodName := ⟨RX2, "hourUpper", "(I)I"⟩
abbrev cX2_hourLower : ByteArray := prog_4_method_10_code
def yX2_hourLower : MethodName := ⟨RX2, "hourLower", "(I)I"⟩
abbrev cX2_hourRoundedUp : ByteArray := prog_4_method_11_code
def yX2_hourRoundedUp : MethodName := ⟨RX2, "hourRoundedUp", "(I)I"⟩
abbrev cX2_burntOnLeg : ByteArray := prog_4_method_12_code
def yX2_burntOnLeg : MethodName := ⟨RX2, "burntOnLeg", "(I)I"⟩
abbrev cX2_burntInAll : ByteArray := prog_4_method_13_code
def yX2_burntInAll : MethodName := ⟨RX2, "burntInAll", "()I"⟩
abbrev cX2_mileAt : ByteArray := prog_4_method_14_code
def yX2_mileAt : MethodName := ⟨RX2, "mileAt", "(I)I"⟩
abbrev cX2_isNoLeg : ByteArray := prog_4_method_15_code
def yX2_isNoLeg : MethodName := ⟨RX2, "isNoLeg", "(I)Z"⟩
abbrev cX2_milesOfLeg : ByteArray := prog_4_method_16_code
def yX2_milesOfLeg : MethodName := ⟨RX2, "milesOfLeg", "(I)I"⟩
abbrev cX2_sailedOnLeg : ByteArray := prog_4_method_17_code
def yX2_sailedOnLeg : MethodName := ⟨RX2, "sailedOnLeg", "(II)I"⟩
abbrev cX2_layPorts : ByteArray := prog_4_method_18_code
def yX2_layPorts : MethodName := ⟨RX2, "layPorts", "(LEvenVoyage$Ship;)V"⟩
abbrev cX2_splitStretches : ByteArray := prog_4_method_19_code
def yX2_splitStretches : MethodName := ⟨RX2, "splitStretches", "()V"⟩
abbrev cX2_nextEnd : ByteArray := prog_4_method_20_code
def yX2_nextEnd : MethodName := ⟨RX2, "nextEnd", "(I)I"⟩
abbrev cX2_mostMissed : ByteArray := prog_4_method_21_code
def yX2_mostMissed : MethodName := ⟨RX2, "mostMissed", "(II)I"⟩
abbrev cX2_missAt : ByteArray := prog_4_method_22_code
def yX2_missAt : MethodName := ⟨RX2, "missAt", "(III)I"⟩
abbrev cX2_evenHour : ByteArray := prog_4_method_23_code
def yX2_evenHour : MethodName := ⟨RX2, "evenHour", "(III)I"⟩
abbrev cX2_measureStretches : ByteArray := prog_4_method_24_code
def yX2_measureStretches : MethodName := ⟨RX2, "measureStretches", "()V"⟩
def RX3 : String := "EvenVoyage$Ship"
def TX3 : u_T := fun k => match k with
  | 0 => ("EvenVoyage$Ship", "traits", "[I", true)
  | _ => ("EvenVoyage$Ship", "legParts", "[I", true)
def tyX3 : Nat → FieldType := fun k => match k with
  | 0 => .array .int
  | _ => .array .int
theorem nmX3 : ∀ a, a < 2 → ∀ b, b < 2 → a ≠ b → (TX3 a).2.1 ≠ (TX3 b).2.1 := by decide +kernel
theorem tyX3_ok : ∀ k, k < 2 → parseFieldDescriptor (TX3 k).2.2.1 = some (tyX3 k) := by decide +kernel
abbrev cX3_init : ByteArray := prog_5_method_1_code
def yX3_init : MethodName := ⟨RX3, "<init>", "()V"⟩
abbrev cX3_becomeNew : ByteArray := prog_5_method_2_code
def yX3_becomeNew : MethodName := ⟨RX3, "becomeNew", "()V"⟩
abbrev cX3_becomeLike : ByteArray := prog_5_method_3_code
def yX3_becomeLike : MethodName := ⟨RX3, "becomeLike", "(LEvenVoyage$Ship;)V"⟩
abbrev cX3_trait : ByteArray := prog_5_method_4_code
def yX3_trait : MethodName := ⟨RX3, "trait", "(I)I"⟩
abbrev cX3_setTrait : ByteArray := prog_5_method_5_code
def yX3_setTrait : MethodName := ⟨RX3, "setTrait", "(II)V"⟩
abbrev cX3_ofLeg : ByteArray := prog_5_method_6_code
def yX3_ofLeg : MethodName := ⟨RX3, "ofLeg", "(II)I"⟩
abbrev cX3_setOfLeg : ByteArray := prog_5_method_7_code
def yX3_setOfLeg : MethodName := ⟨RX3, "setOfLeg", "(III)V"⟩
abbrev cX3_isPortAhead : ByteArray := prog_5_method_8_code
def yX3_isPortAhead : MethodName := ⟨RX3, "isPortAhead", "(I)Z"⟩
abbrev cX3_isLegAhead : ByteArray := prog_5_method_9_code
def yX3_isLegAhead : MethodName := ⟨RX3, "isLegAhead", "(I)Z"⟩
abbrev cX3_placeOf : ByteArray := prog_5_method_10_code
def yX3_placeOf : MethodName := ⟨RX3, "placeOf", "(II)I"⟩
def RX4 : String := "EvenVoyage$Text"
def TX4 : u_T := fun k => match k with
  | 0 => ("EvenVoyage$Text", "letters", "[I", true)
  | 1 => ("EvenVoyage$Text", "size", "I", false)
  | 2 => ("EvenVoyage$Text", "item", "I", false)
  | 3 => ("EvenVoyage$Text", "given", "I", false)
  | 4 => ("EvenVoyage$Text", "values", "[I", true)
  | 5 => ("EvenVoyage$Text", "items", "I", false)
  | 6 => ("EvenVoyage$Text", "fastestTold", "Z", false)
  | _ => ("EvenVoyage$Text", "tableTold", "Z", false)
def tyX4 : Nat → FieldType := fun k => match k with
  | 0 => .array .int
  | 1 => .int
  | 2 => .int
  | 3 => .int
  | 4 => .array .int
  | 5 => .int
  | 6 => .boolean
  | _ => .boolean
theorem nmX4 : ∀ a, a < 8 → ∀ b, b < 8 → a ≠ b → (TX4 a).2.1 ≠ (TX4 b).2.1 := by decide +kernel
theorem tyX4_ok : ∀ k, k < 8 → parseFieldDescriptor (TX4 k).2.2.1 = some (tyX4 k) := by decide +kernel
abbrev cX4_init : ByteArray := prog_6_method_1_code
def yX4_init : MethodName := ⟨RX4, "<init>", "()V"⟩
abbrev cX4_length : ByteArray := prog_6_method_2_code
def yX4_length : MethodName := ⟨RX4, "length", "()I"⟩
abbrev cX4_takesLetter : ByteArray := prog_6_method_3_code
def yX4_takesLetter : MethodName := ⟨RX4, "takesLetter", "(I)Z"⟩
abbrev cX4_becomeEmpty : ByteArray := prog_6_method_4_code
def yX4_becomeEmpty : MethodName := ⟨RX4, "becomeEmpty", "()V"⟩
abbrev cX4_tellShip : ByteArray := prog_6_method_5_code
def yX4_tellShip : MethodName := ⟨RX4, "tellShip", "(LEvenVoyage$Ship;)I"⟩
abbrev cX4_takesToken : ByteArray := prog_6_method_6_code
def yX4_takesToken : MethodName := ⟨RX4, "takesToken", "(LEvenVoyage$Ship;I)Z"⟩
abbrev cX4_beginsItem : ByteArray := prog_6_method_7_code
def yX4_beginsItem : MethodName := ⟨RX4, "beginsItem", "(LEvenVoyage$Ship;I)Z"⟩
abbrev cX4_numbersOfItem : ByteArray := prog_6_method_8_code
def yX4_numbersOfItem : MethodName := ⟨RX4, "numbersOfItem", "()I"⟩
abbrev cX4_takesNumber : ByteArray := prog_6_method_9_code
def yX4_takesNumber : MethodName := ⟨RX4, "takesNumber", "(I)Z"⟩
abbrev cX4_least : ByteArray := prog_6_method_10_code
def yX4_least : MethodName := ⟨RX4, "least", "()I"⟩
abbrev cX4_greatest : ByteArray := prog_6_method_11_code
def yX4_greatest : MethodName := ⟨RX4, "greatest", "()I"⟩
abbrev cX4_endItem : ByteArray := prog_6_method_12_code
def yX4_endItem : MethodName := ⟨RX4, "endItem", "(LEvenVoyage$Ship;)V"⟩
abbrev cX4_tokenEnd : ByteArray := prog_6_method_13_code
def yX4_tokenEnd : MethodName := ⟨RX4, "tokenEnd", "(I)I"⟩
abbrev cX4_numberAt : ByteArray := prog_6_method_14_code
def yX4_numberAt : MethodName := ⟨RX4, "numberAt", "(I)I"⟩
abbrev cX4_isFigure : ByteArray := prog_6_method_15_code
def yX4_isFigure : MethodName := ⟨RX4, "isFigure", "(I)Z"⟩
def RX5 : String := "EvenVoyage"
def TX5 : u_T := fun k => match k with
  | 0 => ("EvenVoyage", "fleet", "LEvenVoyage$Fleet;", true)
  | 1 => ("EvenVoyage", "past", "LEvenVoyage$Past;", true)
  | 2 => ("EvenVoyage", "images", "[LEvenVoyage$Fleet;", true)
  | 3 => ("EvenVoyage", "kept", "[Z", true)
  | 4 => ("EvenVoyage", "text", "LEvenVoyage$Text;", true)
  | 5 => ("EvenVoyage", "trialShip", "LEvenVoyage$Ship;", true)
  | 6 => ("EvenVoyage", "trialPlan", "LEvenVoyage$Plan;", true)
  | 7 => ("EvenVoyage", "plans", "[LEvenVoyage$Plan;", true)
  | 8 => ("EvenVoyage", "seenHours", "[I", true)
  | 9 => ("EvenVoyage", "seenMiles", "[I", true)
  | 10 => ("EvenVoyage", "seen", "I", false)
  | _ => ("EvenVoyage", "places", "[I", true)
def tyX5 : Nat → FieldType := fun k => match k with
  | 0 => .object "EvenVoyage$Fleet"
  | 1 => .object "EvenVoyage$Past"
  | 2 => .array (.object "EvenVoyage$Fleet")
  | 3 => .array .boolean
  | 4 => .object "EvenVoyage$Text"
  | 5 => .object "EvenVoyage$Ship"
  | 6 => .object "EvenVoyage$Plan"
  | 7 => .array (.object "EvenVoyage$Plan")
  | 8 => .array .int
  | 9 => .array .int
  | 10 => .int
  | _ => .array .int
theorem nmX5 : ∀ a, a < 12 → ∀ b, b < 12 → a ≠ b → (TX5 a).2.1 ≠ (TX5 b).2.1 := by decide +kernel
theorem tyX5_ok : ∀ k, k < 12 → parseFieldDescriptor (TX5 k).2.2.1 = some (tyX5 k) := by decide +kernel
abbrev cX5_init : ByteArray := prog_1_method_1_code
def yX5_init : MethodName := ⟨RX5, "<init>", "()V"⟩
abbrev cX5_type : ByteArray := prog_1_method_2_code
def yX5_type : MethodName := ⟨RX5, "type", "(I)I"⟩
abbrev cX5_clear : ByteArray := prog_1_method_3_code
def yX5_clear : MethodName := ⟨RX5, "clear", "()I"⟩
abbrev cX5_tells : ByteArray := prog_1_method_4_code
def yX5_tells : MethodName := ⟨RX5, "tells", "(I)I"⟩
abbrev cX5_sails : ByteArray := prog_1_method_5_code
def yX5_sails : MethodName := ⟨RX5, "sails", "(I)I"⟩
abbrev cX5_holds : ByteArray := prog_1_method_6_code
def yX5_holds : MethodName := ⟨RX5, "holds", "(II)I"⟩
abbrev cX5_moves : ByteArray := prog_1_method_7_code
def yX5_moves : MethodName := ⟨RX5, "moves", "(IIII)I"⟩
abbrev cX5_fastens : ByteArray := prog_1_method_8_code
def yX5_fastens : MethodName := ⟨RX5, "fastens", "(II)I"⟩
abbrev cX5_undo : ByteArray := prog_1_method_9_code
def yX5_undo : MethodName := ⟨RX5, "undo", "()I"⟩
abbrev cX5_ship : ByteArray := prog_1_method_10_code
def yX5_ship : MethodName := ⟨RX5, "ship", "(II)I"⟩
abbrev cX5_leg : ByteArray := prog_1_method_11_code
def yX5_leg : MethodName := ⟨RX5, "leg", "(III)I"⟩
abbrev cX5_plan : ByteArray := prog_1_method_12_code
def yX5_plan : MethodName := ⟨RX5, "plan", "(II)I"⟩
abbrev cX5_time : ByteArray := prog_1_method_13_code
def yX5_time : MethodName := ⟨RX5, "time", "(III)I"⟩
abbrev cX5_speed : ByteArray := prog_1_method_14_code
def yX5_speed : MethodName := ⟨RX5, "speed", "(III)I"⟩
abbrev cX5_closed : ByteArray := prog_1_method_15_code
def yX5_closed : MethodName := ⟨RX5, "closed", "(II)I"⟩
abbrev cX5_cost : ByteArray := prog_1_method_16_code
def yX5_cost : MethodName := ⟨RX5, "cost", "(II)I"⟩
abbrev cX5_slack : ByteArray := prog_1_method_17_code
def yX5_slack : MethodName := ⟨RX5, "slack", "(I)I"⟩
abbrev cX5_needs : ByteArray := prog_1_method_18_code
def yX5_needs : MethodName := ⟨RX5, "needs", "(I)I"⟩
abbrev cX5_eased : ByteArray := prog_1_method_19_code
def yX5_eased : MethodName := ⟨RX5, "eased", "(I)I"⟩
abbrev cX5_mile : ByteArray := prog_1_method_20_code
def yX5_mile : MethodName := ⟨RX5, "mile", "(II)I"⟩
abbrev cX5_sees : ByteArray := prog_1_method_21_code
def yX5_sees : MethodName := ⟨RX5, "sees", "(II)I"⟩
abbrev cX5_forget : ByteArray := prog_1_method_22_code
def yX5_forget : MethodName := ⟨RX5, "forget", "()I"⟩
abbrev cX5_which : ByteArray := prog_1_method_23_code
def yX5_which : MethodName := ⟨RX5, "which", "()I"⟩
abbrev cX5_look : ByteArray := prog_1_method_24_code
def yX5_look : MethodName := ⟨RX5, "look", "()I"⟩
abbrev cX5_keep : ByteArray := prog_1_method_25_code
def yX5_keep : MethodName := ⟨RX5, "keep", "(I)I"⟩
abbrev cX5_back : ByteArray := prog_1_method_26_code
def yX5_back : MethodName := ⟨RX5, "back", "(I)I"⟩
abbrev cX5_count : ByteArray := prog_1_method_27_code
def yX5_count : MethodName := ⟨RX5, "count", "(I)I"⟩
abbrev cX5_isNoShip : ByteArray := prog_1_method_28_code
def yX5_isNoShip : MethodName := ⟨RX5, "isNoShip", "(I)Z"⟩
abbrev cX5_drawnPlan : ByteArray := prog_1_method_29_code
def yX5_drawnPlan : MethodName := ⟨RX5, "drawnPlan", "(I)LEvenVoyage$Plan;"⟩
abbrev cX5_drawAllPlans : ByteArray := prog_1_method_30_code
def yX5_drawAllPlans : MethodName := ⟨RX5, "drawAllPlans", "()V"⟩
abbrev cX5_drawEased : ByteArray := prog_1_method_31_code
def yX5_drawEased : MethodName := ⟨RX5, "drawEased", "(LEvenVoyage$Ship;II)V"⟩
abbrev cX5_suspects : ByteArray := prog_1_method_32_code
def yX5_suspects : MethodName := ⟨RX5, "suspects", "()I"⟩
abbrev cX5_agrees : ByteArray := prog_1_method_33_code
def yX5_agrees : MethodName := ⟨RX5, "agrees", "(LEvenVoyage$Plan;)Z"⟩
abbrev cX5_mostAlike : ByteArray := prog_1_method_34_code
def yX5_mostAlike : MethodName := ⟨RX5, "mostAlike", "(II)I"⟩
abbrev cX5_partOf : ByteArray := prog_1_method_35_code
def yX5_partOf : MethodName := ⟨RX5, "partOf", "(III)I"⟩
abbrev cX5_commonMeasure : ByteArray := prog_1_method_36_code
def yX5_commonMeasure : MethodName := ⟨RX5, "commonMeasure", "(II)I"⟩
def RX6 : String := "EvenVoyageModel"
def TX6 : u_T := fun k => match k with
  | 0 => ("EvenVoyageModel", "now", "[I", true)
  | 1 => ("EvenVoyageModel", "past", "[I", true)
  | 2 => ("EvenVoyageModel", "undone", "I", false)
  | 3 => ("EvenVoyageModel", "images", "[I", true)
  | 4 => ("EvenVoyageModel", "isKept", "[Z", true)
  | 5 => ("EvenVoyageModel", "text", "[I", true)
  | 6 => ("EvenVoyageModel", "letters", "I", false)
  | 7 => ("EvenVoyageModel", "facts", "[I", true)
  | 8 => ("EvenVoyageModel", "seen", "I", false)
  | 9 => ("EvenVoyageModel", "read", "[I", true)
  | 10 => ("EvenVoyageModel", "spot", "I", false)
  | 11 => ("EvenVoyageModel", "tokenAt", "I", false)
  | 12 => ("EvenVoyageModel", "value", "I", false)
  | 13 => ("EvenVoyageModel", "isFast", "Z", false)
  | 14 => ("EvenVoyageModel", "isTabled", "Z", false)
  | 15 => ("EvenVoyageModel", "ship", "I", false)
  | 16 => ("EvenVoyageModel", "begin", "I", false)
  | 17 => ("EvenVoyageModel", "last", "I", false)
  | 18 => ("EvenVoyageModel", "far", "[I", true)
  | 19 => ("EvenVoyageModel", "wait", "[I", true)
  | 20 => ("EvenVoyageModel", "low", "[I", true)
  | 21 => ("EvenVoyageModel", "high", "[I", true)
  | 22 => ("EvenVoyageModel", "mark", "[I", true)
  | 23 => ("EvenVoyageModel", "hour", "[J", true)
  | _ => ("EvenVoyageModel", "miles", "[I", true)
def tyX6 : Nat → FieldType := fun k => match k with
  | 0 => .array .int
  | 1 => .array .int
  | 2 => .int
  | 3 => .array .int
  | 4 => .array .boolean
  | 5 => .array .int
  | 6 => .int
  | 7 => .array .int
  | 8 => .int
  | 9 => .array .int
  | 10 => .int
  | 11 => .int
  | 12 => .int
  | 13 => .boolean
  | 14 => .boolean
  | 15 => .int
  | 16 => .int
  | 17 => .int
  | 18 => .array .int
  | 19 => .array .int
  | 20 => .array .int
  | 21 => .array .int
  | 22 => .array .int
  | 23 => .array .long
  | _ => .array .int
theorem nmX6 : ∀ a, a < 25 → ∀ b, b < 25 → a ≠ b → (TX6 a).2.1 ≠ (TX6 b).2.1 := by decide +kernel
theorem tyX6_ok : ∀ k, k < 25 → parseFieldDescriptor (TX6 k).2.2.1 = some (tyX6 k) := by decide +kernel
abbrev cX6_init : ByteArray := prog_8_method_1_code
def yX6_init : MethodName := ⟨RX6, "<init>", "()V"⟩
abbrev cX6_in : ByteArray := prog_8_method_3_code
def yX6_in : MethodName := ⟨RX6, "in", "(III)Z"⟩
abbrev cX6_begins : ByteArray := prog_8_method_4_code
def yX6_begins : MethodName := ⟨RX6, "begins", "([II)V"⟩
abbrev cX6_remembers : ByteArray := prog_8_method_5_code
def yX6_remembers : MethodName := ⟨RX6, "remembers", "()V"⟩
abbrev cX6_undo : ByteArray := prog_8_method_6_code
def yX6_undo : MethodName := ⟨RX6, "undo", "()I"⟩
abbrev cX6_isShip : ByteArray := prog_8_method_7_code
def yX6_isShip : MethodName := ⟨RX6, "isShip", "(I)Z"⟩
abbrev cX6_of : ByteArray := prog_8_method_8_code
def yX6_of : MethodName := ⟨RX6, "of", "(II)I"⟩
abbrev cX6_legPlace : ByteArray := prog_8_method_9_code
def yX6_legPlace : MethodName := ⟨RX6, "legPlace", "(II)I"⟩
abbrev cX6_ofLeg : ByteArray := prog_8_method_10_code
def yX6_ofLeg : MethodName := ⟨RX6, "ofLeg", "(III)I"⟩
abbrev cX6_type : ByteArray := prog_8_method_11_code
def yX6_type : MethodName := ⟨RX6, "type", "(I)I"⟩
abbrev cX6_clear : ByteArray := prog_8_method_12_code
def yX6_clear : MethodName := ⟨RX6, "clear", "()I"⟩
abbrev cX6_blanks : ByteArray := prog_8_method_13_code
def yX6_blanks : MethodName := ⟨RX6, "blanks", "()V"⟩
abbrev cX6_isAt : ByteArray := prog_8_method_14_code
def yX6_isAt : MethodName := ⟨RX6, "isAt", "(II)Z"⟩
abbrev cX6_takesNumber : ByteArray := prog_8_method_15_code
def yX6_takesNumber : MethodName := ⟨RX6, "takesNumber", "(II)Z"⟩
abbrev cX6_takesStop : ByteArray := prog_8_method_16_code
def yX6_takesStop : MethodName := ⟨RX6, "takesStop", "()Z"⟩
abbrev cX6_takesLeg : ByteArray := prog_8_method_17_code
def yX6_takesLeg : MethodName := ⟨RX6, "takesLeg", "()Z"⟩
abbrev cX6_takesFastest : ByteArray := prog_8_method_18_code
def yX6_takesFastest : MethodName := ⟨RX6, "takesFastest", "()Z"⟩
abbrev cX6_takesTable : ByteArray := prog_8_method_19_code
def yX6_takesTable : MethodName := ⟨RX6, "takesTable", "()Z"⟩
abbrev cX6_reads : ByteArray := prog_8_method_20_code
def yX6_reads : MethodName := ⟨RX6, "reads", "()I"⟩
abbrev cX6_tells : ByteArray := prog_8_method_21_code
def yX6_tells : MethodName := ⟨RX6, "tells", "(I)I"⟩
abbrev cX6_lays : ByteArray := prog_8_method_22_code
def yX6_lays : MethodName := ⟨RX6, "lays", "(IIII)V"⟩
abbrev cX6_markBehind : ByteArray := prog_8_method_23_code
def yX6_markBehind : MethodName := ⟨RX6, "markBehind", "(I)I"⟩
abbrev cX6_markAhead : ByteArray := prog_8_method_24_code
def yX6_markAhead : MethodName := ⟨RX6, "markAhead", "(I)I"⟩
abbrev cX6_evenTimes : ByteArray := prog_8_method_25_code
def yX6_evenTimes : MethodName := ⟨RX6, "evenTimes", "(III)J"⟩
abbrev cX6_missedTimes : ByteArray := prog_8_method_26_code
def yX6_missedTimes : MethodName := ⟨RX6, "missedTimes", "(III)J"⟩
abbrev cX6_marksOne : ByteArray := prog_8_method_27_code
def yX6_marksOne : MethodName := ⟨RX6, "marksOne", "(II)Z"⟩
abbrev cX6_marksAll : ByteArray := prog_8_method_28_code
def yX6_marksAll : MethodName := ⟨RX6, "marksAll", "()V"⟩
abbrev cX6_fastNeeded : ByteArray := prog_8_method_29_code
def yX6_fastNeeded : MethodName := ⟨RX6, "fastNeeded", "()I"⟩
abbrev cX6_hasPlan : ByteArray := prog_8_method_30_code
def yX6_hasPlan : MethodName := ⟨RX6, "hasPlan", "()Z"⟩
abbrev cX6_plans : ByteArray := prog_8_method_31_code
def yX6_plans : MethodName := ⟨RX6, "plans", "(I)Z"⟩
abbrev cX6_isAhead : ByteArray := prog_8_method_32_code
def yX6_isAhead : MethodName := ⟨RX6, "isAhead", "(II)Z"⟩
abbrev cX6_common : ByteArray := prog_8_method_33_code
def yX6_common : MethodName := ⟨RX6, "common", "(JJ)J"⟩
abbrev cX6_lowest : ByteArray := prog_8_method_34_code
def yX6_lowest : MethodName := ⟨RX6, "lowest", "(JJI)I"⟩
abbrev cX6_timeTimes : ByteArray := prog_8_method_35_code
def yX6_timeTimes : MethodName := ⟨RX6, "timeTimes", "(I)J"⟩
abbrev cX6_milesAt : ByteArray := prog_8_method_36_code
def yX6_milesAt : MethodName := ⟨RX6, "milesAt", "(I)J"⟩
abbrev cX6_costOf : ByteArray := prog_8_method_37_code
def yX6_costOf : MethodName := ⟨RX6, "costOf", "(I)I"⟩
abbrev cX6_costsAhead : ByteArray := prog_8_method_38_code
def yX6_costsAhead : MethodName := ⟨RX6, "costsAhead", "()I"⟩
abbrev cX6_sails : ByteArray := prog_8_method_39_code
def yX6_sails : MethodName := ⟨RX6, "sails", "(I)I"⟩
abbrev cX6_holds : ByteArray := prog_8_method_40_code
def yX6_holds : MethodName := ⟨RX6, "holds", "(II)I"⟩
abbrev cX6_moves : ByteArray := prog_8_method_41_code
def yX6_moves : MethodName := ⟨RX6, "moves", "(IIII)I"⟩
abbrev cX6_fastens : ByteArray := prog_8_method_42_code
def yX6_fastens : MethodName := ⟨RX6, "fastens", "(II)I"⟩
abbrev cX6_ship : ByteArray := prog_8_method_43_code
def yX6_ship : MethodName := ⟨RX6, "ship", "(II)I"⟩
abbrev cX6_leg : ByteArray := prog_8_method_44_code
def yX6_leg : MethodName := ⟨RX6, "leg", "(III)I"⟩
abbrev cX6_stretches : ByteArray := prog_8_method_45_code
def yX6_stretches : MethodName := ⟨RX6, "stretches", "()I"⟩
abbrev cX6_plan : ByteArray := prog_8_method_46_code
def yX6_plan : MethodName := ⟨RX6, "plan", "(II)I"⟩
abbrev cX6_time : ByteArray := prog_8_method_47_code
def yX6_time : MethodName := ⟨RX6, "time", "(III)I"⟩
abbrev cX6_speed : ByteArray := prog_8_method_48_code
def yX6_speed : MethodName := ⟨RX6, "speed", "(III)I"⟩
abbrev cX6_closed : ByteArray := prog_8_method_49_code
def yX6_closed : MethodName := ⟨RX6, "closed", "(II)I"⟩
abbrev cX6_cost : ByteArray := prog_8_method_50_code
def yX6_cost : MethodName := ⟨RX6, "cost", "(II)I"⟩
abbrev cX6_slack : ByteArray := prog_8_method_51_code
def yX6_slack : MethodName := ⟨RX6, "slack", "(I)I"⟩
abbrev cX6_needs : ByteArray := prog_8_method_52_code
def yX6_needs : MethodName := ⟨RX6, "needs", "(I)I"⟩
abbrev cX6_eased : ByteArray := prog_8_method_53_code
def yX6_eased : MethodName := ⟨RX6, "eased", "(I)I"⟩
abbrev cX6_mileAt : ByteArray := prog_8_method_54_code
def yX6_mileAt : MethodName := ⟨RX6, "mileAt", "(I)I"⟩
abbrev cX6_mileOf : ByteArray := prog_8_method_55_code
def yX6_mileOf : MethodName := ⟨RX6, "mileOf", "(II)I"⟩
abbrev cX6_mile : ByteArray := prog_8_method_56_code
def yX6_mile : MethodName := ⟨RX6, "mile", "(II)I"⟩
abbrev cX6_sees : ByteArray := prog_8_method_57_code
def yX6_sees : MethodName := ⟨RX6, "sees", "(II)I"⟩
abbrev cX6_forget : ByteArray := prog_8_method_58_code
def yX6_forget : MethodName := ⟨RX6, "forget", "()I"⟩
abbrev cX6_whichNow : ByteArray := prog_8_method_59_code
def yX6_whichNow : MethodName := ⟨RX6, "whichNow", "()I"⟩
abbrev cX6_which : ByteArray := prog_8_method_60_code
def yX6_which : MethodName := ⟨RX6, "which", "()I"⟩
abbrev cX6_alikeAt : ByteArray := prog_8_method_61_code
def yX6_alikeAt : MethodName := ⟨RX6, "alikeAt", "(II)I"⟩
abbrev cX6_look : ByteArray := prog_8_method_62_code
def yX6_look : MethodName := ⟨RX6, "look", "()I"⟩
abbrev cX6_legsOfAll : ByteArray := prog_8_method_63_code
def yX6_legsOfAll : MethodName := ⟨RX6, "legsOfAll", "()I"⟩
abbrev cX6_keep : ByteArray := prog_8_method_64_code
def yX6_keep : MethodName := ⟨RX6, "keep", "(I)I"⟩
abbrev cX6_back : ByteArray := prog_8_method_65_code
def yX6_back : MethodName := ⟨RX6, "back", "(I)I"⟩
abbrev cX6_count : ByteArray := prog_8_method_66_code
def yX6_count : MethodName := ⟨RX6, "count", "(I)I"⟩
def RJ6 : String := "java/lang/Integer"
def TJ6 : u_T := fun k => match k with
  | _ => ("", "", "", false)
def tyJ6 : Nat → FieldType := fun k => match k with
  | _ => .int
abbrev cJ6_bitCount_0f7a4 : ByteArray := prog_9_method_49_code
def yJ6_bitCount_0f7a4 : MethodName := ⟨RJ6, "bitCount", "(I)I"⟩
def RJ9 : String := "java/lang/Math"
def TJ9 : u_T := fun k => match k with
  | _ => ("", "", "", false)
def tyJ9 : Nat → FieldType := fun k => match k with
  | _ => .int
abbrev cJ9_floorDiv_7cf53 : ByteArray := prog_10_method_47_code
def yJ9_floorDiv_7cf53 : MethodName := ⟨RJ9, "floorDiv", "(II)I"⟩
abbrev cJ9_abs_0f7a4 : ByteArray := prog_10_method_59_code
def yJ9_abs_0f7a4 : MethodName := ⟨RJ9, "abs", "(I)I"⟩
abbrev cJ9_max_7cf53 : ByteArray := prog_10_method_65_code
def yJ9_max_7cf53 : MethodName := ⟨RJ9, "max", "(II)I"⟩
abbrev cJ9_min_7cf53 : ByteArray := prog_10_method_69_code
def yJ9_min_7cf53 : MethodName := ⟨RJ9, "min", "(II)I"⟩
abbrev cJ9_min_f86c9 : ByteArray := prog_10_method_70_code
def yJ9_min_f86c9 : MethodName := ⟨RJ9, "min", "(JJ)J"⟩
def RJ10 : String := "java/lang/System"
def TJ10 : u_T := fun k => match k with
  | _ => ("", "", "", false)
def tyJ10 : Nat → FieldType := fun k => match k with
  | _ => .int
def RJ7 : String := "java/util/Arrays"
def TJ7 : u_T := fun k => match k with
  | _ => ("", "", "", false)
def tyJ7 : Nat → FieldType := fun k => match k with
  | _ => .int
abbrev cJ7_fill_53178 : ByteArray := prog_12_method_103_code
def yJ7_fill_53178 : MethodName := ⟨RJ7, "fill", "([II)V"⟩
def RL : String := "EvenVoyageLaw"
abbrev cL_law : ByteArray := code
def yL_law : MethodName := ⟨RL, "law", "([I)Z"⟩
abbrev vwCl : List vw_C := [(RX0, TX0, 1), (RX1, TX1, 3), (RX2, TX2, 14), (RX3, TX3, 2), (RX4, TX4, 8), (RX5, TX5, 12), (RX6, TX6, 25)]

def evT : Nat → Nat := fun kd => match kd with
  | 0 => 0
  | 1 => 0
  | 2 => 4
  | 3 => 0
  | 4 => 1
  | 5 => 1
  | 6 => 0
  | 7 => 1
  | 8 => 1
  | 9 => 1
  | 10 => 1
  | 11 => 1
  | 12 => 1
  | 13 => 1
  | 14 => 1
  | 15 => 1
  | 16 => 0
  | 17 => 4
  | 18 => 0
  | 19 => 1
  | 20 => 1
  | 21 => 4
  | 22 => 3
  | 23 => 4
  | 24 => 1
  | 25 => 1
  | 26 => 1
  | 30 => 0
  | 31 => 1
  | 32 => 1
  | 34 => 1
  | 35 => 3
  | 36 => 1
  | 38 => 1
  | 40 => 1
  | 49 => 1
  | 50 => 1
  | 51 => 1
  | 52 => 1
  | 53 => 1
  | 54 => 2
  | 55 => 1
  | _ => 9
def evC : Nat → Nat := fun kd => match kd with
  | 0 => 5
  | 1 => 0
  | 3 => 3
  | 6 => 2
  | 16 => 1
  | 18 => 4
  | 30 => 6
  | _ => 0
def evQ : Nat → vw_C := fun kd => match kd with
  | 0 => (RX5, TX5, 12)
  | 1 => (RX0, TX0, 1)
  | 3 => (RX3, TX3, 2)
  | 6 => (RX2, TX2, 14)
  | 16 => (RX1, TX1, 3)
  | 18 => (RX4, TX4, 8)
  | 30 => (RX6, TX6, 25)
  | _ => ("", fun _ => ("", "", "", false), 0)
def evY : Nat → Nat → FieldType := fun kd => match kd with
  | 0 => tyX5
  | 1 => tyX0
  | 3 => tyX3
  | 6 => tyX2
  | 16 => tyX1
  | 18 => tyX4
  | 30 => tyX6
  | _ => fun _ => .int
def evN : Nat → Nat := fun kd => match kd with
  | 0 => 12
  | 1 => 1
  | 2 => 4
  | 3 => 2
  | 4 => 9
  | 5 => 24
  | 6 => 14
  | 7 => 7
  | 8 => 7
  | 9 => 7
  | 10 => 7
  | 11 => 7
  | 12 => 7
  | 13 => 6
  | 14 => 6
  | 15 => 4
  | 16 => 3
  | 17 => 6
  | 18 => 8
  | 19 => 150
  | 20 => 4
  | 21 => 2
  | 22 => 2
  | 23 => 4
  | 24 => 6
  | 25 => 6
  | 26 => 4
  | 30 => 25
  | 31 => 132
  | 32 => 792
  | 34 => 264
  | 35 => 2
  | 36 => 150
  | 38 => 12
  | 40 => 33
  | 49 => 7
  | 50 => 7
  | 51 => 7
  | 52 => 7
  | 53 => 7
  | 54 => 7
  | 55 => 4
  | _ => 0
def evR : Nat → Nat → Option Nat := fun kd k => match kd, k with
  | 0, 0 => some 1
  | 0, 1 => some 16
  | 0, 2 => some 21
  | 0, 3 => some 22
  | 0, 4 => some 18
  | 0, 5 => some 3
  | 0, 6 => some 6
  | 0, 7 => some 23
  | 0, 8 => some 24
  | 0, 9 => some 25
  | 0, 11 => some 26
  | 1, 0 => some 2
  | 3, 0 => some 4
  | 3, 1 => some 5
  | 6, 2 => some 7
  | 6, 3 => some 8
  | 6, 4 => some 9
  | 6, 5 => some 10
  | 6, 6 => some 11
  | 6, 7 => some 12
  | 6, 8 => some 13
  | 6, 9 => some 14
  | 6, 10 => some 15
  | 16, 0 => some 17
  | 18, 0 => some 19
  | 18, 4 => some 20
  | 30, 0 => some 31
  | 30, 1 => some 32
  | 30, 3 => some 34
  | 30, 4 => some 35
  | 30, 5 => some 36
  | 30, 7 => some 38
  | 30, 9 => some 40
  | 30, 18 => some 49
  | 30, 19 => some 50
  | 30, 20 => some 51
  | 30, 21 => some 52
  | 30, 22 => some 53
  | 30, 23 => some 54
  | 30, 24 => some 55
  | _, _ => none
def evX : Nat → Nat → Nat → Nat := fun kd k x => match kd, k with
  | 0, 0 => 0
  | 0, 1 => 0
  | 0, 2 => 0
  | 0, 3 => 0
  | 0, 4 => 0
  | 0, 5 => 36
  | 0, 6 => 4
  | 0, 7 => 0
  | 0, 8 => 0
  | 0, 9 => 0
  | 0, 11 => 0
  | 1, 0 => x
  | 3, 0 => x
  | 3, 1 => x
  | 6, 2 => x
  | 6, 3 => x
  | 6, 4 => x
  | 6, 5 => x
  | 6, 6 => x
  | 6, 7 => x
  | 6, 8 => x
  | 6, 9 => x
  | 6, 10 => x
  | 16, 0 => 0
  | 18, 0 => 0
  | 18, 4 => 0
  | 30, 0 => 0
  | 30, 1 => 0
  | 30, 3 => 0
  | 30, 4 => 0
  | 30, 5 => 0
  | 30, 7 => 0
  | 30, 9 => 0
  | 30, 18 => 0
  | 30, 19 => 0
  | 30, 20 => 0
  | 30, 21 => 0
  | 30, 22 => 0
  | 30, 23 => 0
  | 30, 24 => 0
  | _, _ => 0
def evE : Nat → Nat := fun kd => match kd with
  | 2 => 3
  | 17 => 1
  | 21 => 1
  | 23 => 6
  | _ => 0
def evEX : Nat → Nat → Nat → Nat := fun kd x i => match kd with
  | 2 => 4 * x + i
  | 17 => 1 + i
  | 21 => 7 + i
  | 23 => i
  | _ => 0
def evA : Nat → Nat := fun kd => match kd with
  | 2 => 4
  | 17 => 3
  | 21 => 3
  | 23 => 5
  | _ => 0
def evst : Nat → Nat → Int32 := fun kd j => match kd with
  | 61 => ([0, 20, 0, 0, 0, 1, 2, 4, 8] : List Int32).getD j 0
  | 62 => ([1, 0, 0, 0] : List Int32).getD j 0
  | _ => ([99, 9, 999, 999] : List Int32).getD j 0
end
section
theorem dX0_init_0 : decode cX0_init 0 = .ok (.aload_n 0, 1) := by decide +kernel
theorem dX0_init_1 : decode cX0_init 1 = .ok (.invokespecial 3, 3) := by decide +kernel
theorem dX0_init_4 : decode cX0_init 4 = .ok (.aload_n 0, 1) := by decide +kernel
theorem dX0_init_5 : decode cX0_init 5 = .ok (.iconst 4, 1) := by decide +kernel
theorem dX0_init_6 : decode cX0_init 6 = .ok (.anewarray 9, 3) := by decide +kernel
theorem dX0_init_9 : decode cX0_init 9 = .ok (.putfield 11, 3) := by decide +kernel
theorem dX0_init_12 : decode cX0_init 12 = .ok (.iconst 0, 1) := by decide +kernel
theorem dX0_init_13 : decode cX0_init 13 = .ok (.istore_n 1, 1) := by decide +kernel
theorem dX0_init_14 : decode cX0_init 14 = .ok (.iload_n 1, 1) := by decide +kernel
theorem dX0_init_15 : decode cX0_init 15 = .ok (.iconst 4, 1) := by decide +kernel
theorem dX0_init_16 : decode cX0_init 16 = .ok (.if_icmp .ge 22, 3) := by decide +kernel
theorem dX0_init_19 : decode cX0_init 19 = .ok (.aload_n 0, 1) := by decide +kernel
theorem dX0_init_20 : decode cX0_init 20 = .ok (.getfield 11, 3) := by decide +kernel
theorem dX0_init_23 : decode cX0_init 23 = .ok (.iload_n 1, 1) := by decide +kernel
theorem dX0_init_24 : decode cX0_init 24 = .ok (.new 9, 3) := by decide +kernel
theorem dX0_init_27 : decode cX0_init 27 = .ok (.dup, 1) := by decide +kernel
theorem dX0_init_28 : decode cX0_init 28 = .ok (.invokespecial 17, 3) := by decide +kernel
theorem dX0_init_31 : decode cX0_init 31 = .ok (.aastore, 1) := by decide +kernel
theorem dX0_init_32 : decode cX0_init 32 = .ok (.iinc 1 1, 3) := by decide +kernel
theorem dX0_init_35 : decode cX0_init 35 = .ok (.goto (-21), 3) := by decide +kernel
theorem dX0_init_38 : decode cX0_init 38 = .ok (.return_, 1) := by decide +kernel
theorem dX0_becomeLike_0 : decode cX0_becomeLike 0 = .ok (.iconst 0, 1) := by decide +kernel
theorem dX0_becomeLike_1 : decode cX0_becomeLike 1 = .ok (.istore_n 2, 1) := by decide +kernel
theorem dX0_becomeLike_2 : decode cX0_becomeLike 2 = .ok (.iload_n 2, 1) := by decide +kernel
theorem dX0_becomeLike_3 : decode cX0_becomeLike 3 = .ok (.iconst 4, 1) := by decide +kernel
theorem dX0_becomeLike_4 : decode cX0_becomeLike 4 = .ok (.if_icmp .ge 24, 3) := by decide +kernel
theorem dX0_becomeLike_7 : decode cX0_becomeLike 7 = .ok (.aload_n 0, 1) := by decide +kernel
theorem dX0_becomeLike_8 : decode cX0_becomeLike 8 = .ok (.getfield 11, 3) := by decide +kernel
theorem dX0_becomeLike_11 : decode cX0_becomeLike 11 = .ok (.iload_n 2, 1) := by decide +kernel
theorem dX0_becomeLike_12 : decode cX0_becomeLike 12 = .ok (.aaload, 1) := by decide +kernel
theorem dX0_becomeLike_13 : decode cX0_becomeLike 13 = .ok (.aload_n 1, 1) := by decide +kernel
theorem dX0_becomeLike_14 : decode cX0_becomeLike 14 = .ok (.getfield 11, 3) := by decide +kernel
theorem dX0_becomeLike_17 : decode cX0_becomeLike 17 = .ok (.iload_n 2, 1) := by decide +kernel
theorem dX0_becomeLike_18 : decode cX0_becomeLike 18 = .ok (.aaload, 1) := by decide +kernel
theorem dX0_becomeLike_19 : decode cX0_becomeLike 19 = .ok (.invokevirtual 18, 3) := by decide +kernel
theorem dX0_becomeLike_22 : decode cX0_becomeLike 22 = .ok (.iinc 2 1, 3) := by decide +kernel
theorem dX0_becomeLike_25 : decode cX0_becomeLike 25 = .ok (.goto (-23), 3) := by decide +kernel
theorem dX0_becomeLike_28 : decode cX0_becomeLike 28 = .ok (.return_, 1) := by decide +kernel
theorem dX0_legsInAll_0 : decode cX0_legsInAll 0 = .ok (.iconst 0, 1) := by decide +kernel
theorem dX0_legsInAll_1 : decode cX0_legsInAll 1 = .ok (.istore_n 1, 1) := by decide +kernel
theorem dX0_legsInAll_2 : decode cX0_legsInAll 2 = .ok (.iconst 0, 1) := by decide +kernel
theorem dX0_legsInAll_3 : decode cX0_legsInAll 3 = .ok (.istore_n 2, 1) := by decide +kernel
theorem dX0_legsInAll_4 : decode cX0_legsInAll 4 = .ok (.iload_n 2, 1) := by decide +kernel
theorem dX0_legsInAll_5 : decode cX0_legsInAll 5 = .ok (.iconst 4, 1) := by decide +kernel
theorem dX0_legsInAll_6 : decode cX0_legsInAll 6 = .ok (.if_icmp .ge 22, 3) := by decide +kernel
theorem dX0_legsInAll_9 : decode cX0_legsInAll 9 = .ok (.iload_n 1, 1) := by decide +kernel
theorem dX0_legsInAll_10 : decode cX0_legsInAll 10 = .ok (.aload_n 0, 1) := by decide +kernel
theorem dX0_legsInAll_11 : decode cX0_legsInAll 11 = .ok (.getfield 11, 3) := by decide +kernel
theorem dX0_legsInAll_14 : decode cX0_legsInAll 14 = .ok (.iload_n 2, 1) := by decide +kernel
theorem dX0_legsInAll_15 : decode cX0_legsInAll 15 = .ok (.aaload, 1) := by decide +kernel
theorem dX0_legsInAll_16 : decode cX0_legsInAll 16 = .ok (.iconst 0, 1) := by decide +kernel
theorem dX0_legsInAll_17 : decode cX0_legsInAll 17 = .ok (.invokevirtual 22, 3) := by decide +kernel
theorem dX0_legsInAll_20 : decode cX0_legsInAll 20 = .ok (.iadd, 1) := by decide +kernel
theorem dX0_legsInAll_21 : decode cX0_legsInAll 21 = .ok (.istore_n 1, 1) := by decide +kernel
theorem dX0_legsInAll_22 : decode cX0_legsInAll 22 = .ok (.iinc 2 1, 3) := by decide +kernel
theorem dX0_legsInAll_25 : decode cX0_legsInAll 25 = .ok (.goto (-21), 3) := by decide +kernel
theorem dX0_legsInAll_28 : decode cX0_legsInAll 28 = .ok (.iload_n 1, 1) := by decide +kernel
theorem dX0_legsInAll_29 : decode cX0_legsInAll 29 = .ok (.ireturn, 1) := by decide +kernel
theorem dX1_init_0 : decode cX1_init 0 = .ok (.aload_n 0, 1) := by decide +kernel
theorem dX1_init_1 : decode cX1_init 1 = .ok (.invokespecial 1, 3) := by decide +kernel
theorem dX1_init_4 : decode cX1_init 4 = .ok (.aload_n 0, 1) := by decide +kernel
theorem dX1_init_5 : decode cX1_init 5 = .ok (.bipush 6, 2) := by decide +kernel
theorem dX1_init_7 : decode cX1_init 7 = .ok (.anewarray 9, 3) := by decide +kernel
theorem dX1_init_10 : decode cX1_init 10 = .ok (.putfield 11, 3) := by decide +kernel
theorem dX1_init_13 : decode cX1_init 13 = .ok (.aload_n 0, 1) := by decide +kernel
theorem dX1_init_14 : decode cX1_init 14 = .ok (.iconst 0, 1) := by decide +kernel
theorem dX1_init_15 : decode cX1_init 15 = .ok (.putfield 15, 3) := by decide +kernel
theorem dX1_init_18 : decode cX1_init 18 = .ok (.aload_n 0, 1) := by decide +kernel
theorem dX1_init_19 : decode cX1_init 19 = .ok (.iconst 0, 1) := by decide +kernel
theorem dX1_init_20 : decode cX1_init 20 = .ok (.putfield 19, 3) := by decide +kernel
theorem dX1_init_23 : decode cX1_init 23 = .ok (.iconst 0, 1) := by decide +kernel
theorem dX1_init_24 : decode cX1_init 24 = .ok (.istore_n 1, 1) := by decide +kernel
theorem dX1_init_25 : decode cX1_init 25 = .ok (.iload_n 1, 1) := by decide +kernel
theorem dX1_init_26 : decode cX1_init 26 = .ok (.bipush 6, 2) := by decide +kernel
theorem dX1_init_28 : decode cX1_init 28 = .ok (.if_icmp .ge 22, 3) := by decide +kernel
theorem dX1_init_31 : decode cX1_init 31 = .ok (.aload_n 0, 1) := by decide +kernel
theorem dX1_init_32 : decode cX1_init 32 = .ok (.getfield 11, 3) := by decide +kernel
theorem dX1_init_35 : decode cX1_init 35 = .ok (.iload_n 1, 1) := by decide +kernel
theorem dX1_init_36 : decode cX1_init 36 = .ok (.new 9, 3) := by decide +kernel
theorem dX1_init_39 : decode cX1_init 39 = .ok (.dup, 1) := by decide +kernel
theorem dX1_init_40 : decode cX1_init 40 = .ok (.invokespecial 22, 3) := by decide +kernel
theorem dX1_init_43 : decode cX1_init 43 = .ok (.aastore, 1) := by decide +kernel
theorem dX1_init_44 : decode cX1_init 44 = .ok (.iinc 1 1, 3) := by decide +kernel
theorem dX1_init_47 : decode cX1_init 47 = .ok (.goto (-22), 3) := by decide +kernel
theorem dX1_init_50 : decode cX1_init 50 = .ok (.return_, 1) := by decide +kernel
theorem dX1_known_0 : decode cX1_known 0 = .ok (.aload_n 0, 1) := by decide +kernel
theorem dX1_known_1 : decode cX1_known 1 = .ok (.getfield 19, 3) := by decide +kernel
theorem dX1_known_4 : decode cX1_known 4 = .ok (.ireturn, 1) := by decide +kernel
theorem dX1_remember_0 : decode cX1_remember 0 = .ok (.aload_n 0, 1) := by decide +kernel
theorem dX1_remember_1 : decode cX1_remember 1 = .ok (.getfield 11, 3) := by decide +kernel
theorem dX1_remember_4 : decode cX1_remember 4 = .ok (.aload_n 0, 1) := by decide +kernel
theorem dX1_remember_5 : decode cX1_remember 5 = .ok (.getfield 15, 3) := by decide +kernel
theorem dX1_remember_8 : decode cX1_remember 8 = .ok (.aaload, 1) := by decide +kernel
theorem dX1_remember_9 : decode cX1_remember 9 = .ok (.aload_n 1, 1) := by decide +kernel
theorem dX1_remember_10 : decode cX1_remember 10 = .ok (.invokevirtual 23, 3) := by decide +kernel
theorem dX1_remember_13 : decode cX1_remember 13 = .ok (.aload_n 0, 1) := by decide +kernel
theorem dX1_remember_14 : decode cX1_remember 14 = .ok (.aload_n 0, 1) := by decide +kernel
theorem dX1_remember_15 : decode cX1_remember 15 = .ok (.getfield 15, 3) := by decide +kernel
theorem dX1_remember_18 : decode cX1_remember 18 = .ok (.iconst 1, 1) := by decide +kernel
theorem dX1_remember_19 : decode cX1_remember 19 = .ok (.iadd, 1) := by decide +kernel
theorem dX1_remember_20 : decode cX1_remember 20 = .ok (.bipush 6, 2) := by decide +kernel
theorem dX1_remember_22 : decode cX1_remember 22 = .ok (.if_icmp .ge 12, 3) := by decide +kernel
theorem dX1_remember_25 : decode cX1_remember 25 = .ok (.aload_n 0, 1) := by decide +kernel
theorem dX1_remember_26 : decode cX1_remember 26 = .ok (.getfield 15, 3) := by decide +kernel
theorem dX1_remember_29 : decode cX1_remember 29 = .ok (.iconst 1, 1) := by decide +kernel
theorem dX1_remember_30 : decode cX1_remember 30 = .ok (.iadd, 1) := by decide +kernel
theorem dX1_remember_31 : decode cX1_remember 31 = .ok (.goto 4, 3) := by decide +kernel
theorem dX1_remember_34 : decode cX1_remember 34 = .ok (.iconst 0, 1) := by decide +kernel
theorem dX1_remember_35 : decode cX1_remember 35 = .ok (.putfield 15, 3) := by decide +kernel
theorem dX1_remember_38 : decode cX1_remember 38 = .ok (.aload_n 0, 1) := by decide +kernel
theorem dX1_remember_39 : decode cX1_remember 39 = .ok (.bipush 6, 2) := by decide +kernel
theorem dX1_remember_41 : decode cX1_remember 41 = .ok (.aload_n 0, 1) := by decide +kernel
theorem dX1_remember_42 : decode cX1_remember 42 = .ok (.getfield 19, 3) := by decide +kernel
theorem dX1_remember_45 : decode cX1_remember 45 = .ok (.iconst 1, 1) := by decide +kernel
theorem dX1_remember_46 : decode cX1_remember 46 = .ok (.iadd, 1) := by decide +kernel
theorem dX1_remember_47 : decode cX1_remember 47 = .ok (.invokestatic 27, 3) := by decide +kernel
theorem dX1_remember_50 : decode cX1_remember 50 = .ok (.putfield 19, 3) := by decide +kernel
theorem dX1_remember_53 : decode cX1_remember 53 = .ok (.return_, 1) := by decide +kernel
theorem dX1_restore_0 : decode cX1_restore 0 = .ok (.aload_n 0, 1) := by decide +kernel
theorem dX1_restore_1 : decode cX1_restore 1 = .ok (.getfield 19, 3) := by decide +kernel
theorem dX1_restore_4 : decode cX1_restore 4 = .ok (.ifCond .ne 4, 3) := by decide +kernel
theorem dX1_restore_7 : decode cX1_restore 7 = .ok (.return_, 1) := by decide +kernel
theorem dX1_restore_8 : decode cX1_restore 8 = .ok (.aload_n 0, 1) := by decide +kernel
theorem dX1_restore_9 : decode cX1_restore 9 = .ok (.aload_n 0, 1) := by decide +kernel
theorem dX1_restore_10 : decode cX1_restore 10 = .ok (.getfield 15, 3) := by decide +kernel
theorem dX1_restore_13 : decode cX1_restore 13 = .ok (.ifCond .le 12, 3) := by decide +kernel
theorem dX1_restore_16 : decode cX1_restore 16 = .ok (.aload_n 0, 1) := by decide +kernel
theorem dX1_restore_17 : decode cX1_restore 17 = .ok (.getfield 15, 3) := by decide +kernel
theorem dX1_restore_20 : decode cX1_restore 20 = .ok (.iconst 1, 1) := by decide +kernel
theorem dX1_restore_21 : decode cX1_restore 21 = .ok (.isub, 1) := by decide +kernel
theorem dX1_restore_22 : decode cX1_restore 22 = .ok (.goto 4, 3) := by decide +kernel
theorem dX1_restore_25 : decode cX1_restore 25 = .ok (.iconst 5, 1) := by decide +kernel
theorem dX1_restore_26 : decode cX1_restore 26 = .ok (.putfield 15, 3) := by decide +kernel
theorem dX1_restore_29 : decode cX1_restore 29 = .ok (.aload_n 0, 1) := by decide +kernel
theorem dX1_restore_30 : decode cX1_restore 30 = .ok (.dup, 1) := by decide +kernel
theorem dX1_restore_31 : decode cX1_restore 31 = .ok (.getfield 19, 3) := by decide +kernel
theorem dX1_restore_34 : decode cX1_restore 34 = .ok (.iconst 1, 1) := by decide +kernel
theorem dX1_restore_35 : decode cX1_restore 35 = .ok (.isub, 1) := by decide +kernel
theorem dX1_restore_36 : decode cX1_restore 36 = .ok (.putfield 19, 3) := by decide +kernel
theorem dX1_restore_39 : decode cX1_restore 39 = .ok (.aload_n 1, 1) := by decide +kernel
theorem dX1_restore_40 : decode cX1_restore 40 = .ok (.aload_n 0, 1) := by decide +kernel
theorem dX1_restore_41 : decode cX1_restore 41 = .ok (.getfield 11, 3) := by decide +kernel
theorem dX1_restore_44 : decode cX1_restore 44 = .ok (.aload_n 0, 1) := by decide +kernel
theorem dX1_restore_45 : decode cX1_restore 45 = .ok (.getfield 15, 3) := by decide +kernel
theorem dX1_restore_48 : decode cX1_restore 48 = .ok (.aaload, 1) := by decide +kernel
theorem dX1_restore_49 : decode cX1_restore 49 = .ok (.invokevirtual 23, 3) := by decide +kernel
theorem dX1_restore_52 : decode cX1_restore 52 = .ok (.return_, 1) := by decide +kernel
theorem dX1_lose_0 : decode cX1_lose 0 = .ok (.aload_n 0, 1) := by decide +kernel
theorem dX1_lose_1 : decode cX1_lose 1 = .ok (.iconst 0, 1) := by decide +kernel
theorem dX1_lose_2 : decode cX1_lose 2 = .ok (.putfield 19, 3) := by decide +kernel
theorem dX1_lose_5 : decode cX1_lose 5 = .ok (.return_, 1) := by decide +kernel
theorem dX2_init_0 : decode cX2_init 0 = .ok (.aload_n 0, 1) := by decide +kernel
theorem dX2_init_1 : decode cX2_init 1 = .ok (.invokespecial 5, 3) := by decide +kernel
theorem dX2_init_4 : decode cX2_init 4 = .ok (.aload_n 0, 1) := by decide +kernel
theorem dX2_init_5 : decode cX2_init 5 = .ok (.iconst 0, 1) := by decide +kernel
theorem dX2_init_6 : decode cX2_init 6 = .ok (.putfield 11, 3) := by decide +kernel
theorem dX2_init_9 : decode cX2_init 9 = .ok (.aload_n 0, 1) := by decide +kernel
theorem dX2_init_10 : decode cX2_init 10 = .ok (.iconst 0, 1) := by decide +kernel
theorem dX2_init_11 : decode cX2_init 11 = .ok (.putfield 17, 3) := by decide +kernel
theorem dX2_init_14 : decode cX2_init 14 = .ok (.aload_n 0, 1) := by decide +kernel
theorem dX2_init_15 : decode cX2_init 15 = .ok (.bipush 7, 2) := by decide +kernel
theorem dX2_init_17 : decode cX2_init 17 = .ok (.newarray .int, 2) := by decide +kernel
theorem dX2_init_19 : decode cX2_init 19 = .ok (.putfield 20, 3) := by decide +kernel
theorem dX2_init_22 : decode cX2_init 22 = .ok (.aload_n 0, 1) := by decide +kernel
theorem dX2_init_23 : decode cX2_init 23 = .ok (.bipush 7, 2) := by decide +kernel
theorem dX2_init_25 : decode cX2_init 25 = .ok (.newarray .int, 2) := by decide +kernel
theorem dX2_init_27 : decode cX2_init 27 = .ok (.putfield 24, 3) := by decide +kernel
theorem dX2_init_30 : decode cX2_init 30 = .ok (.aload_n 0, 1) := by decide +kernel
theorem dX2_init_31 : decode cX2_init 31 = .ok (.bipush 7, 2) := by decide +kernel
theorem dX2_init_33 : decode cX2_init 33 = .ok (.newarray .int, 2) := by decide +kernel
theorem dX2_init_35 : decode cX2_init 35 = .ok (.putfield 27, 3) := by decide +kernel
theorem dX2_init_38 : decode cX2_init 38 = .ok (.aload_n 0, 1) := by decide +kernel
theorem dX2_init_39 : decode cX2_init 39 = .ok (.bipush 7, 2) := by decide +kernel
theorem dX2_init_41 : decode cX2_init 41 = .ok (.newarray .int, 2) := by decide +kernel
theorem dX2_init_43 : decode cX2_init 43 = .ok (.putfield 30, 3) := by decide +kernel
theorem dX2_init_46 : decode cX2_init 46 = .ok (.aload_n 0, 1) := by decide +kernel
theorem dX2_init_47 : decode cX2_init 47 = .ok (.bipush 7, 2) := by decide +kernel
theorem dX2_init_49 : decode cX2_init 49 = .ok (.newarray .int, 2) := by decide +kernel
theorem dX2_init_51 : decode cX2_init 51 = .ok (.putfield 33, 3) := by decide +kernel
theorem dX2_init_54 : decode cX2_init 54 = .ok (.aload_n 0, 1) := by decide +kernel
theorem dX2_init_55 : decode cX2_init 55 = .ok (.bipush 7, 2) := by decide +kernel
theorem dX2_init_57 : decode cX2_init 57 = .ok (.newarray .int, 2) := by decide +kernel
theorem dX2_init_59 : decode cX2_init 59 = .ok (.putfield 36, 3) := by decide +kernel
theorem dX2_init_62 : decode cX2_init 62 = .ok (.aload_n 0, 1) := by decide +kernel
theorem dX2_init_63 : decode cX2_init 63 = .ok (.bipush 6, 2) := by decide +kernel
theorem dX2_init_65 : decode cX2_init 65 = .ok (.newarray .int, 2) := by decide +kernel
theorem dX2_init_67 : decode cX2_init 67 = .ok (.putfield 39, 3) := by decide +kernel
theorem dX2_init_70 : decode cX2_init 70 = .ok (.aload_n 0, 1) := by decide +kernel
theorem dX2_init_71 : decode cX2_init 71 = .ok (.bipush 6, 2) := by decide +kernel
theorem dX2_init_73 : decode cX2_init 73 = .ok (.newarray .int, 2) := by decide +kernel
theorem dX2_init_75 : decode cX2_init 75 = .ok (.putfield 42, 3) := by decide +kernel
theorem dX2_init_78 : decode cX2_init 78 = .ok (.aload_n 0, 1) := by decide +kernel
theorem dX2_init_79 : decode cX2_init 79 = .ok (.iconst 4, 1) := by decide +kernel
theorem dX2_init_80 : decode cX2_init 80 = .ok (.newarray .int, 2) := by decide +kernel
theorem dX2_init_82 : decode cX2_init 82 = .ok (.putfield 45, 3) := by decide +kernel
theorem dX2_init_85 : decode cX2_init 85 = .ok (.aload_n 0, 1) := by decide +kernel
theorem dX2_init_86 : decode cX2_init 86 = .ok (.iconst 0, 1) := by decide +kernel
theorem dX2_init_87 : decode cX2_init 87 = .ok (.putfield 48, 3) := by decide +kernel
theorem dX2_init_90 : decode cX2_init 90 = .ok (.aload_n 0, 1) := by decide +kernel
theorem dX2_init_91 : decode cX2_init 91 = .ok (.iconst 0, 1) := by decide +kernel
theorem dX2_init_92 : decode cX2_init 92 = .ok (.putfield 51, 3) := by decide +kernel
theorem dX2_init_95 : decode cX2_init 95 = .ok (.aload_n 0, 1) := by decide +kernel
theorem dX2_init_96 : decode cX2_init 96 = .ok (.iconst 0, 1) := by decide +kernel
theorem dX2_init_97 : decode cX2_init 97 = .ok (.putfield 54, 3) := by decide +kernel
theorem dX2_init_100 : decode cX2_init 100 = .ok (.return_, 1) := by decide +kernel
theorem dX2_draw_0 : decode cX2_draw 0 = .ok (.aload_n 0, 1) := by decide +kernel
theorem dX2_draw_1 : decode cX2_draw 1 = .ok (.aload_n 1, 1) := by decide +kernel
theorem dX2_draw_2 : decode cX2_draw 2 = .ok (.iconst 2, 1) := by decide +kernel
theorem dX2_draw_3 : decode cX2_draw 3 = .ok (.invokevirtual 57, 3) := by decide +kernel
theorem dX2_draw_6 : decode cX2_draw 6 = .ok (.iconst 0, 1) := by decide +kernel
theorem dX2_draw_7 : decode cX2_draw 7 = .ok (.invokestatic 61, 3) := by decide +kernel
theorem dX2_draw_10 : decode cX2_draw 10 = .ok (.bipush 6, 2) := by decide +kernel
theorem dX2_draw_12 : decode cX2_draw 12 = .ok (.invokestatic 67, 3) := by decide +kernel
theorem dX2_draw_15 : decode cX2_draw 15 = .ok (.putfield 11, 3) := by decide +kernel
theorem dX2_draw_18 : decode cX2_draw 18 = .ok (.aload_n 0, 1) := by decide +kernel
theorem dX2_draw_19 : decode cX2_draw 19 = .ok (.aload_n 1, 1) := by decide +kernel
theorem dX2_draw_20 : decode cX2_draw 20 = .ok (.iconst 0, 1) := by decide +kernel
theorem dX2_draw_21 : decode cX2_draw 21 = .ok (.invokevirtual 57, 3) := by decide +kernel
theorem dX2_draw_24 : decode cX2_draw 24 = .ok (.aload_n 0, 1) := by decide +kernel
theorem dX2_draw_25 : decode cX2_draw 25 = .ok (.getfield 11, 3) := by decide +kernel
theorem dX2_draw_28 : decode cX2_draw 28 = .ok (.invokestatic 61, 3) := by decide +kernel
theorem dX2_draw_31 : decode cX2_draw 31 = .ok (.bipush 6, 2) := by decide +kernel
theorem dX2_draw_33 : decode cX2_draw 33 = .ok (.invokestatic 67, 3) := by decide +kernel
theorem dX2_draw_36 : decode cX2_draw 36 = .ok (.putfield 17, 3) := by decide +kernel
theorem dX2_draw_39 : decode cX2_draw 39 = .ok (.aload_n 0, 1) := by decide +kernel
theorem dX2_draw_40 : decode cX2_draw 40 = .ok (.aload_n 1, 1) := by decide +kernel
theorem dX2_draw_41 : decode cX2_draw 41 = .ok (.iconst 1, 1) := by decide +kernel
theorem dX2_draw_42 : decode cX2_draw 42 = .ok (.invokevirtual 57, 3) := by decide +kernel
theorem dX2_draw_45 : decode cX2_draw 45 = .ok (.putfield 54, 3) := by decide +kernel
theorem dX2_draw_48 : decode cX2_draw 48 = .ok (.iconst 0, 1) := by decide +kernel
theorem dX2_draw_49 : decode cX2_draw 49 = .ok (.istore_n 2, 1) := by decide +kernel
theorem dX2_draw_50 : decode cX2_draw 50 = .ok (.iload_n 2, 1) := by decide +kernel
theorem dX2_draw_51 : decode cX2_draw 51 = .ok (.iconst 4, 1) := by decide +kernel
theorem dX2_draw_52 : decode cX2_draw 52 = .ok (.if_icmp .ge 22, 3) := by decide +kernel
theorem dX2_draw_55 : decode cX2_draw 55 = .ok (.aload_n 0, 1) := by decide +kernel
theorem dX2_draw_56 : decode cX2_draw 56 = .ok (.getfield 45, 3) := by decide +kernel
theorem dX2_draw_59 : decode cX2_draw 59 = .ok (.iload_n 2, 1) := by decide +kernel
theorem dX2_draw_60 : decode cX2_draw 60 = .ok (.aload_n 1, 1) := by decide +kernel
theorem dX2_draw_61 : decode cX2_draw 61 = .ok (.iconst 5, 1) := by decide +kernel
theorem dX2_draw_62 : decode cX2_draw 62 = .ok (.iload_n 2, 1) := by decide +kernel
theorem dX2_draw_63 : decode cX2_draw 63 = .ok (.iadd, 1) := by decide +kernel
theorem dX2_draw_64 : decode cX2_draw 64 = .ok (.invokevirtual 57, 3) := by decide +kernel
theorem dX2_draw_67 : decode cX2_draw 67 = .ok (.iastore, 1) := by decide +kernel
theorem dX2_draw_68 : decode cX2_draw 68 = .ok (.iinc 2 1, 3) := by decide +kernel
theorem dX2_draw_71 : decode cX2_draw 71 = .ok (.goto (-21), 3) := by decide +kernel
theorem dX2_draw_74 : decode cX2_draw 74 = .ok (.aload_n 0, 1) := by decide +kernel
theorem dX2_draw_75 : decode cX2_draw 75 = .ok (.aload_n 1, 1) := by decide +kernel
theorem dX2_draw_76 : decode cX2_draw 76 = .ok (.invokevirtual 70, 3) := by decide +kernel
theorem dX2_draw_79 : decode cX2_draw 79 = .ok (.aload_n 0, 1) := by decide +kernel
theorem dX2_draw_80 : decode cX2_draw 80 = .ok (.getfield 33, 3) := by decide +kernel
theorem dX2_draw_83 : decode cX2_draw 83 = .ok (.aload_n 0, 1) := by decide +kernel
theorem dX2_draw_84 : decode cX2_draw 84 = .ok (.getfield 11, 3) := by decide +kernel
theorem dX2_draw_87 : decode cX2_draw 87 = .ok (.aload_n 1, 1) := by decide +kernel
theorem dX2_draw_88 : decode cX2_draw 88 = .ok (.iconst 3, 1) := by decide +kernel
theorem dX2_draw_89 : decode cX2_draw 89 = .ok (.invokevirtual 57, 3) := by decide +kernel
theorem dX2_draw_92 : decode cX2_draw 92 = .ok (.iastore, 1) := by decide +kernel
theorem dX2_draw_93 : decode cX2_draw 93 = .ok (.aload_n 0, 1) := by decide +kernel
theorem dX2_draw_94 : decode cX2_draw 94 = .ok (.getfield 36, 3) := by decide +kernel
theorem dX2_draw_97 : decode cX2_draw 97 = .ok (.aload_n 0, 1) := by decide +kernel
theorem dX2_draw_98 : decode cX2_draw 98 = .ok (.getfield 11, 3) := by decide +kernel
theorem dX2_draw_101 : decode cX2_draw 101 = .ok (.iconst 3, 1) := by decide +kernel
theorem dX2_draw_102 : decode cX2_draw 102 = .ok (.iastore, 1) := by decide +kernel
theorem dX2_draw_103 : decode cX2_draw 103 = .ok (.aload_n 0, 1) := by decide +kernel
theorem dX2_draw_104 : decode cX2_draw 104 = .ok (.getfield 17, 3) := by decide +kernel
theorem dX2_draw_107 : decode cX2_draw 107 = .ok (.aload_n 0, 1) := by decide +kernel
theorem dX2_draw_108 : decode cX2_draw 108 = .ok (.getfield 11, 3) := by decide +kernel
theorem dX2_draw_111 : decode cX2_draw 111 = .ok (.if_icmp .le 31, 3) := by decide +kernel
theorem dX2_draw_114 : decode cX2_draw 114 = .ok (.aload_n 0, 1) := by decide +kernel
theorem dX2_draw_115 : decode cX2_draw 115 = .ok (.getfield 33, 3) := by decide +kernel
theorem dX2_draw_118 : decode cX2_draw 118 = .ok (.aload_n 0, 1) := by decide +kernel
theorem dX2_draw_119 : decode cX2_draw 119 = .ok (.getfield 17, 3) := by decide +kernel
theorem dX2_draw_122 : decode cX2_draw 122 = .ok (.aload_n 0, 1) := by decide +kernel
theorem dX2_draw_123 : decode cX2_draw 123 = .ok (.getfield 30, 3) := by decide +kernel
theorem dX2_draw_126 : decode cX2_draw 126 = .ok (.aload_n 0, 1) := by decide +kernel
theorem dX2_draw_127 : decode cX2_draw 127 = .ok (.getfield 17, 3) := by decide +kernel
theorem dX2_draw_130 : decode cX2_draw 130 = .ok (.iaload, 1) := by decide +kernel
theorem dX2_draw_131 : decode cX2_draw 131 = .ok (.iastore, 1) := by decide +kernel
theorem dX2_draw_132 : decode cX2_draw 132 = .ok (.aload_n 0, 1) := by decide +kernel
theorem dX2_draw_133 : decode cX2_draw 133 = .ok (.getfield 36, 3) := by decide +kernel
theorem dX2_draw_136 : decode cX2_draw 136 = .ok (.aload_n 0, 1) := by decide +kernel
theorem dX2_draw_137 : decode cX2_draw 137 = .ok (.getfield 17, 3) := by decide +kernel
theorem dX2_draw_140 : decode cX2_draw 140 = .ok (.iconst 3, 1) := by decide +kernel
theorem dX2_draw_141 : decode cX2_draw 141 = .ok (.iastore, 1) := by decide +kernel
theorem dX2_draw_142 : decode cX2_draw 142 = .ok (.aload_n 0, 1) := by decide +kernel
theorem dX2_draw_143 : decode cX2_draw 143 = .ok (.invokevirtual 74, 3) := by decide +kernel
theorem dX2_draw_146 : decode cX2_draw 146 = .ok (.aload_n 0, 1) := by decide +kernel
theorem dX2_draw_147 : decode cX2_draw 147 = .ok (.invokevirtual 77, 3) := by decide +kernel
theorem dX2_draw_150 : decode cX2_draw 150 = .ok (.return_, 1) := by decide +kernel
theorem dX2_stands_0 : decode cX2_stands 0 = .ok (.aload_n 0, 1) := by decide +kernel
theorem dX2_stands_1 : decode cX2_stands 1 = .ok (.getfield 51, 3) := by decide +kernel
theorem dX2_stands_4 : decode cX2_stands 4 = .ok (.ifCond .le 18, 3) := by decide +kernel
theorem dX2_stands_7 : decode cX2_stands 7 = .ok (.aload_n 0, 1) := by decide +kernel
theorem dX2_stands_8 : decode cX2_stands 8 = .ok (.getfield 51, 3) := by decide +kernel
theorem dX2_stands_11 : decode cX2_stands 11 = .ok (.aload_n 0, 1) := by decide +kernel
theorem dX2_stands_12 : decode cX2_stands 12 = .ok (.getfield 54, 3) := by decide +kernel
theorem dX2_stands_15 : decode cX2_stands 15 = .ok (.if_icmp .gt 7, 3) := by decide +kernel
theorem dX2_stands_18 : decode cX2_stands 18 = .ok (.iconst 1, 1) := by decide +kernel
theorem dX2_stands_19 : decode cX2_stands 19 = .ok (.goto 4, 3) := by decide +kernel
theorem dX2_stands_22 : decode cX2_stands 22 = .ok (.iconst 0, 1) := by decide +kernel
theorem dX2_stands_23 : decode cX2_stands 23 = .ok (.ireturn, 1) := by decide +kernel
theorem dX2_neededSpeed_0 : decode cX2_neededSpeed 0 = .ok (.aload_n 0, 1) := by decide +kernel
theorem dX2_neededSpeed_1 : decode cX2_neededSpeed 1 = .ok (.getfield 51, 3) := by decide +kernel
theorem dX2_neededSpeed_4 : decode cX2_neededSpeed 4 = .ok (.ireturn, 1) := by decide +kernel
theorem dX2_stretchCount_0 : decode cX2_stretchCount 0 = .ok (.aload_n 0, 1) := by decide +kernel
theorem dX2_stretchCount_1 : decode cX2_stretchCount 1 = .ok (.getfield 48, 3) := by decide +kernel
theorem dX2_stretchCount_4 : decode cX2_stretchCount 4 = .ok (.ireturn, 1) := by decide +kernel
theorem dX2_meetingAt_0 : decode cX2_meetingAt 0 = .ok (.iload_n 1, 1) := by decide +kernel
theorem dX2_meetingAt_1 : decode cX2_meetingAt 1 = .ok (.aload_n 0, 1) := by decide +kernel
theorem dX2_meetingAt_2 : decode cX2_meetingAt 2 = .ok (.getfield 11, 3) := by decide +kernel
theorem dX2_meetingAt_5 : decode cX2_meetingAt 5 = .ok (.if_icmp .le 11, 3) := by decide +kernel
theorem dX2_meetingAt_8 : decode cX2_meetingAt 8 = .ok (.iload_n 1, 1) := by decide +kernel
theorem dX2_meetingAt_9 : decode cX2_meetingAt 9 = .ok (.aload_n 0, 1) := by decide +kernel
theorem dX2_meetingAt_10 : decode cX2_meetingAt 10 = .ok (.getfield 17, 3) := by decide +kernel
theorem dX2_meetingAt_13 : decode cX2_meetingAt 13 = .ok (.if_icmp .lt 5, 3) := by decide +kernel
theorem dX2_meetingAt_16 : decode cX2_meetingAt 16 = .ok (.iconst 0, 1) := by decide +kernel
theorem dX2_meetingAt_17 : decode cX2_meetingAt 17 = .ok (.ireturn, 1) := by decide +kernel
theorem dX2_meetingAt_18 : decode cX2_meetingAt 18 = .ok (.aload_n 0, 1) := by decide +kernel
theorem dX2_meetingAt_19 : decode cX2_meetingAt 19 = .ok (.getfield 36, 3) := by decide +kernel
theorem dX2_meetingAt_22 : decode cX2_meetingAt 22 = .ok (.iload_n 1, 1) := by decide +kernel
theorem dX2_meetingAt_23 : decode cX2_meetingAt 23 = .ok (.iaload, 1) := by decide +kernel
theorem dX2_meetingAt_24 : decode cX2_meetingAt 24 = .ok (.ireturn, 1) := by decide +kernel
theorem dX2_milesAround_0 : decode cX2_milesAround 0 = .ok (.aload_n 0, 1) := by decide +kernel
theorem dX2_milesAround_1 : decode cX2_milesAround 1 = .ok (.iload_n 1, 1) := by decide +kernel
theorem dX2_milesAround_2 : decode cX2_milesAround 2 = .ok (.invokevirtual 80, 3) := by decide +kernel
theorem dX2_milesAround_5 : decode cX2_milesAround 5 = .ok (.ifCond .eq 5, 3) := by decide +kernel
theorem dX2_milesAround_8 : decode cX2_milesAround 8 = .ok (.iconst 0, 1) := by decide +kernel
theorem dX2_milesAround_9 : decode cX2_milesAround 9 = .ok (.ireturn, 1) := by decide +kernel
theorem dX2_milesAround_10 : decode cX2_milesAround 10 = .ok (.aload_n 0, 1) := by decide +kernel
theorem dX2_milesAround_11 : decode cX2_milesAround 11 = .ok (.getfield 20, 3) := by decide +kernel
theorem dX2_milesAround_14 : decode cX2_milesAround 14 = .ok (.aload_n 0, 1) := by decide +kernel
theorem dX2_milesAround_15 : decode cX2_milesAround 15 = .ok (.getfield 42, 3) := by decide +kernel
theorem dX2_milesAround_18 : decode cX2_milesAround 18 = .ok (.iload_n 1, 1) := by decide +kernel
theorem dX2_milesAround_19 : decode cX2_milesAround 19 = .ok (.iaload, 1) := by decide +kernel
theorem dX2_milesAround_20 : decode cX2_milesAround 20 = .ok (.iaload, 1) := by decide +kernel
theorem dX2_milesAround_21 : decode cX2_milesAround 21 = .ok (.aload_n 0, 1) := by decide +kernel
theorem dX2_milesAround_22 : decode cX2_milesAround 22 = .ok (.getfield 20, 3) := by decide +kernel
theorem dX2_milesAround_25 : decode cX2_milesAround 25 = .ok (.aload_n 0, 1) := by decide +kernel
theorem dX2_milesAround_26 : decode cX2_milesAround 26 = .ok (.getfield 39, 3) := by decide +kernel
theorem dX2_milesAround_29 : decode cX2_milesAround 29 = .ok (.iload_n 1, 1) := by decide +kernel
theorem dX2_milesAround_30 : decode cX2_milesAround 30 = .ok (.iaload, 1) := by decide +kernel
theorem dX2_milesAround_31 : decode cX2_milesAround 31 = .ok (.iaload, 1) := by decide +kernel
theorem dX2_milesAround_32 : decode cX2_milesAround 32 = .ok (.isub, 1) := by decide +kernel
theorem dX2_milesAround_33 : decode cX2_milesAround 33 = .ok (.ireturn, 1) := by decide +kernel
theorem dX2_hoursAround_0 : decode cX2_hoursAround 0 = .ok (.aload_n 0, 1) := by decide +kernel
theorem dX2_hoursAround_1 : decode cX2_hoursAround 1 = .ok (.iload_n 1, 1) := by decide +kernel
theorem dX2_hoursAround_2 : decode cX2_hoursAround 2 = .ok (.invokevirtual 80, 3) := by decide +kernel
theorem dX2_hoursAround_5 : decode cX2_hoursAround 5 = .ok (.ifCond .eq 5, 3) := by decide +kernel
theorem dX2_hoursAround_8 : decode cX2_hoursAround 8 = .ok (.iconst 0, 1) := by decide +kernel
theorem dX2_hoursAround_9 : decode cX2_hoursAround 9 = .ok (.ireturn, 1) := by decide +kernel
theorem dX2_hoursAround_10 : decode cX2_hoursAround 10 = .ok (.aload_n 0, 1) := by decide +kernel
theorem dX2_hoursAround_11 : decode cX2_hoursAround 11 = .ok (.getfield 33, 3) := by decide +kernel
theorem dX2_hoursAround_14 : decode cX2_hoursAround 14 = .ok (.aload_n 0, 1) := by decide +kernel
theorem dX2_hoursAround_15 : decode cX2_hoursAround 15 = .ok (.getfield 42, 3) := by decide +kernel
theorem dX2_hoursAround_18 : decode cX2_hoursAround 18 = .ok (.iload_n 1, 1) := by decide +kernel
theorem dX2_hoursAround_19 : decode cX2_hoursAround 19 = .ok (.iaload, 1) := by decide +kernel
theorem dX2_hoursAround_20 : decode cX2_hoursAround 20 = .ok (.iaload, 1) := by decide +kernel
theorem dX2_hoursAround_21 : decode cX2_hoursAround 21 = .ok (.aload_n 0, 1) := by decide +kernel
theorem dX2_hoursAround_22 : decode cX2_hoursAround 22 = .ok (.getfield 33, 3) := by decide +kernel
theorem dX2_hoursAround_25 : decode cX2_hoursAround 25 = .ok (.aload_n 0, 1) := by decide +kernel
theorem dX2_hoursAround_26 : decode cX2_hoursAround 26 = .ok (.getfield 39, 3) := by decide +kernel
theorem dX2_hoursAround_29 : decode cX2_hoursAround 29 = .ok (.iload_n 1, 1) := by decide +kernel
theorem dX2_hoursAround_30 : decode cX2_hoursAround 30 = .ok (.iaload, 1) := by decide +kernel
theorem dX2_hoursAround_31 : decode cX2_hoursAround 31 = .ok (.iaload, 1) := by decide +kernel
theorem dX2_hoursAround_32 : decode cX2_hoursAround 32 = .ok (.isub, 1) := by decide +kernel
theorem dX2_hoursAround_33 : decode cX2_hoursAround 33 = .ok (.ireturn, 1) := by decide +kernel
theorem dX2_hourUpper_0 : decode cX2_hourUpper 0 = .ok (.iload_n 1, 1) := by decide +kernel
theorem dX2_hourUpper_1 : decode cX2_hourUpper 1 = .ok (.iconst 1, 1) := by decide +kernel
theorem dX2_hourUpper_2 : decode cX2_hourUpper 2 = .ok (.isub, 1) := by decide +kernel
theorem dX2_hourUpper_3 : decode cX2_hourUpper 3 = .ok (.istore_n 2, 1) := by decide +kernel
theorem dX2_hourUpper_4 : decode cX2_hourUpper 4 = .ok (.aload_n 0, 1) := by decide +kernel
theorem dX2_hourUpper_5 : decode cX2_hourUpper 5 = .ok (.iload_n 2, 1) := by decide +kernel
theorem dX2_hourUpper_6 : decode cX2_hourUpper 6 = .ok (.invokevirtual 80, 3) := by decide +kernel
theorem dX2_hourUpper_9 : decode cX2_hourUpper 9 = .ok (.ifCond .eq 5, 3) := by decide +kernel
theorem dX2_hourUpper_12 : decode cX2_hourUpper 12 = .ok (.iconst 0, 1) := by decide +kernel
theorem dX2_hourUpper_13 : decode cX2_hourUpper 13 = .ok (.ireturn, 1) := by decide +kernel
theorem dX2_hourUpper_14 : decode cX2_hourUpper 14 = .ok (.aload_n 0, 1) := by decide +kernel
theorem dX2_hourUpper_15 : decode cX2_hourUpper 15 = .ok (.aload_n 0, 1) := by decide +kernel
theorem dX2_hourUpper_16 : decode cX2_hourUpper 16 = .ok (.getfield 39, 3) := by decide +kernel
theorem dX2_hourUpper_19 : decode cX2_hourUpper 19 = .ok (.iload_n 2, 1) := by decide +kernel
theorem dX2_hourUpper_20 : decode cX2_hourUpper 20 = .ok (.iaload, 1) := by decide +kernel
theorem dX2_hourUpper_21 : decode cX2_hourUpper 21 = .ok (.aload_n 0, 1) := by decide +kernel
theorem dX2_hourUpper_22 : decode cX2_hourUpper 22 = .ok (.getfield 42, 3) := by decide +kernel
theorem dX2_hourUpper_25 : decode cX2_hourUpper 25 = .ok (.iload_n 2, 1) := by decide +kernel
theorem dX2_hourUpper_26 : decode cX2_hourUpper 26 = .ok (.iaload, 1) := by decide +kernel
theorem dX2_hourUpper_27 : decode cX2_hourUpper 27 = .ok (.iload_n 1, 1) := by decide +kernel
theorem dX2_hourUpper_28 : decode cX2_hourUpper 28 = .ok (.invokevirtual 84, 3) := by decide +kernel
theorem dX2_hourUpper_31 : decode cX2_hourUpper 31 = .ok (.aload_n 0, 1) := by decide +kernel
theorem dX2_hourUpper_32 : decode cX2_hourUpper 32 = .ok (.getfield 24, 3) := by decide +kernel
theorem dX2_hourUpper_35 : decode cX2_hourUpper 35 = .ok (.iload_n 1, 1) := by decide +kernel
theorem dX2_hourUpper_36 : decode cX2_hourUpper 36 = .ok (.iaload, 1) := by decide +kernel
theorem dX2_hourUpper_37 : decode cX2_hourUpper 37 = .ok (.aload_n 0, 1) := by decide +kernel
theorem dX2_hourUpper_38 : decode cX2_hourUpper 38 = .ok (.iload_n 2, 1) := by decide +kernel
theorem dX2_hourUpper_39 : decode cX2_hourUpper 39 = .ok (.invokevirtual 88, 3) := by decide +kernel
theorem dX2_hourUpper_42 : decode cX2_hourUpper 42 = .ok (.imul, 1) := by decide +kernel
theorem dX2_hourUpper_43 : decode cX2_hourUpper 43 = .ok (.iadd, 1) := by decide +kernel
theorem dX2_hourUpper_44 : decode cX2_hourUpper 44 = .ok (.ireturn, 1) := by decide +kernel
theorem dX2_hourLower_0 : decode cX2_hourLower 0 = .ok (.aload_n 0, 1) := by decide +kernel
theorem dX2_hourLower_1 : decode cX2_hourLower 1 = .ok (.iload_n 1, 1) := by decide +kernel
theorem dX2_hourLower_2 : decode cX2_hourLower 2 = .ok (.iconst 1, 1) := by decide +kernel
theorem dX2_hourLower_3 : decode cX2_hourLower 3 = .ok (.isub, 1) := by decide +kernel
theorem dX2_hourLower_4 : decode cX2_hourLower 4 = .ok (.invokevirtual 88, 3) := by decide +kernel
theorem dX2_hourLower_7 : decode cX2_hourLower 7 = .ok (.ireturn, 1) := by decide +kernel
theorem dX2_hourRoundedUp_0 : decode cX2_hourRoundedUp 0 = .ok (.aload_n 0, 1) := by decide +kernel
theorem dX2_hourRoundedUp_1 : decode cX2_hourRoundedUp 1 = .ok (.iload_n 1, 1) := by decide +kernel
theorem dX2_hourRoundedUp_2 : decode cX2_hourRoundedUp 2 = .ok (.invokevirtual 91, 3) := by decide +kernel
theorem dX2_hourRoundedUp_5 : decode cX2_hourRoundedUp 5 = .ok (.istore_n 2, 1) := by decide +kernel
theorem dX2_hourRoundedUp_6 : decode cX2_hourRoundedUp 6 = .ok (.iload_n 2, 1) := by decide +kernel
theorem dX2_hourRoundedUp_7 : decode cX2_hourRoundedUp 7 = .ok (.ifCond .gt 7, 3) := by decide +kernel
theorem dX2_hourRoundedUp_10 : decode cX2_hourRoundedUp 10 = .ok (.iconst 0, 1) := by decide +kernel
theorem dX2_hourRoundedUp_11 : decode cX2_hourRoundedUp 11 = .ok (.goto 14, 3) := by decide +kernel
theorem dX2_hourRoundedUp_14 : decode cX2_hourRoundedUp 14 = .ok (.aload_n 0, 1) := by decide +kernel
theorem dX2_hourRoundedUp_15 : decode cX2_hourRoundedUp 15 = .ok (.iload_n 1, 1) := by decide +kernel
theorem dX2_hourRoundedUp_16 : decode cX2_hourRoundedUp 16 = .ok (.invokevirtual 94, 3) := by decide +kernel
theorem dX2_hourRoundedUp_19 : decode cX2_hourRoundedUp 19 = .ok (.ineg, 1) := by decide +kernel
theorem dX2_hourRoundedUp_20 : decode cX2_hourRoundedUp 20 = .ok (.iload_n 2, 1) := by decide +kernel
theorem dX2_hourRoundedUp_21 : decode cX2_hourRoundedUp 21 = .ok (.invokestatic 97, 3) := by decide +kernel
theorem dX2_hourRoundedUp_24 : decode cX2_hourRoundedUp 24 = .ok (.ineg, 1) := by decide +kernel
theorem dX2_hourRoundedUp_25 : decode cX2_hourRoundedUp 25 = .ok (.ireturn, 1) := by decide +kernel
theorem dX2_burntOnLeg_0 : decode cX2_burntOnLeg 0 = .ok (.aload_n 0, 1) := by decide +kernel
theorem dX2_burntOnLeg_1 : decode cX2_burntOnLeg 1 = .ok (.iload_n 1, 1) := by decide +kernel
theorem dX2_burntOnLeg_2 : decode cX2_burntOnLeg 2 = .ok (.invokevirtual 100, 3) := by decide +kernel
theorem dX2_burntOnLeg_5 : decode cX2_burntOnLeg 5 = .ok (.i2l, 1) := by decide +kernel
theorem dX2_burntOnLeg_6 : decode cX2_burntOnLeg 6 = .ok (.lstore_n 2, 1) := by decide +kernel
theorem dX2_burntOnLeg_7 : decode cX2_burntOnLeg 7 = .ok (.lload_n 2, 1) := by decide +kernel
theorem dX2_burntOnLeg_8 : decode cX2_burntOnLeg 8 = .ok (.lconst 0, 1) := by decide +kernel
theorem dX2_burntOnLeg_9 : decode cX2_burntOnLeg 9 = .ok (.lcmp, 1) := by decide +kernel
theorem dX2_burntOnLeg_10 : decode cX2_burntOnLeg 10 = .ok (.ifCond .gt 5, 3) := by decide +kernel
theorem dX2_burntOnLeg_13 : decode cX2_burntOnLeg 13 = .ok (.iconst 0, 1) := by decide +kernel
theorem dX2_burntOnLeg_14 : decode cX2_burntOnLeg 14 = .ok (.ireturn, 1) := by decide +kernel
theorem dX2_burntOnLeg_15 : decode cX2_burntOnLeg 15 = .ok (.aload_n 0, 1) := by decide +kernel
theorem dX2_burntOnLeg_16 : decode cX2_burntOnLeg 16 = .ok (.iload_n 1, 1) := by decide +kernel
theorem dX2_burntOnLeg_17 : decode cX2_burntOnLeg 17 = .ok (.invokevirtual 88, 3) := by decide +kernel
theorem dX2_burntOnLeg_20 : decode cX2_burntOnLeg 20 = .ok (.i2l, 1) := by decide +kernel
theorem dX2_burntOnLeg_21 : decode cX2_burntOnLeg 21 = .ok (.lstore 4, 2) := by decide +kernel
theorem dX2_burntOnLeg_23 : decode cX2_burntOnLeg 23 = .ok (.ldc2_w 103, 3) := by decide +kernel
theorem dX2_burntOnLeg_26 : decode cX2_burntOnLeg 26 = .ok (.lload 4, 2) := by decide +kernel
theorem dX2_burntOnLeg_28 : decode cX2_burntOnLeg 28 = .ok (.ldc2_w 105, 3) := by decide +kernel
theorem dX2_burntOnLeg_31 : decode cX2_burntOnLeg 31 = .ok (.lload_n 2, 1) := by decide +kernel
theorem dX2_burntOnLeg_32 : decode cX2_burntOnLeg 32 = .ok (.lmul, 1) := by decide +kernel
theorem dX2_burntOnLeg_33 : decode cX2_burntOnLeg 33 = .ok (.ldiv, 1) := by decide +kernel
theorem dX2_burntOnLeg_34 : decode cX2_burntOnLeg 34 = .ok (.invokestatic 107, 3) := by decide +kernel
theorem dX2_burntOnLeg_37 : decode cX2_burntOnLeg 37 = .ok (.l2i, 1) := by decide +kernel
theorem dX2_burntOnLeg_38 : decode cX2_burntOnLeg 38 = .ok (.istore 6, 2) := by decide +kernel
theorem dX2_burntOnLeg_40 : decode cX2_burntOnLeg 40 = .ok (.iload 6, 2) := by decide +kernel
theorem dX2_burntOnLeg_42 : decode cX2_burntOnLeg 42 = .ok (.ifCond .ge 5, 3) := by decide +kernel
theorem dX2_burntOnLeg_45 : decode cX2_burntOnLeg 45 = .ok (.iconst 0, 1) := by decide +kernel
theorem dX2_burntOnLeg_46 : decode cX2_burntOnLeg 46 = .ok (.ireturn, 1) := by decide +kernel
theorem dX2_burntOnLeg_47 : decode cX2_burntOnLeg 47 = .ok (.aload_n 0, 1) := by decide +kernel
theorem dX2_burntOnLeg_48 : decode cX2_burntOnLeg 48 = .ok (.getfield 45, 3) := by decide +kernel
theorem dX2_burntOnLeg_51 : decode cX2_burntOnLeg 51 = .ok (.iload 6, 2) := by decide +kernel
theorem dX2_burntOnLeg_53 : decode cX2_burntOnLeg 53 = .ok (.iaload, 1) := by decide +kernel
theorem dX2_burntOnLeg_54 : decode cX2_burntOnLeg 54 = .ok (.i2l, 1) := by decide +kernel
theorem dX2_burntOnLeg_55 : decode cX2_burntOnLeg 55 = .ok (.lstore 7, 2) := by decide +kernel
theorem dX2_burntOnLeg_57 : decode cX2_burntOnLeg 57 = .ok (.aload_n 0, 1) := by decide +kernel
theorem dX2_burntOnLeg_58 : decode cX2_burntOnLeg 58 = .ok (.getfield 45, 3) := by decide +kernel
theorem dX2_burntOnLeg_61 : decode cX2_burntOnLeg 61 = .ok (.iload 6, 2) := by decide +kernel
theorem dX2_burntOnLeg_63 : decode cX2_burntOnLeg 63 = .ok (.iconst 1, 1) := by decide +kernel
theorem dX2_burntOnLeg_64 : decode cX2_burntOnLeg 64 = .ok (.iadd, 1) := by decide +kernel
theorem dX2_burntOnLeg_65 : decode cX2_burntOnLeg 65 = .ok (.iaload, 1) := by decide +kernel
theorem dX2_burntOnLeg_66 : decode cX2_burntOnLeg 66 = .ok (.i2l, 1) := by decide +kernel
theorem dX2_burntOnLeg_67 : decode cX2_burntOnLeg 67 = .ok (.lload 7, 2) := by decide +kernel
theorem dX2_burntOnLeg_69 : decode cX2_burntOnLeg 69 = .ok (.lsub, 1) := by decide +kernel
theorem dX2_burntOnLeg_70 : decode cX2_burntOnLeg 70 = .ok (.lstore 9, 2) := by decide +kernel
theorem dX2_burntOnLeg_72 : decode cX2_burntOnLeg 72 = .ok (.lload 4, 2) := by decide +kernel
theorem dX2_burntOnLeg_74 : decode cX2_burntOnLeg 74 = .ok (.bipush 10, 2) := by decide +kernel
theorem dX2_burntOnLeg_76 : decode cX2_burntOnLeg 76 = .ok (.iload 6, 2) := by decide +kernel
theorem dX2_burntOnLeg_78 : decode cX2_burntOnLeg 78 = .ok (.imul, 1) := by decide +kernel
theorem dX2_burntOnLeg_79 : decode cX2_burntOnLeg 79 = .ok (.i2l, 1) := by decide +kernel
theorem dX2_burntOnLeg_80 : decode cX2_burntOnLeg 80 = .ok (.lload_n 2, 1) := by decide +kernel
theorem dX2_burntOnLeg_81 : decode cX2_burntOnLeg 81 = .ok (.lmul, 1) := by decide +kernel
theorem dX2_burntOnLeg_82 : decode cX2_burntOnLeg 82 = .ok (.lsub, 1) := by decide +kernel
theorem dX2_burntOnLeg_83 : decode cX2_burntOnLeg 83 = .ok (.lstore 11, 2) := by decide +kernel
theorem dX2_burntOnLeg_85 : decode cX2_burntOnLeg 85 = .ok (.lload 7, 2) := by decide +kernel
theorem dX2_burntOnLeg_87 : decode cX2_burntOnLeg 87 = .ok (.ldc2_w 105, 3) := by decide +kernel
theorem dX2_burntOnLeg_90 : decode cX2_burntOnLeg 90 = .ok (.lmul, 1) := by decide +kernel
theorem dX2_burntOnLeg_91 : decode cX2_burntOnLeg 91 = .ok (.lload_n 2, 1) := by decide +kernel
theorem dX2_burntOnLeg_92 : decode cX2_burntOnLeg 92 = .ok (.lmul, 1) := by decide +kernel
theorem dX2_burntOnLeg_93 : decode cX2_burntOnLeg 93 = .ok (.lload 9, 2) := by decide +kernel
theorem dX2_burntOnLeg_95 : decode cX2_burntOnLeg 95 = .ok (.lload 11, 2) := by decide +kernel
theorem dX2_burntOnLeg_97 : decode cX2_burntOnLeg 97 = .ok (.lmul, 1) := by decide +kernel
theorem dX2_burntOnLeg_98 : decode cX2_burntOnLeg 98 = .ok (.ladd, 1) := by decide +kernel
theorem dX2_burntOnLeg_99 : decode cX2_burntOnLeg 99 = .ok (.lstore 13, 2) := by decide +kernel
theorem dX2_burntOnLeg_101 : decode cX2_burntOnLeg 101 = .ok (.aload_n 0, 1) := by decide +kernel
theorem dX2_burntOnLeg_102 : decode cX2_burntOnLeg 102 = .ok (.iload_n 1, 1) := by decide +kernel
theorem dX2_burntOnLeg_103 : decode cX2_burntOnLeg 103 = .ok (.invokevirtual 110, 3) := by decide +kernel
theorem dX2_burntOnLeg_106 : decode cX2_burntOnLeg 106 = .ok (.i2l, 1) := by decide +kernel
theorem dX2_burntOnLeg_107 : decode cX2_burntOnLeg 107 = .ok (.lload 13, 2) := by decide +kernel
theorem dX2_burntOnLeg_109 : decode cX2_burntOnLeg 109 = .ok (.lmul, 1) := by decide +kernel
theorem dX2_burntOnLeg_110 : decode cX2_burntOnLeg 110 = .ok (.ldc2_w 105, 3) := by decide +kernel
theorem dX2_burntOnLeg_113 : decode cX2_burntOnLeg 113 = .ok (.lload_n 2, 1) := by decide +kernel
theorem dX2_burntOnLeg_114 : decode cX2_burntOnLeg 114 = .ok (.lmul, 1) := by decide +kernel
theorem dX2_burntOnLeg_115 : decode cX2_burntOnLeg 115 = .ok (.ldiv, 1) := by decide +kernel
theorem dX2_burntOnLeg_116 : decode cX2_burntOnLeg 116 = .ok (.l2i, 1) := by decide +kernel
theorem dX2_burntOnLeg_117 : decode cX2_burntOnLeg 117 = .ok (.ireturn, 1) := by decide +kernel
theorem dX2_burntInAll_0 : decode cX2_burntInAll 0 = .ok (.iconst 0, 1) := by decide +kernel
theorem dX2_burntInAll_1 : decode cX2_burntInAll 1 = .ok (.istore_n 1, 1) := by decide +kernel
theorem dX2_burntInAll_2 : decode cX2_burntInAll 2 = .ok (.aload_n 0, 1) := by decide +kernel
theorem dX2_burntInAll_3 : decode cX2_burntInAll 3 = .ok (.getfield 11, 3) := by decide +kernel
theorem dX2_burntInAll_6 : decode cX2_burntInAll 6 = .ok (.istore_n 2, 1) := by decide +kernel
theorem dX2_burntInAll_7 : decode cX2_burntInAll 7 = .ok (.iload_n 2, 1) := by decide +kernel
theorem dX2_burntInAll_8 : decode cX2_burntInAll 8 = .ok (.aload_n 0, 1) := by decide +kernel
theorem dX2_burntInAll_9 : decode cX2_burntInAll 9 = .ok (.getfield 17, 3) := by decide +kernel
theorem dX2_burntInAll_12 : decode cX2_burntInAll 12 = .ok (.if_icmp .ge 17, 3) := by decide +kernel
theorem dX2_burntInAll_15 : decode cX2_burntInAll 15 = .ok (.iload_n 1, 1) := by decide +kernel
theorem dX2_burntInAll_16 : decode cX2_burntInAll 16 = .ok (.aload_n 0, 1) := by decide +kernel
theorem dX2_burntInAll_17 : decode cX2_burntInAll 17 = .ok (.iload_n 2, 1) := by decide +kernel
theorem dX2_burntInAll_18 : decode cX2_burntInAll 18 = .ok (.invokevirtual 113, 3) := by decide +kernel
theorem dX2_burntInAll_21 : decode cX2_burntInAll 21 = .ok (.iadd, 1) := by decide +kernel
theorem dX2_burntInAll_22 : decode cX2_burntInAll 22 = .ok (.istore_n 1, 1) := by decide +kernel
theorem dX2_burntInAll_23 : decode cX2_burntInAll 23 = .ok (.iinc 2 1, 3) := by decide +kernel
theorem dX2_burntInAll_26 : decode cX2_burntInAll 26 = .ok (.goto (-19), 3) := by decide +kernel
theorem dX2_burntInAll_29 : decode cX2_burntInAll 29 = .ok (.iload_n 1, 1) := by decide +kernel
theorem dX2_burntInAll_30 : decode cX2_burntInAll 30 = .ok (.ireturn, 1) := by decide +kernel
theorem dX2_mileAt_0 : decode cX2_mileAt 0 = .ok (.aload_n 0, 1) := by decide +kernel
theorem dX2_mileAt_1 : decode cX2_mileAt 1 = .ok (.invokevirtual 116, 3) := by decide +kernel
theorem dX2_mileAt_4 : decode cX2_mileAt 4 = .ok (.ifCond .ne 6, 3) := by decide +kernel
theorem dX2_mileAt_7 : decode cX2_mileAt 7 = .ok (.bipush (-9), 2) := by decide +kernel
theorem dX2_mileAt_9 : decode cX2_mileAt 9 = .ok (.ireturn, 1) := by decide +kernel
theorem dX2_mileAt_10 : decode cX2_mileAt 10 = .ok (.aload_n 0, 1) := by decide +kernel
theorem dX2_mileAt_11 : decode cX2_mileAt 11 = .ok (.getfield 20, 3) := by decide +kernel
theorem dX2_mileAt_14 : decode cX2_mileAt 14 = .ok (.aload_n 0, 1) := by decide +kernel
theorem dX2_mileAt_15 : decode cX2_mileAt 15 = .ok (.getfield 11, 3) := by decide +kernel
theorem dX2_mileAt_18 : decode cX2_mileAt 18 = .ok (.iaload, 1) := by decide +kernel
theorem dX2_mileAt_19 : decode cX2_mileAt 19 = .ok (.istore_n 2, 1) := by decide +kernel
theorem dX2_mileAt_20 : decode cX2_mileAt 20 = .ok (.aload_n 0, 1) := by decide +kernel
theorem dX2_mileAt_21 : decode cX2_mileAt 21 = .ok (.getfield 11, 3) := by decide +kernel
theorem dX2_mileAt_24 : decode cX2_mileAt 24 = .ok (.istore_n 3, 1) := by decide +kernel
theorem dX2_mileAt_25 : decode cX2_mileAt 25 = .ok (.iload_n 3, 1) := by decide +kernel
theorem dX2_mileAt_26 : decode cX2_mileAt 26 = .ok (.aload_n 0, 1) := by decide +kernel
theorem dX2_mileAt_27 : decode cX2_mileAt 27 = .ok (.getfield 17, 3) := by decide +kernel
theorem dX2_mileAt_30 : decode cX2_mileAt 30 = .ok (.if_icmp .ge 18, 3) := by decide +kernel
theorem dX2_mileAt_33 : decode cX2_mileAt 33 = .ok (.iload_n 2, 1) := by decide +kernel
theorem dX2_mileAt_34 : decode cX2_mileAt 34 = .ok (.aload_n 0, 1) := by decide +kernel
theorem dX2_mileAt_35 : decode cX2_mileAt 35 = .ok (.iload_n 3, 1) := by decide +kernel
theorem dX2_mileAt_36 : decode cX2_mileAt 36 = .ok (.iload_n 1, 1) := by decide +kernel
theorem dX2_mileAt_37 : decode cX2_mileAt 37 = .ok (.invokevirtual 120, 3) := by decide +kernel
theorem dX2_mileAt_40 : decode cX2_mileAt 40 = .ok (.iadd, 1) := by decide +kernel
theorem dX2_mileAt_41 : decode cX2_mileAt 41 = .ok (.istore_n 2, 1) := by decide +kernel
theorem dX2_mileAt_42 : decode cX2_mileAt 42 = .ok (.iinc 3 1, 3) := by decide +kernel
theorem dX2_mileAt_45 : decode cX2_mileAt 45 = .ok (.goto (-20), 3) := by decide +kernel
theorem dX2_mileAt_48 : decode cX2_mileAt 48 = .ok (.iload_n 2, 1) := by decide +kernel
theorem dX2_mileAt_49 : decode cX2_mileAt 49 = .ok (.ireturn, 1) := by decide +kernel
theorem dX2_isNoLeg_0 : decode cX2_isNoLeg 0 = .ok (.iload_n 1, 1) := by decide +kernel
theorem dX2_isNoLeg_1 : decode cX2_isNoLeg 1 = .ok (.aload_n 0, 1) := by decide +kernel
theorem dX2_isNoLeg_2 : decode cX2_isNoLeg 2 = .ok (.getfield 11, 3) := by decide +kernel
theorem dX2_isNoLeg_5 : decode cX2_isNoLeg 5 = .ok (.if_icmp .lt 11, 3) := by decide +kernel
theorem dX2_isNoLeg_8 : decode cX2_isNoLeg 8 = .ok (.iload_n 1, 1) := by decide +kernel
theorem dX2_isNoLeg_9 : decode cX2_isNoLeg 9 = .ok (.aload_n 0, 1) := by decide +kernel
theorem dX2_isNoLeg_10 : decode cX2_isNoLeg 10 = .ok (.getfield 17, 3) := by decide +kernel
theorem dX2_isNoLeg_13 : decode cX2_isNoLeg 13 = .ok (.if_icmp .lt 7, 3) := by decide +kernel
theorem dX2_isNoLeg_16 : decode cX2_isNoLeg 16 = .ok (.iconst 1, 1) := by decide +kernel
theorem dX2_isNoLeg_17 : decode cX2_isNoLeg 17 = .ok (.goto 4, 3) := by decide +kernel
theorem dX2_isNoLeg_20 : decode cX2_isNoLeg 20 = .ok (.iconst 0, 1) := by decide +kernel
theorem dX2_isNoLeg_21 : decode cX2_isNoLeg 21 = .ok (.ireturn, 1) := by decide +kernel
theorem dX2_milesOfLeg_0 : decode cX2_milesOfLeg 0 = .ok (.aload_n 0, 1) := by decide +kernel
theorem dX2_milesOfLeg_1 : decode cX2_milesOfLeg 1 = .ok (.iload_n 1, 1) := by decide +kernel
theorem dX2_milesOfLeg_2 : decode cX2_milesOfLeg 2 = .ok (.invokevirtual 80, 3) := by decide +kernel
theorem dX2_milesOfLeg_5 : decode cX2_milesOfLeg 5 = .ok (.ifCond .eq 7, 3) := by decide +kernel
theorem dX2_milesOfLeg_8 : decode cX2_milesOfLeg 8 = .ok (.iconst 0, 1) := by decide +kernel
theorem dX2_milesOfLeg_9 : decode cX2_milesOfLeg 9 = .ok (.goto 18, 3) := by decide +kernel
theorem dX2_milesOfLeg_12 : decode cX2_milesOfLeg 12 = .ok (.aload_n 0, 1) := by decide +kernel
theorem dX2_milesOfLeg_13 : decode cX2_milesOfLeg 13 = .ok (.getfield 20, 3) := by decide +kernel
theorem dX2_milesOfLeg_16 : decode cX2_milesOfLeg 16 = .ok (.iload_n 1, 1) := by decide +kernel
theorem dX2_milesOfLeg_17 : decode cX2_milesOfLeg 17 = .ok (.iconst 1, 1) := by decide +kernel
theorem dX2_milesOfLeg_18 : decode cX2_milesOfLeg 18 = .ok (.iadd, 1) := by decide +kernel
theorem dX2_milesOfLeg_19 : decode cX2_milesOfLeg 19 = .ok (.iaload, 1) := by decide +kernel
theorem dX2_milesOfLeg_20 : decode cX2_milesOfLeg 20 = .ok (.aload_n 0, 1) := by decide +kernel
theorem dX2_milesOfLeg_21 : decode cX2_milesOfLeg 21 = .ok (.getfield 20, 3) := by decide +kernel
theorem dX2_milesOfLeg_24 : decode cX2_milesOfLeg 24 = .ok (.iload_n 1, 1) := by decide +kernel
theorem dX2_milesOfLeg_25 : decode cX2_milesOfLeg 25 = .ok (.iaload, 1) := by decide +kernel
theorem dX2_milesOfLeg_26 : decode cX2_milesOfLeg 26 = .ok (.isub, 1) := by decide +kernel
theorem dX2_milesOfLeg_27 : decode cX2_milesOfLeg 27 = .ok (.ireturn, 1) := by decide +kernel
theorem dX2_sailedOnLeg_0 : decode cX2_sailedOnLeg 0 = .ok (.aload_n 0, 1) := by decide +kernel
theorem dX2_sailedOnLeg_1 : decode cX2_sailedOnLeg 1 = .ok (.iload_n 1, 1) := by decide +kernel
theorem dX2_sailedOnLeg_2 : decode cX2_sailedOnLeg 2 = .ok (.invokevirtual 100, 3) := by decide +kernel
theorem dX2_sailedOnLeg_5 : decode cX2_sailedOnLeg 5 = .ok (.istore_n 3, 1) := by decide +kernel
theorem dX2_sailedOnLeg_6 : decode cX2_sailedOnLeg 6 = .ok (.iload_n 3, 1) := by decide +kernel
theorem dX2_sailedOnLeg_7 : decode cX2_sailedOnLeg 7 = .ok (.ifCond .gt 5, 3) := by decide +kernel
theorem dX2_sailedOnLeg_10 : decode cX2_sailedOnLeg 10 = .ok (.iconst 0, 1) := by decide +kernel
theorem dX2_sailedOnLeg_11 : decode cX2_sailedOnLeg 11 = .ok (.ireturn, 1) := by decide +kernel
theorem dX2_sailedOnLeg_12 : decode cX2_sailedOnLeg 12 = .ok (.aload_n 0, 1) := by decide +kernel
theorem dX2_sailedOnLeg_13 : decode cX2_sailedOnLeg 13 = .ok (.getfield 39, 3) := by decide +kernel
theorem dX2_sailedOnLeg_16 : decode cX2_sailedOnLeg 16 = .ok (.iload_n 1, 1) := by decide +kernel
theorem dX2_sailedOnLeg_17 : decode cX2_sailedOnLeg 17 = .ok (.iaload, 1) := by decide +kernel
theorem dX2_sailedOnLeg_18 : decode cX2_sailedOnLeg 18 = .ok (.istore 4, 2) := by decide +kernel
theorem dX2_sailedOnLeg_20 : decode cX2_sailedOnLeg 20 = .ok (.iload_n 2, 1) := by decide +kernel
theorem dX2_sailedOnLeg_21 : decode cX2_sailedOnLeg 21 = .ok (.aload_n 0, 1) := by decide +kernel
theorem dX2_sailedOnLeg_22 : decode cX2_sailedOnLeg 22 = .ok (.getfield 24, 3) := by decide +kernel
theorem dX2_sailedOnLeg_25 : decode cX2_sailedOnLeg 25 = .ok (.iload_n 1, 1) := by decide +kernel
theorem dX2_sailedOnLeg_26 : decode cX2_sailedOnLeg 26 = .ok (.iconst 1, 1) := by decide +kernel
theorem dX2_sailedOnLeg_27 : decode cX2_sailedOnLeg 27 = .ok (.iadd, 1) := by decide +kernel
theorem dX2_sailedOnLeg_28 : decode cX2_sailedOnLeg 28 = .ok (.iaload, 1) := by decide +kernel
theorem dX2_sailedOnLeg_29 : decode cX2_sailedOnLeg 29 = .ok (.isub, 1) := by decide +kernel
theorem dX2_sailedOnLeg_30 : decode cX2_sailedOnLeg 30 = .ok (.aload_n 0, 1) := by decide +kernel
theorem dX2_sailedOnLeg_31 : decode cX2_sailedOnLeg 31 = .ok (.getfield 33, 3) := by decide +kernel
theorem dX2_sailedOnLeg_34 : decode cX2_sailedOnLeg 34 = .ok (.iload 4, 2) := by decide +kernel
theorem dX2_sailedOnLeg_36 : decode cX2_sailedOnLeg 36 = .ok (.iaload, 1) := by decide +kernel
theorem dX2_sailedOnLeg_37 : decode cX2_sailedOnLeg 37 = .ok (.isub, 1) := by decide +kernel
theorem dX2_sailedOnLeg_38 : decode cX2_sailedOnLeg 38 = .ok (.istore 5, 2) := by decide +kernel
theorem dX2_sailedOnLeg_40 : decode cX2_sailedOnLeg 40 = .ok (.aload_n 0, 1) := by decide +kernel
theorem dX2_sailedOnLeg_41 : decode cX2_sailedOnLeg 41 = .ok (.iload_n 1, 1) := by decide +kernel
theorem dX2_sailedOnLeg_42 : decode cX2_sailedOnLeg 42 = .ok (.invokevirtual 88, 3) := by decide +kernel
theorem dX2_sailedOnLeg_45 : decode cX2_sailedOnLeg 45 = .ok (.iload 5, 2) := by decide +kernel
theorem dX2_sailedOnLeg_47 : decode cX2_sailedOnLeg 47 = .ok (.imul, 1) := by decide +kernel
theorem dX2_sailedOnLeg_48 : decode cX2_sailedOnLeg 48 = .ok (.iload_n 3, 1) := by decide +kernel
theorem dX2_sailedOnLeg_49 : decode cX2_sailedOnLeg 49 = .ok (.aload_n 0, 1) := by decide +kernel
theorem dX2_sailedOnLeg_50 : decode cX2_sailedOnLeg 50 = .ok (.getfield 20, 3) := by decide +kernel
theorem dX2_sailedOnLeg_53 : decode cX2_sailedOnLeg 53 = .ok (.iload_n 1, 1) := by decide +kernel
theorem dX2_sailedOnLeg_54 : decode cX2_sailedOnLeg 54 = .ok (.iaload, 1) := by decide +kernel
theorem dX2_sailedOnLeg_55 : decode cX2_sailedOnLeg 55 = .ok (.aload_n 0, 1) := by decide +kernel
theorem dX2_sailedOnLeg_56 : decode cX2_sailedOnLeg 56 = .ok (.getfield 20, 3) := by decide +kernel
theorem dX2_sailedOnLeg_59 : decode cX2_sailedOnLeg 59 = .ok (.iload 4, 2) := by decide +kernel
theorem dX2_sailedOnLeg_61 : decode cX2_sailedOnLeg 61 = .ok (.iaload, 1) := by decide +kernel
theorem dX2_sailedOnLeg_62 : decode cX2_sailedOnLeg 62 = .ok (.isub, 1) := by decide +kernel
theorem dX2_sailedOnLeg_63 : decode cX2_sailedOnLeg 63 = .ok (.imul, 1) := by decide +kernel
theorem dX2_sailedOnLeg_64 : decode cX2_sailedOnLeg 64 = .ok (.isub, 1) := by decide +kernel
theorem dX2_sailedOnLeg_65 : decode cX2_sailedOnLeg 65 = .ok (.istore 6, 2) := by decide +kernel
theorem dX2_sailedOnLeg_67 : decode cX2_sailedOnLeg 67 = .ok (.iload 6, 2) := by decide +kernel
theorem dX2_sailedOnLeg_69 : decode cX2_sailedOnLeg 69 = .ok (.ifCond .gt 7, 3) := by decide +kernel
theorem dX2_sailedOnLeg_72 : decode cX2_sailedOnLeg 72 = .ok (.iconst 0, 1) := by decide +kernel
theorem dX2_sailedOnLeg_73 : decode cX2_sailedOnLeg 73 = .ok (.goto 15, 3) := by decide +kernel
theorem dX2_sailedOnLeg_76 : decode cX2_sailedOnLeg 76 = .ok (.aload_n 0, 1) := by decide +kernel
theorem dX2_sailedOnLeg_77 : decode cX2_sailedOnLeg 77 = .ok (.iload_n 1, 1) := by decide +kernel
theorem dX2_sailedOnLeg_78 : decode cX2_sailedOnLeg 78 = .ok (.invokevirtual 110, 3) := by decide +kernel
theorem dX2_sailedOnLeg_81 : decode cX2_sailedOnLeg 81 = .ok (.iload 6, 2) := by decide +kernel
theorem dX2_sailedOnLeg_83 : decode cX2_sailedOnLeg 83 = .ok (.iload_n 3, 1) := by decide +kernel
theorem dX2_sailedOnLeg_84 : decode cX2_sailedOnLeg 84 = .ok (.idiv, 1) := by decide +kernel
theorem dX2_sailedOnLeg_85 : decode cX2_sailedOnLeg 85 = .ok (.invokestatic 67, 3) := by decide +kernel
theorem dX2_sailedOnLeg_88 : decode cX2_sailedOnLeg 88 = .ok (.ireturn, 1) := by decide +kernel
theorem dX2_layPorts_0 : decode cX2_layPorts 0 = .ok (.aload_n 0, 1) := by decide +kernel
theorem dX2_layPorts_1 : decode cX2_layPorts 1 = .ok (.getfield 20, 3) := by decide +kernel
theorem dX2_layPorts_4 : decode cX2_layPorts 4 = .ok (.iconst 0, 1) := by decide +kernel
theorem dX2_layPorts_5 : decode cX2_layPorts 5 = .ok (.iconst 0, 1) := by decide +kernel
theorem dX2_layPorts_6 : decode cX2_layPorts 6 = .ok (.iastore, 1) := by decide +kernel
theorem dX2_layPorts_7 : decode cX2_layPorts 7 = .ok (.iconst 1, 1) := by decide +kernel
theorem dX2_layPorts_8 : decode cX2_layPorts 8 = .ok (.istore_n 2, 1) := by decide +kernel
theorem dX2_layPorts_9 : decode cX2_layPorts 9 = .ok (.iload_n 2, 1) := by decide +kernel
theorem dX2_layPorts_10 : decode cX2_layPorts 10 = .ok (.aload_n 0, 1) := by decide +kernel
theorem dX2_layPorts_11 : decode cX2_layPorts 11 = .ok (.getfield 17, 3) := by decide +kernel
theorem dX2_layPorts_14 : decode cX2_layPorts 14 = .ok (.if_icmp .gt 32, 3) := by decide +kernel
theorem dX2_layPorts_17 : decode cX2_layPorts 17 = .ok (.aload_n 0, 1) := by decide +kernel
theorem dX2_layPorts_18 : decode cX2_layPorts 18 = .ok (.getfield 20, 3) := by decide +kernel
theorem dX2_layPorts_21 : decode cX2_layPorts 21 = .ok (.iload_n 2, 1) := by decide +kernel
theorem dX2_layPorts_22 : decode cX2_layPorts 22 = .ok (.aload_n 0, 1) := by decide +kernel
theorem dX2_layPorts_23 : decode cX2_layPorts 23 = .ok (.getfield 20, 3) := by decide +kernel
theorem dX2_layPorts_26 : decode cX2_layPorts 26 = .ok (.iload_n 2, 1) := by decide +kernel
theorem dX2_layPorts_27 : decode cX2_layPorts 27 = .ok (.iconst 1, 1) := by decide +kernel
theorem dX2_layPorts_28 : decode cX2_layPorts 28 = .ok (.isub, 1) := by decide +kernel
theorem dX2_layPorts_29 : decode cX2_layPorts 29 = .ok (.iaload, 1) := by decide +kernel
theorem dX2_layPorts_30 : decode cX2_layPorts 30 = .ok (.aload_n 1, 1) := by decide +kernel
theorem dX2_layPorts_31 : decode cX2_layPorts 31 = .ok (.iload_n 2, 1) := by decide +kernel
theorem dX2_layPorts_32 : decode cX2_layPorts 32 = .ok (.iconst 1, 1) := by decide +kernel
theorem dX2_layPorts_33 : decode cX2_layPorts 33 = .ok (.isub, 1) := by decide +kernel
theorem dX2_layPorts_34 : decode cX2_layPorts 34 = .ok (.iconst 0, 1) := by decide +kernel
theorem dX2_layPorts_35 : decode cX2_layPorts 35 = .ok (.invokevirtual 123, 3) := by decide +kernel
theorem dX2_layPorts_38 : decode cX2_layPorts 38 = .ok (.iadd, 1) := by decide +kernel
theorem dX2_layPorts_39 : decode cX2_layPorts 39 = .ok (.iastore, 1) := by decide +kernel
theorem dX2_layPorts_40 : decode cX2_layPorts 40 = .ok (.iinc 2 1, 3) := by decide +kernel
theorem dX2_layPorts_43 : decode cX2_layPorts 43 = .ok (.goto (-34), 3) := by decide +kernel
theorem dX2_layPorts_46 : decode cX2_layPorts 46 = .ok (.iconst 0, 1) := by decide +kernel
theorem dX2_layPorts_47 : decode cX2_layPorts 47 = .ok (.istore_n 2, 1) := by decide +kernel
theorem dX2_layPorts_48 : decode cX2_layPorts 48 = .ok (.aload_n 0, 1) := by decide +kernel
theorem dX2_layPorts_49 : decode cX2_layPorts 49 = .ok (.getfield 11, 3) := by decide +kernel
theorem dX2_layPorts_52 : decode cX2_layPorts 52 = .ok (.iconst 1, 1) := by decide +kernel
theorem dX2_layPorts_53 : decode cX2_layPorts 53 = .ok (.iadd, 1) := by decide +kernel
theorem dX2_layPorts_54 : decode cX2_layPorts 54 = .ok (.istore_n 3, 1) := by decide +kernel
theorem dX2_layPorts_55 : decode cX2_layPorts 55 = .ok (.iload_n 3, 1) := by decide +kernel
theorem dX2_layPorts_56 : decode cX2_layPorts 56 = .ok (.aload_n 0, 1) := by decide +kernel
theorem dX2_layPorts_57 : decode cX2_layPorts 57 = .ok (.getfield 17, 3) := by decide +kernel
theorem dX2_layPorts_60 : decode cX2_layPorts 60 = .ok (.if_icmp .gt 66, 3) := by decide +kernel
theorem dX2_layPorts_63 : decode cX2_layPorts 63 = .ok (.aload_n 0, 1) := by decide +kernel
theorem dX2_layPorts_64 : decode cX2_layPorts 64 = .ok (.getfield 24, 3) := by decide +kernel
theorem dX2_layPorts_67 : decode cX2_layPorts 67 = .ok (.iload_n 3, 1) := by decide +kernel
theorem dX2_layPorts_68 : decode cX2_layPorts 68 = .ok (.iload_n 2, 1) := by decide +kernel
theorem dX2_layPorts_69 : decode cX2_layPorts 69 = .ok (.iastore, 1) := by decide +kernel
theorem dX2_layPorts_70 : decode cX2_layPorts 70 = .ok (.aload_n 0, 1) := by decide +kernel
theorem dX2_layPorts_71 : decode cX2_layPorts 71 = .ok (.getfield 27, 3) := by decide +kernel
theorem dX2_layPorts_74 : decode cX2_layPorts 74 = .ok (.iload_n 3, 1) := by decide +kernel
theorem dX2_layPorts_75 : decode cX2_layPorts 75 = .ok (.aload_n 1, 1) := by decide +kernel
theorem dX2_layPorts_76 : decode cX2_layPorts 76 = .ok (.iload_n 3, 1) := by decide +kernel
theorem dX2_layPorts_77 : decode cX2_layPorts 77 = .ok (.iconst 1, 1) := by decide +kernel
theorem dX2_layPorts_78 : decode cX2_layPorts 78 = .ok (.isub, 1) := by decide +kernel
theorem dX2_layPorts_79 : decode cX2_layPorts 79 = .ok (.iconst 2, 1) := by decide +kernel
theorem dX2_layPorts_80 : decode cX2_layPorts 80 = .ok (.invokevirtual 123, 3) := by decide +kernel
theorem dX2_layPorts_83 : decode cX2_layPorts 83 = .ok (.iload_n 2, 1) := by decide +kernel
theorem dX2_layPorts_84 : decode cX2_layPorts 84 = .ok (.isub, 1) := by decide +kernel
theorem dX2_layPorts_85 : decode cX2_layPorts 85 = .ok (.iastore, 1) := by decide +kernel
theorem dX2_layPorts_86 : decode cX2_layPorts 86 = .ok (.aload_n 0, 1) := by decide +kernel
theorem dX2_layPorts_87 : decode cX2_layPorts 87 = .ok (.getfield 30, 3) := by decide +kernel
theorem dX2_layPorts_90 : decode cX2_layPorts 90 = .ok (.iload_n 3, 1) := by decide +kernel
theorem dX2_layPorts_91 : decode cX2_layPorts 91 = .ok (.aload_n 1, 1) := by decide +kernel
theorem dX2_layPorts_92 : decode cX2_layPorts 92 = .ok (.iload_n 3, 1) := by decide +kernel
theorem dX2_layPorts_93 : decode cX2_layPorts 93 = .ok (.iconst 1, 1) := by decide +kernel
theorem dX2_layPorts_94 : decode cX2_layPorts 94 = .ok (.isub, 1) := by decide +kernel
theorem dX2_layPorts_95 : decode cX2_layPorts 95 = .ok (.iconst 3, 1) := by decide +kernel
theorem dX2_layPorts_96 : decode cX2_layPorts 96 = .ok (.invokevirtual 123, 3) := by decide +kernel
theorem dX2_layPorts_99 : decode cX2_layPorts 99 = .ok (.iload_n 2, 1) := by decide +kernel
theorem dX2_layPorts_100 : decode cX2_layPorts 100 = .ok (.isub, 1) := by decide +kernel
theorem dX2_layPorts_101 : decode cX2_layPorts 101 = .ok (.iastore, 1) := by decide +kernel
theorem dX2_layPorts_102 : decode cX2_layPorts 102 = .ok (.aload_n 0, 1) := by decide +kernel
theorem dX2_layPorts_103 : decode cX2_layPorts 103 = .ok (.getfield 36, 3) := by decide +kernel
theorem dX2_layPorts_106 : decode cX2_layPorts 106 = .ok (.iload_n 3, 1) := by decide +kernel
theorem dX2_layPorts_107 : decode cX2_layPorts 107 = .ok (.iconst 0, 1) := by decide +kernel
theorem dX2_layPorts_108 : decode cX2_layPorts 108 = .ok (.iastore, 1) := by decide +kernel
theorem dX2_layPorts_109 : decode cX2_layPorts 109 = .ok (.iload_n 2, 1) := by decide +kernel
theorem dX2_layPorts_110 : decode cX2_layPorts 110 = .ok (.aload_n 1, 1) := by decide +kernel
theorem dX2_layPorts_111 : decode cX2_layPorts 111 = .ok (.iload_n 3, 1) := by decide +kernel
theorem dX2_layPorts_112 : decode cX2_layPorts 112 = .ok (.iconst 1, 1) := by decide +kernel
theorem dX2_layPorts_113 : decode cX2_layPorts 113 = .ok (.isub, 1) := by decide +kernel
theorem dX2_layPorts_114 : decode cX2_layPorts 114 = .ok (.iconst 1, 1) := by decide +kernel
theorem dX2_layPorts_115 : decode cX2_layPorts 115 = .ok (.invokevirtual 123, 3) := by decide +kernel
theorem dX2_layPorts_118 : decode cX2_layPorts 118 = .ok (.iadd, 1) := by decide +kernel
theorem dX2_layPorts_119 : decode cX2_layPorts 119 = .ok (.istore_n 2, 1) := by decide +kernel
theorem dX2_layPorts_120 : decode cX2_layPorts 120 = .ok (.iinc 3 1, 3) := by decide +kernel
theorem dX2_layPorts_123 : decode cX2_layPorts 123 = .ok (.goto (-68), 3) := by decide +kernel
theorem dX2_layPorts_126 : decode cX2_layPorts 126 = .ok (.return_, 1) := by decide +kernel
theorem dX2_splitStretches_0 : decode cX2_splitStretches 0 = .ok (.aload_n 0, 1) := by decide +kernel
theorem dX2_splitStretches_1 : decode cX2_splitStretches 1 = .ok (.getfield 11, 3) := by decide +kernel
theorem dX2_splitStretches_4 : decode cX2_splitStretches 4 = .ok (.istore_n 1, 1) := by decide +kernel
theorem dX2_splitStretches_5 : decode cX2_splitStretches 5 = .ok (.iconst 0, 1) := by decide +kernel
theorem dX2_splitStretches_6 : decode cX2_splitStretches 6 = .ok (.istore_n 2, 1) := by decide +kernel
theorem dX2_splitStretches_7 : decode cX2_splitStretches 7 = .ok (.iload_n 2, 1) := by decide +kernel
theorem dX2_splitStretches_8 : decode cX2_splitStretches 8 = .ok (.bipush 14, 2) := by decide +kernel
theorem dX2_splitStretches_10 : decode cX2_splitStretches 10 = .ok (.if_icmp .ge 100, 3) := by decide +kernel
theorem dX2_splitStretches_13 : decode cX2_splitStretches 13 = .ok (.iload_n 1, 1) := by decide +kernel
theorem dX2_splitStretches_14 : decode cX2_splitStretches 14 = .ok (.aload_n 0, 1) := by decide +kernel
theorem dX2_splitStretches_15 : decode cX2_splitStretches 15 = .ok (.getfield 17, 3) := by decide +kernel
theorem dX2_splitStretches_18 : decode cX2_splitStretches 18 = .ok (.if_icmp .ge 92, 3) := by decide +kernel
theorem dX2_splitStretches_21 : decode cX2_splitStretches 21 = .ok (.aload_n 0, 1) := by decide +kernel
theorem dX2_splitStretches_22 : decode cX2_splitStretches 22 = .ok (.iload_n 1, 1) := by decide +kernel
theorem dX2_splitStretches_23 : decode cX2_splitStretches 23 = .ok (.invokevirtual 126, 3) := by decide +kernel
theorem dX2_splitStretches_26 : decode cX2_splitStretches 26 = .ok (.istore_n 3, 1) := by decide +kernel
theorem dX2_splitStretches_27 : decode cX2_splitStretches 27 = .ok (.aload_n 0, 1) := by decide +kernel
theorem dX2_splitStretches_28 : decode cX2_splitStretches 28 = .ok (.iload_n 1, 1) := by decide +kernel
theorem dX2_splitStretches_29 : decode cX2_splitStretches 29 = .ok (.iload_n 3, 1) := by decide +kernel
theorem dX2_splitStretches_30 : decode cX2_splitStretches 30 = .ok (.invokevirtual 129, 3) := by decide +kernel
theorem dX2_splitStretches_33 : decode cX2_splitStretches 33 = .ok (.istore 4, 2) := by decide +kernel
theorem dX2_splitStretches_35 : decode cX2_splitStretches 35 = .ok (.iload 4, 2) := by decide +kernel
theorem dX2_splitStretches_37 : decode cX2_splitStretches 37 = .ok (.iload_n 1, 1) := by decide +kernel
theorem dX2_splitStretches_38 : decode cX2_splitStretches 38 = .ok (.if_icmp .ne 8, 3) := by decide +kernel
theorem dX2_splitStretches_41 : decode cX2_splitStretches 41 = .ok (.iload_n 3, 1) := by decide +kernel
theorem dX2_splitStretches_42 : decode cX2_splitStretches 42 = .ok (.istore_n 1, 1) := by decide +kernel
theorem dX2_splitStretches_43 : decode cX2_splitStretches 43 = .ok (.goto 61, 3) := by decide +kernel
theorem dX2_splitStretches_46 : decode cX2_splitStretches 46 = .ok (.aload_n 0, 1) := by decide +kernel
theorem dX2_splitStretches_47 : decode cX2_splitStretches 47 = .ok (.iload_n 1, 1) := by decide +kernel
theorem dX2_splitStretches_48 : decode cX2_splitStretches 48 = .ok (.iload_n 3, 1) := by decide +kernel
theorem dX2_splitStretches_49 : decode cX2_splitStretches 49 = .ok (.iload 4, 2) := by decide +kernel
theorem dX2_splitStretches_51 : decode cX2_splitStretches 51 = .ok (.invokevirtual 132, 3) := by decide +kernel
theorem dX2_splitStretches_54 : decode cX2_splitStretches 54 = .ok (.ifCond .ge 28, 3) := by decide +kernel
theorem dX2_splitStretches_57 : decode cX2_splitStretches 57 = .ok (.aload_n 0, 1) := by decide +kernel
theorem dX2_splitStretches_58 : decode cX2_splitStretches 58 = .ok (.getfield 33, 3) := by decide +kernel
theorem dX2_splitStretches_61 : decode cX2_splitStretches 61 = .ok (.iload 4, 2) := by decide +kernel
theorem dX2_splitStretches_63 : decode cX2_splitStretches 63 = .ok (.aload_n 0, 1) := by decide +kernel
theorem dX2_splitStretches_64 : decode cX2_splitStretches 64 = .ok (.getfield 27, 3) := by decide +kernel
theorem dX2_splitStretches_67 : decode cX2_splitStretches 67 = .ok (.iload 4, 2) := by decide +kernel
theorem dX2_splitStretches_69 : decode cX2_splitStretches 69 = .ok (.iaload, 1) := by decide +kernel
theorem dX2_splitStretches_70 : decode cX2_splitStretches 70 = .ok (.iastore, 1) := by decide +kernel
theorem dX2_splitStretches_71 : decode cX2_splitStretches 71 = .ok (.aload_n 0, 1) := by decide +kernel
theorem dX2_splitStretches_72 : decode cX2_splitStretches 72 = .ok (.getfield 36, 3) := by decide +kernel
theorem dX2_splitStretches_75 : decode cX2_splitStretches 75 = .ok (.iload 4, 2) := by decide +kernel
theorem dX2_splitStretches_77 : decode cX2_splitStretches 77 = .ok (.iconst 1, 1) := by decide +kernel
theorem dX2_splitStretches_78 : decode cX2_splitStretches 78 = .ok (.iastore, 1) := by decide +kernel
theorem dX2_splitStretches_79 : decode cX2_splitStretches 79 = .ok (.goto 25, 3) := by decide +kernel
theorem dX2_splitStretches_82 : decode cX2_splitStretches 82 = .ok (.aload_n 0, 1) := by decide +kernel
theorem dX2_splitStretches_83 : decode cX2_splitStretches 83 = .ok (.getfield 33, 3) := by decide +kernel
theorem dX2_splitStretches_86 : decode cX2_splitStretches 86 = .ok (.iload 4, 2) := by decide +kernel
theorem dX2_splitStretches_88 : decode cX2_splitStretches 88 = .ok (.aload_n 0, 1) := by decide +kernel
theorem dX2_splitStretches_89 : decode cX2_splitStretches 89 = .ok (.getfield 30, 3) := by decide +kernel
theorem dX2_splitStretches_92 : decode cX2_splitStretches 92 = .ok (.iload 4, 2) := by decide +kernel
theorem dX2_splitStretches_94 : decode cX2_splitStretches 94 = .ok (.iaload, 1) := by decide +kernel
theorem dX2_splitStretches_95 : decode cX2_splitStretches 95 = .ok (.iastore, 1) := by decide +kernel
theorem dX2_splitStretches_96 : decode cX2_splitStretches 96 = .ok (.aload_n 0, 1) := by decide +kernel
theorem dX2_splitStretches_97 : decode cX2_splitStretches 97 = .ok (.getfield 36, 3) := by decide +kernel
theorem dX2_splitStretches_100 : decode cX2_splitStretches 100 = .ok (.iload 4, 2) := by decide +kernel
theorem dX2_splitStretches_102 : decode cX2_splitStretches 102 = .ok (.iconst 2, 1) := by decide +kernel
theorem dX2_splitStretches_103 : decode cX2_splitStretches 103 = .ok (.iastore, 1) := by decide +kernel
theorem dX2_splitStretches_104 : decode cX2_splitStretches 104 = .ok (.iinc 2 1, 3) := by decide +kernel
theorem dX2_splitStretches_107 : decode cX2_splitStretches 107 = .ok (.goto (-100), 3) := by decide +kernel
theorem dX2_splitStretches_110 : decode cX2_splitStretches 110 = .ok (.return_, 1) := by decide +kernel
theorem dX2_nextEnd_0 : decode cX2_nextEnd 0 = .ok (.iload_n 1, 1) := by decide +kernel
theorem dX2_nextEnd_1 : decode cX2_nextEnd 1 = .ok (.iconst 1, 1) := by decide +kernel
theorem dX2_nextEnd_2 : decode cX2_nextEnd 2 = .ok (.iadd, 1) := by decide +kernel
theorem dX2_nextEnd_3 : decode cX2_nextEnd 3 = .ok (.istore_n 2, 1) := by decide +kernel
theorem dX2_nextEnd_4 : decode cX2_nextEnd 4 = .ok (.iload_n 2, 1) := by decide +kernel
theorem dX2_nextEnd_5 : decode cX2_nextEnd 5 = .ok (.aload_n 0, 1) := by decide +kernel
theorem dX2_nextEnd_6 : decode cX2_nextEnd 6 = .ok (.getfield 17, 3) := by decide +kernel
theorem dX2_nextEnd_9 : decode cX2_nextEnd 9 = .ok (.if_icmp .ge 20, 3) := by decide +kernel
theorem dX2_nextEnd_12 : decode cX2_nextEnd 12 = .ok (.aload_n 0, 1) := by decide +kernel
theorem dX2_nextEnd_13 : decode cX2_nextEnd 13 = .ok (.getfield 36, 3) := by decide +kernel
theorem dX2_nextEnd_16 : decode cX2_nextEnd 16 = .ok (.iload_n 2, 1) := by decide +kernel
theorem dX2_nextEnd_17 : decode cX2_nextEnd 17 = .ok (.iaload, 1) := by decide +kernel
theorem dX2_nextEnd_18 : decode cX2_nextEnd 18 = .ok (.ifCond .eq 5, 3) := by decide +kernel
theorem dX2_nextEnd_21 : decode cX2_nextEnd 21 = .ok (.iload_n 2, 1) := by decide +kernel
theorem dX2_nextEnd_22 : decode cX2_nextEnd 22 = .ok (.ireturn, 1) := by decide +kernel
theorem dX2_nextEnd_23 : decode cX2_nextEnd 23 = .ok (.iinc 2 1, 3) := by decide +kernel
theorem dX2_nextEnd_26 : decode cX2_nextEnd 26 = .ok (.goto (-22), 3) := by decide +kernel
theorem dX2_nextEnd_29 : decode cX2_nextEnd 29 = .ok (.aload_n 0, 1) := by decide +kernel
theorem dX2_nextEnd_30 : decode cX2_nextEnd 30 = .ok (.getfield 17, 3) := by decide +kernel
theorem dX2_nextEnd_33 : decode cX2_nextEnd 33 = .ok (.ireturn, 1) := by decide +kernel
theorem dX2_mostMissed_0 : decode cX2_mostMissed 0 = .ok (.iload_n 1, 1) := by decide +kernel
theorem dX2_mostMissed_1 : decode cX2_mostMissed 1 = .ok (.istore_n 3, 1) := by decide +kernel
theorem dX2_mostMissed_2 : decode cX2_mostMissed 2 = .ok (.iconst 0, 1) := by decide +kernel
theorem dX2_mostMissed_3 : decode cX2_mostMissed 3 = .ok (.istore 4, 2) := by decide +kernel
theorem dX2_mostMissed_5 : decode cX2_mostMissed 5 = .ok (.iload_n 1, 1) := by decide +kernel
theorem dX2_mostMissed_6 : decode cX2_mostMissed 6 = .ok (.iconst 1, 1) := by decide +kernel
theorem dX2_mostMissed_7 : decode cX2_mostMissed 7 = .ok (.iadd, 1) := by decide +kernel
theorem dX2_mostMissed_8 : decode cX2_mostMissed 8 = .ok (.istore 5, 2) := by decide +kernel
theorem dX2_mostMissed_10 : decode cX2_mostMissed 10 = .ok (.iload 5, 2) := by decide +kernel
theorem dX2_mostMissed_12 : decode cX2_mostMissed 12 = .ok (.iload_n 2, 1) := by decide +kernel
theorem dX2_mostMissed_13 : decode cX2_mostMissed 13 = .ok (.if_icmp .ge 36, 3) := by decide +kernel
theorem dX2_mostMissed_16 : decode cX2_mostMissed 16 = .ok (.aload_n 0, 1) := by decide +kernel
theorem dX2_mostMissed_17 : decode cX2_mostMissed 17 = .ok (.iload_n 1, 1) := by decide +kernel
theorem dX2_mostMissed_18 : decode cX2_mostMissed 18 = .ok (.iload_n 2, 1) := by decide +kernel
theorem dX2_mostMissed_19 : decode cX2_mostMissed 19 = .ok (.iload 5, 2) := by decide +kernel
theorem dX2_mostMissed_21 : decode cX2_mostMissed 21 = .ok (.invokevirtual 132, 3) := by decide +kernel
theorem dX2_mostMissed_24 : decode cX2_mostMissed 24 = .ok (.invokestatic 135, 3) := by decide +kernel
theorem dX2_mostMissed_27 : decode cX2_mostMissed 27 = .ok (.istore 6, 2) := by decide +kernel
theorem dX2_mostMissed_29 : decode cX2_mostMissed 29 = .ok (.iload 6, 2) := by decide +kernel
theorem dX2_mostMissed_31 : decode cX2_mostMissed 31 = .ok (.iload 4, 2) := by decide +kernel
theorem dX2_mostMissed_33 : decode cX2_mostMissed 33 = .ok (.if_icmp .le 10, 3) := by decide +kernel
theorem dX2_mostMissed_36 : decode cX2_mostMissed 36 = .ok (.iload 6, 2) := by decide +kernel
theorem dX2_mostMissed_38 : decode cX2_mostMissed 38 = .ok (.istore 4, 2) := by decide +kernel
theorem dX2_mostMissed_40 : decode cX2_mostMissed 40 = .ok (.iload 5, 2) := by decide +kernel
theorem dX2_mostMissed_42 : decode cX2_mostMissed 42 = .ok (.istore_n 3, 1) := by decide +kernel
theorem dX2_mostMissed_43 : decode cX2_mostMissed 43 = .ok (.iinc 5 1, 3) := by decide +kernel
theorem dX2_mostMissed_46 : decode cX2_mostMissed 46 = .ok (.goto (-36), 3) := by decide +kernel
theorem dX2_mostMissed_49 : decode cX2_mostMissed 49 = .ok (.iload_n 3, 1) := by decide +kernel
theorem dX2_mostMissed_50 : decode cX2_mostMissed 50 = .ok (.ireturn, 1) := by decide +kernel
theorem dX2_missAt_0 : decode cX2_missAt 0 = .ok (.aload_n 0, 1) := by decide +kernel
theorem dX2_missAt_1 : decode cX2_missAt 1 = .ok (.getfield 20, 3) := by decide +kernel
theorem dX2_missAt_4 : decode cX2_missAt 4 = .ok (.iload_n 2, 1) := by decide +kernel
theorem dX2_missAt_5 : decode cX2_missAt 5 = .ok (.iaload, 1) := by decide +kernel
theorem dX2_missAt_6 : decode cX2_missAt 6 = .ok (.aload_n 0, 1) := by decide +kernel
theorem dX2_missAt_7 : decode cX2_missAt 7 = .ok (.getfield 20, 3) := by decide +kernel
theorem dX2_missAt_10 : decode cX2_missAt 10 = .ok (.iload_n 1, 1) := by decide +kernel
theorem dX2_missAt_11 : decode cX2_missAt 11 = .ok (.iaload, 1) := by decide +kernel
theorem dX2_missAt_12 : decode cX2_missAt 12 = .ok (.isub, 1) := by decide +kernel
theorem dX2_missAt_13 : decode cX2_missAt 13 = .ok (.istore 4, 2) := by decide +kernel
theorem dX2_missAt_15 : decode cX2_missAt 15 = .ok (.aload_n 0, 1) := by decide +kernel
theorem dX2_missAt_16 : decode cX2_missAt 16 = .ok (.iload_n 1, 1) := by decide +kernel
theorem dX2_missAt_17 : decode cX2_missAt 17 = .ok (.iload_n 2, 1) := by decide +kernel
theorem dX2_missAt_18 : decode cX2_missAt 18 = .ok (.iload_n 3, 1) := by decide +kernel
theorem dX2_missAt_19 : decode cX2_missAt 19 = .ok (.invokevirtual 84, 3) := by decide +kernel
theorem dX2_missAt_22 : decode cX2_missAt 22 = .ok (.istore 5, 2) := by decide +kernel
theorem dX2_missAt_24 : decode cX2_missAt 24 = .ok (.iload 5, 2) := by decide +kernel
theorem dX2_missAt_26 : decode cX2_missAt 26 = .ok (.aload_n 0, 1) := by decide +kernel
theorem dX2_missAt_27 : decode cX2_missAt 27 = .ok (.getfield 27, 3) := by decide +kernel
theorem dX2_missAt_30 : decode cX2_missAt 30 = .ok (.iload_n 3, 1) := by decide +kernel
theorem dX2_missAt_31 : decode cX2_missAt 31 = .ok (.iaload, 1) := by decide +kernel
theorem dX2_missAt_32 : decode cX2_missAt 32 = .ok (.iload 4, 2) := by decide +kernel
theorem dX2_missAt_34 : decode cX2_missAt 34 = .ok (.imul, 1) := by decide +kernel
theorem dX2_missAt_35 : decode cX2_missAt 35 = .ok (.if_icmp .ge 16, 3) := by decide +kernel
theorem dX2_missAt_38 : decode cX2_missAt 38 = .ok (.iload 5, 2) := by decide +kernel
theorem dX2_missAt_40 : decode cX2_missAt 40 = .ok (.aload_n 0, 1) := by decide +kernel
theorem dX2_missAt_41 : decode cX2_missAt 41 = .ok (.getfield 27, 3) := by decide +kernel
theorem dX2_missAt_44 : decode cX2_missAt 44 = .ok (.iload_n 3, 1) := by decide +kernel
theorem dX2_missAt_45 : decode cX2_missAt 45 = .ok (.iaload, 1) := by decide +kernel
theorem dX2_missAt_46 : decode cX2_missAt 46 = .ok (.iload 4, 2) := by decide +kernel
theorem dX2_missAt_48 : decode cX2_missAt 48 = .ok (.imul, 1) := by decide +kernel
theorem dX2_missAt_49 : decode cX2_missAt 49 = .ok (.isub, 1) := by decide +kernel
theorem dX2_missAt_50 : decode cX2_missAt 50 = .ok (.ireturn, 1) := by decide +kernel
theorem dX2_missAt_51 : decode cX2_missAt 51 = .ok (.iconst 0, 1) := by decide +kernel
theorem dX2_missAt_52 : decode cX2_missAt 52 = .ok (.iload 5, 2) := by decide +kernel
theorem dX2_missAt_54 : decode cX2_missAt 54 = .ok (.aload_n 0, 1) := by decide +kernel
theorem dX2_missAt_55 : decode cX2_missAt 55 = .ok (.getfield 30, 3) := by decide +kernel
theorem dX2_missAt_58 : decode cX2_missAt 58 = .ok (.iload_n 3, 1) := by decide +kernel
theorem dX2_missAt_59 : decode cX2_missAt 59 = .ok (.iaload, 1) := by decide +kernel
theorem dX2_missAt_60 : decode cX2_missAt 60 = .ok (.iload 4, 2) := by decide +kernel
theorem dX2_missAt_62 : decode cX2_missAt 62 = .ok (.imul, 1) := by decide +kernel
theorem dX2_missAt_63 : decode cX2_missAt 63 = .ok (.isub, 1) := by decide +kernel
theorem dX2_missAt_64 : decode cX2_missAt 64 = .ok (.invokestatic 61, 3) := by decide +kernel
theorem dX2_missAt_67 : decode cX2_missAt 67 = .ok (.ireturn, 1) := by decide +kernel
theorem dX2_evenHour_0 : decode cX2_evenHour 0 = .ok (.aload_n 0, 1) := by decide +kernel
theorem dX2_evenHour_1 : decode cX2_evenHour 1 = .ok (.getfield 20, 3) := by decide +kernel
theorem dX2_evenHour_4 : decode cX2_evenHour 4 = .ok (.iload_n 2, 1) := by decide +kernel
theorem dX2_evenHour_5 : decode cX2_evenHour 5 = .ok (.iaload, 1) := by decide +kernel
theorem dX2_evenHour_6 : decode cX2_evenHour 6 = .ok (.aload_n 0, 1) := by decide +kernel
theorem dX2_evenHour_7 : decode cX2_evenHour 7 = .ok (.getfield 20, 3) := by decide +kernel
theorem dX2_evenHour_10 : decode cX2_evenHour 10 = .ok (.iload_n 1, 1) := by decide +kernel
theorem dX2_evenHour_11 : decode cX2_evenHour 11 = .ok (.iaload, 1) := by decide +kernel
theorem dX2_evenHour_12 : decode cX2_evenHour 12 = .ok (.isub, 1) := by decide +kernel
theorem dX2_evenHour_13 : decode cX2_evenHour 13 = .ok (.istore 4, 2) := by decide +kernel
theorem dX2_evenHour_15 : decode cX2_evenHour 15 = .ok (.aload_n 0, 1) := by decide +kernel
theorem dX2_evenHour_16 : decode cX2_evenHour 16 = .ok (.getfield 20, 3) := by decide +kernel
theorem dX2_evenHour_19 : decode cX2_evenHour 19 = .ok (.iload_n 3, 1) := by decide +kernel
theorem dX2_evenHour_20 : decode cX2_evenHour 20 = .ok (.iaload, 1) := by decide +kernel
theorem dX2_evenHour_21 : decode cX2_evenHour 21 = .ok (.aload_n 0, 1) := by decide +kernel
theorem dX2_evenHour_22 : decode cX2_evenHour 22 = .ok (.getfield 20, 3) := by decide +kernel
theorem dX2_evenHour_25 : decode cX2_evenHour 25 = .ok (.iload_n 1, 1) := by decide +kernel
theorem dX2_evenHour_26 : decode cX2_evenHour 26 = .ok (.iaload, 1) := by decide +kernel
theorem dX2_evenHour_27 : decode cX2_evenHour 27 = .ok (.isub, 1) := by decide +kernel
theorem dX2_evenHour_28 : decode cX2_evenHour 28 = .ok (.istore 5, 2) := by decide +kernel
theorem dX2_evenHour_30 : decode cX2_evenHour 30 = .ok (.aload_n 0, 1) := by decide +kernel
theorem dX2_evenHour_31 : decode cX2_evenHour 31 = .ok (.getfield 33, 3) := by decide +kernel
theorem dX2_evenHour_34 : decode cX2_evenHour 34 = .ok (.iload_n 1, 1) := by decide +kernel
theorem dX2_evenHour_35 : decode cX2_evenHour 35 = .ok (.iaload, 1) := by decide +kernel
theorem dX2_evenHour_36 : decode cX2_evenHour 36 = .ok (.iload 4, 2) := by decide +kernel
theorem dX2_evenHour_38 : decode cX2_evenHour 38 = .ok (.imul, 1) := by decide +kernel
theorem dX2_evenHour_39 : decode cX2_evenHour 39 = .ok (.aload_n 0, 1) := by decide +kernel
theorem dX2_evenHour_40 : decode cX2_evenHour 40 = .ok (.getfield 33, 3) := by decide +kernel
theorem dX2_evenHour_43 : decode cX2_evenHour 43 = .ok (.iload_n 2, 1) := by decide +kernel
theorem dX2_evenHour_44 : decode cX2_evenHour 44 = .ok (.iaload, 1) := by decide +kernel
theorem dX2_evenHour_45 : decode cX2_evenHour 45 = .ok (.aload_n 0, 1) := by decide +kernel
theorem dX2_evenHour_46 : decode cX2_evenHour 46 = .ok (.getfield 33, 3) := by decide +kernel
theorem dX2_evenHour_49 : decode cX2_evenHour 49 = .ok (.iload_n 1, 1) := by decide +kernel
theorem dX2_evenHour_50 : decode cX2_evenHour 50 = .ok (.iaload, 1) := by decide +kernel
theorem dX2_evenHour_51 : decode cX2_evenHour 51 = .ok (.isub, 1) := by decide +kernel
theorem dX2_evenHour_52 : decode cX2_evenHour 52 = .ok (.iload 5, 2) := by decide +kernel
theorem dX2_evenHour_54 : decode cX2_evenHour 54 = .ok (.imul, 1) := by decide +kernel
theorem dX2_evenHour_55 : decode cX2_evenHour 55 = .ok (.iadd, 1) := by decide +kernel
theorem dX2_evenHour_56 : decode cX2_evenHour 56 = .ok (.ireturn, 1) := by decide +kernel
theorem dX2_measureStretches_0 : decode cX2_measureStretches 0 = .ok (.aload_n 0, 1) := by decide +kernel
theorem dX2_measureStretches_1 : decode cX2_measureStretches 1 = .ok (.iconst 0, 1) := by decide +kernel
theorem dX2_measureStretches_2 : decode cX2_measureStretches 2 = .ok (.putfield 48, 3) := by decide +kernel
theorem dX2_measureStretches_5 : decode cX2_measureStretches 5 = .ok (.aload_n 0, 1) := by decide +kernel
theorem dX2_measureStretches_6 : decode cX2_measureStretches 6 = .ok (.iconst 0, 1) := by decide +kernel
theorem dX2_measureStretches_7 : decode cX2_measureStretches 7 = .ok (.putfield 51, 3) := by decide +kernel
theorem dX2_measureStretches_10 : decode cX2_measureStretches 10 = .ok (.iconst 1, 1) := by decide +kernel
theorem dX2_measureStretches_11 : decode cX2_measureStretches 11 = .ok (.istore_n 1, 1) := by decide +kernel
theorem dX2_measureStretches_12 : decode cX2_measureStretches 12 = .ok (.aload_n 0, 1) := by decide +kernel
theorem dX2_measureStretches_13 : decode cX2_measureStretches 13 = .ok (.getfield 11, 3) := by decide +kernel
theorem dX2_measureStretches_16 : decode cX2_measureStretches 16 = .ok (.istore_n 2, 1) := by decide +kernel
theorem dX2_measureStretches_17 : decode cX2_measureStretches 17 = .ok (.iconst 0, 1) := by decide +kernel
theorem dX2_measureStretches_18 : decode cX2_measureStretches 18 = .ok (.istore_n 3, 1) := by decide +kernel
theorem dX2_measureStretches_19 : decode cX2_measureStretches 19 = .ok (.iload_n 3, 1) := by decide +kernel
theorem dX2_measureStretches_20 : decode cX2_measureStretches 20 = .ok (.bipush 7, 2) := by decide +kernel
theorem dX2_measureStretches_22 : decode cX2_measureStretches 22 = .ok (.if_icmp .ge 133, 3) := by decide +kernel
theorem dX2_measureStretches_25 : decode cX2_measureStretches 25 = .ok (.iload_n 2, 1) := by decide +kernel
theorem dX2_measureStretches_26 : decode cX2_measureStretches 26 = .ok (.aload_n 0, 1) := by decide +kernel
theorem dX2_measureStretches_27 : decode cX2_measureStretches 27 = .ok (.getfield 17, 3) := by decide +kernel
theorem dX2_measureStretches_30 : decode cX2_measureStretches 30 = .ok (.if_icmp .ge 125, 3) := by decide +kernel
theorem dX2_measureStretches_33 : decode cX2_measureStretches 33 = .ok (.aload_n 0, 1) := by decide +kernel
theorem dX2_measureStretches_34 : decode cX2_measureStretches 34 = .ok (.iload_n 2, 1) := by decide +kernel
theorem dX2_measureStretches_35 : decode cX2_measureStretches 35 = .ok (.invokevirtual 126, 3) := by decide +kernel
theorem dX2_measureStretches_38 : decode cX2_measureStretches 38 = .ok (.istore 4, 2) := by decide +kernel
theorem dX2_measureStretches_40 : decode cX2_measureStretches 40 = .ok (.iload_n 2, 1) := by decide +kernel
theorem dX2_measureStretches_41 : decode cX2_measureStretches 41 = .ok (.istore 5, 2) := by decide +kernel
theorem dX2_measureStretches_43 : decode cX2_measureStretches 43 = .ok (.iload 5, 2) := by decide +kernel
theorem dX2_measureStretches_45 : decode cX2_measureStretches 45 = .ok (.iload 4, 2) := by decide +kernel
theorem dX2_measureStretches_47 : decode cX2_measureStretches 47 = .ok (.if_icmp .ge 26, 3) := by decide +kernel
theorem dX2_measureStretches_50 : decode cX2_measureStretches 50 = .ok (.aload_n 0, 1) := by decide +kernel
theorem dX2_measureStretches_51 : decode cX2_measureStretches 51 = .ok (.getfield 39, 3) := by decide +kernel
theorem dX2_measureStretches_54 : decode cX2_measureStretches 54 = .ok (.iload 5, 2) := by decide +kernel
theorem dX2_measureStretches_56 : decode cX2_measureStretches 56 = .ok (.iload_n 2, 1) := by decide +kernel
theorem dX2_measureStretches_57 : decode cX2_measureStretches 57 = .ok (.iastore, 1) := by decide +kernel
theorem dX2_measureStretches_58 : decode cX2_measureStretches 58 = .ok (.aload_n 0, 1) := by decide +kernel
theorem dX2_measureStretches_59 : decode cX2_measureStretches 59 = .ok (.getfield 42, 3) := by decide +kernel
theorem dX2_measureStretches_62 : decode cX2_measureStretches 62 = .ok (.iload 5, 2) := by decide +kernel
theorem dX2_measureStretches_64 : decode cX2_measureStretches 64 = .ok (.iload 4, 2) := by decide +kernel
theorem dX2_measureStretches_66 : decode cX2_measureStretches 66 = .ok (.iastore, 1) := by decide +kernel
theorem dX2_measureStretches_67 : decode cX2_measureStretches 67 = .ok (.iinc 5 1, 3) := by decide +kernel
theorem dX2_measureStretches_70 : decode cX2_measureStretches 70 = .ok (.goto (-27), 3) := by decide +kernel
theorem dX2_measureStretches_73 : decode cX2_measureStretches 73 = .ok (.aload_n 0, 1) := by decide +kernel
theorem dX2_measureStretches_74 : decode cX2_measureStretches 74 = .ok (.getfield 33, 3) := by decide +kernel
theorem dX2_measureStretches_77 : decode cX2_measureStretches 77 = .ok (.iload 4, 2) := by decide +kernel
theorem dX2_measureStretches_79 : decode cX2_measureStretches 79 = .ok (.iaload, 1) := by decide +kernel
theorem dX2_measureStretches_80 : decode cX2_measureStretches 80 = .ok (.aload_n 0, 1) := by decide +kernel
theorem dX2_measureStretches_81 : decode cX2_measureStretches 81 = .ok (.getfield 33, 3) := by decide +kernel
theorem dX2_measureStretches_84 : decode cX2_measureStretches 84 = .ok (.iload_n 2, 1) := by decide +kernel
theorem dX2_measureStretches_85 : decode cX2_measureStretches 85 = .ok (.iaload, 1) := by decide +kernel
theorem dX2_measureStretches_86 : decode cX2_measureStretches 86 = .ok (.isub, 1) := by decide +kernel
theorem dX2_measureStretches_87 : decode cX2_measureStretches 87 = .ok (.istore 5, 2) := by decide +kernel
theorem dX2_measureStretches_89 : decode cX2_measureStretches 89 = .ok (.iload 5, 2) := by decide +kernel
theorem dX2_measureStretches_91 : decode cX2_measureStretches 91 = .ok (.ifCond .le 43, 3) := by decide +kernel
theorem dX2_measureStretches_94 : decode cX2_measureStretches 94 = .ok (.aload_n 0, 1) := by decide +kernel
theorem dX2_measureStretches_95 : decode cX2_measureStretches 95 = .ok (.getfield 20, 3) := by decide +kernel
theorem dX2_measureStretches_98 : decode cX2_measureStretches 98 = .ok (.iload 4, 2) := by decide +kernel
theorem dX2_measureStretches_100 : decode cX2_measureStretches 100 = .ok (.iaload, 1) := by decide +kernel
theorem dX2_measureStretches_101 : decode cX2_measureStretches 101 = .ok (.aload_n 0, 1) := by decide +kernel
theorem dX2_measureStretches_102 : decode cX2_measureStretches 102 = .ok (.getfield 20, 3) := by decide +kernel
theorem dX2_measureStretches_105 : decode cX2_measureStretches 105 = .ok (.iload_n 2, 1) := by decide +kernel
theorem dX2_measureStretches_106 : decode cX2_measureStretches 106 = .ok (.iaload, 1) := by decide +kernel
theorem dX2_measureStretches_107 : decode cX2_measureStretches 107 = .ok (.isub, 1) := by decide +kernel
theorem dX2_measureStretches_108 : decode cX2_measureStretches 108 = .ok (.istore 6, 2) := by decide +kernel
theorem dX2_measureStretches_110 : decode cX2_measureStretches 110 = .ok (.aload_n 0, 1) := by decide +kernel
theorem dX2_measureStretches_111 : decode cX2_measureStretches 111 = .ok (.aload_n 0, 1) := by decide +kernel
theorem dX2_measureStretches_112 : decode cX2_measureStretches 112 = .ok (.getfield 51, 3) := by decide +kernel
theorem dX2_measureStretches_115 : decode cX2_measureStretches 115 = .ok (.iload 6, 2) := by decide +kernel
theorem dX2_measureStretches_117 : decode cX2_measureStretches 117 = .ok (.iload 5, 2) := by decide +kernel
theorem dX2_measureStretches_119 : decode cX2_measureStretches 119 = .ok (.iadd, 1) := by decide +kernel
theorem dX2_measureStretches_120 : decode cX2_measureStretches 120 = .ok (.iconst 1, 1) := by decide +kernel
theorem dX2_measureStretches_121 : decode cX2_measureStretches 121 = .ok (.isub, 1) := by decide +kernel
theorem dX2_measureStretches_122 : decode cX2_measureStretches 122 = .ok (.iload 5, 2) := by decide +kernel
theorem dX2_measureStretches_124 : decode cX2_measureStretches 124 = .ok (.idiv, 1) := by decide +kernel
theorem dX2_measureStretches_125 : decode cX2_measureStretches 125 = .ok (.invokestatic 61, 3) := by decide +kernel
theorem dX2_measureStretches_128 : decode cX2_measureStretches 128 = .ok (.putfield 51, 3) := by decide +kernel
theorem dX2_measureStretches_131 : decode cX2_measureStretches 131 = .ok (.goto 5, 3) := by decide +kernel
theorem dX2_measureStretches_134 : decode cX2_measureStretches 134 = .ok (.iconst 0, 1) := by decide +kernel
theorem dX2_measureStretches_135 : decode cX2_measureStretches 135 = .ok (.istore_n 1, 1) := by decide +kernel
theorem dX2_measureStretches_136 : decode cX2_measureStretches 136 = .ok (.aload_n 0, 1) := by decide +kernel
theorem dX2_measureStretches_137 : decode cX2_measureStretches 137 = .ok (.dup, 1) := by decide +kernel
theorem dX2_measureStretches_138 : decode cX2_measureStretches 138 = .ok (.getfield 48, 3) := by decide +kernel
theorem dX2_measureStretches_141 : decode cX2_measureStretches 141 = .ok (.iconst 1, 1) := by decide +kernel
theorem dX2_measureStretches_142 : decode cX2_measureStretches 142 = .ok (.iadd, 1) := by decide +kernel
theorem dX2_measureStretches_143 : decode cX2_measureStretches 143 = .ok (.putfield 48, 3) := by decide +kernel
theorem dX2_measureStretches_146 : decode cX2_measureStretches 146 = .ok (.iload 4, 2) := by decide +kernel
theorem dX2_measureStretches_148 : decode cX2_measureStretches 148 = .ok (.istore_n 2, 1) := by decide +kernel
theorem dX2_measureStretches_149 : decode cX2_measureStretches 149 = .ok (.iinc 3 1, 3) := by decide +kernel
theorem dX2_measureStretches_152 : decode cX2_measureStretches 152 = .ok (.goto (-133), 3) := by decide +kernel
theorem dX2_measureStretches_155 : decode cX2_measureStretches 155 = .ok (.iload_n 1, 1) := by decide +kernel
theorem dX2_measureStretches_156 : decode cX2_measureStretches 156 = .ok (.ifCond .ne 8, 3) := by decide +kernel
theorem dX2_measureStretches_159 : decode cX2_measureStretches 159 = .ok (.aload_n 0, 1) := by decide +kernel
theorem dX2_measureStretches_160 : decode cX2_measureStretches 160 = .ok (.iconst 0, 1) := by decide +kernel
theorem dX2_measureStretches_161 : decode cX2_measureStretches 161 = .ok (.putfield 51, 3) := by decide +kernel
theorem dX2_measureStretches_164 : decode cX2_measureStretches 164 = .ok (.return_, 1) := by decide +kernel
theorem dX3_init_0 : decode cX3_init 0 = .ok (.aload_n 0, 1) := by decide +kernel
theorem dX3_init_1 : decode cX3_init 1 = .ok (.invokespecial 1, 3) := by decide +kernel
theorem dX3_init_4 : decode cX3_init 4 = .ok (.aload_n 0, 1) := by decide +kernel
theorem dX3_init_5 : decode cX3_init 5 = .ok (.bipush 9, 2) := by decide +kernel
theorem dX3_init_7 : decode cX3_init 7 = .ok (.newarray .int, 2) := by decide +kernel
theorem dX3_init_9 : decode cX3_init 9 = .ok (.putfield 9, 3) := by decide +kernel
theorem dX3_init_12 : decode cX3_init 12 = .ok (.aload_n 0, 1) := by decide +kernel
theorem dX3_init_13 : decode cX3_init 13 = .ok (.bipush 24, 2) := by decide +kernel
theorem dX3_init_15 : decode cX3_init 15 = .ok (.newarray .int, 2) := by decide +kernel
theorem dX3_init_17 : decode cX3_init 17 = .ok (.putfield 13, 3) := by decide +kernel
theorem dX3_init_20 : decode cX3_init 20 = .ok (.aload_n 0, 1) := by decide +kernel
theorem dX3_init_21 : decode cX3_init 21 = .ok (.invokevirtual 16, 3) := by decide +kernel
theorem dX3_init_24 : decode cX3_init 24 = .ok (.return_, 1) := by decide +kernel
theorem dX3_becomeNew_0 : decode cX3_becomeNew 0 = .ok (.getstatic 19, 3) := by decide +kernel
theorem dX3_becomeNew_3 : decode cX3_becomeNew 3 = .ok (.iconst 0, 1) := by decide +kernel
theorem dX3_becomeNew_4 : decode cX3_becomeNew 4 = .ok (.aload_n 0, 1) := by decide +kernel
theorem dX3_becomeNew_5 : decode cX3_becomeNew 5 = .ok (.getfield 9, 3) := by decide +kernel
theorem dX3_becomeNew_8 : decode cX3_becomeNew 8 = .ok (.iconst 0, 1) := by decide +kernel
theorem dX3_becomeNew_9 : decode cX3_becomeNew 9 = .ok (.bipush 9, 2) := by decide +kernel
theorem dX3_becomeNew_11 : decode cX3_becomeNew 11 = .ok (.invokestatic 22, 3) := by decide +kernel
theorem dX3_becomeNew_14 : decode cX3_becomeNew 14 = .ok (.aload_n 0, 1) := by decide +kernel
theorem dX3_becomeNew_15 : decode cX3_becomeNew 15 = .ok (.getfield 13, 3) := by decide +kernel
theorem dX3_becomeNew_18 : decode cX3_becomeNew 18 = .ok (.iconst 0, 1) := by decide +kernel
theorem dX3_becomeNew_19 : decode cX3_becomeNew 19 = .ok (.invokestatic 28, 3) := by decide +kernel
theorem dX3_becomeNew_22 : decode cX3_becomeNew 22 = .ok (.return_, 1) := by decide +kernel
theorem dX3_becomeLike_0 : decode cX3_becomeLike 0 = .ok (.aload_n 1, 1) := by decide +kernel
theorem dX3_becomeLike_1 : decode cX3_becomeLike 1 = .ok (.getfield 9, 3) := by decide +kernel
theorem dX3_becomeLike_4 : decode cX3_becomeLike 4 = .ok (.iconst 0, 1) := by decide +kernel
theorem dX3_becomeLike_5 : decode cX3_becomeLike 5 = .ok (.aload_n 0, 1) := by decide +kernel
theorem dX3_becomeLike_6 : decode cX3_becomeLike 6 = .ok (.getfield 9, 3) := by decide +kernel
theorem dX3_becomeLike_9 : decode cX3_becomeLike 9 = .ok (.iconst 0, 1) := by decide +kernel
theorem dX3_becomeLike_10 : decode cX3_becomeLike 10 = .ok (.bipush 9, 2) := by decide +kernel
theorem dX3_becomeLike_12 : decode cX3_becomeLike 12 = .ok (.invokestatic 22, 3) := by decide +kernel
theorem dX3_becomeLike_15 : decode cX3_becomeLike 15 = .ok (.aload_n 1, 1) := by decide +kernel
theorem dX3_becomeLike_16 : decode cX3_becomeLike 16 = .ok (.getfield 13, 3) := by decide +kernel
theorem dX3_becomeLike_19 : decode cX3_becomeLike 19 = .ok (.iconst 0, 1) := by decide +kernel
theorem dX3_becomeLike_20 : decode cX3_becomeLike 20 = .ok (.aload_n 0, 1) := by decide +kernel
theorem dX3_becomeLike_21 : decode cX3_becomeLike 21 = .ok (.getfield 13, 3) := by decide +kernel
theorem dX3_becomeLike_24 : decode cX3_becomeLike 24 = .ok (.iconst 0, 1) := by decide +kernel
theorem dX3_becomeLike_25 : decode cX3_becomeLike 25 = .ok (.bipush 24, 2) := by decide +kernel
theorem dX3_becomeLike_27 : decode cX3_becomeLike 27 = .ok (.invokestatic 22, 3) := by decide +kernel
theorem dX3_becomeLike_30 : decode cX3_becomeLike 30 = .ok (.return_, 1) := by decide +kernel
theorem dX3_trait_0 : decode cX3_trait 0 = .ok (.iload_n 1, 1) := by decide +kernel
theorem dX3_trait_1 : decode cX3_trait 1 = .ok (.ifCond .lt 18, 3) := by decide +kernel
theorem dX3_trait_4 : decode cX3_trait 4 = .ok (.iload_n 1, 1) := by decide +kernel
theorem dX3_trait_5 : decode cX3_trait 5 = .ok (.bipush 9, 2) := by decide +kernel
theorem dX3_trait_7 : decode cX3_trait 7 = .ok (.if_icmp .ge 12, 3) := by decide +kernel
theorem dX3_trait_10 : decode cX3_trait 10 = .ok (.aload_n 0, 1) := by decide +kernel
theorem dX3_trait_11 : decode cX3_trait 11 = .ok (.getfield 9, 3) := by decide +kernel
theorem dX3_trait_14 : decode cX3_trait 14 = .ok (.iload_n 1, 1) := by decide +kernel
theorem dX3_trait_15 : decode cX3_trait 15 = .ok (.iaload, 1) := by decide +kernel
theorem dX3_trait_16 : decode cX3_trait 16 = .ok (.goto 4, 3) := by decide +kernel
theorem dX3_trait_19 : decode cX3_trait 19 = .ok (.iconst 0, 1) := by decide +kernel
theorem dX3_trait_20 : decode cX3_trait 20 = .ok (.ireturn, 1) := by decide +kernel
theorem dX3_setTrait_0 : decode cX3_setTrait 0 = .ok (.iload_n 1, 1) := by decide +kernel
theorem dX3_setTrait_1 : decode cX3_setTrait 1 = .ok (.ifCond .lt 16, 3) := by decide +kernel
theorem dX3_setTrait_4 : decode cX3_setTrait 4 = .ok (.iload_n 1, 1) := by decide +kernel
theorem dX3_setTrait_5 : decode cX3_setTrait 5 = .ok (.bipush 9, 2) := by decide +kernel
theorem dX3_setTrait_7 : decode cX3_setTrait 7 = .ok (.if_icmp .ge 10, 3) := by decide +kernel
theorem dX3_setTrait_10 : decode cX3_setTrait 10 = .ok (.aload_n 0, 1) := by decide +kernel
theorem dX3_setTrait_11 : decode cX3_setTrait 11 = .ok (.getfield 9, 3) := by decide +kernel
theorem dX3_setTrait_14 : decode cX3_setTrait 14 = .ok (.iload_n 1, 1) := by decide +kernel
theorem dX3_setTrait_15 : decode cX3_setTrait 15 = .ok (.iload_n 2, 1) := by decide +kernel
theorem dX3_setTrait_16 : decode cX3_setTrait 16 = .ok (.iastore, 1) := by decide +kernel
theorem dX3_setTrait_17 : decode cX3_setTrait 17 = .ok (.return_, 1) := by decide +kernel
theorem dX3_ofLeg_0 : decode cX3_ofLeg 0 = .ok (.iload_n 1, 1) := by decide +kernel
theorem dX3_ofLeg_1 : decode cX3_ofLeg 1 = .ok (.iload_n 2, 1) := by decide +kernel
theorem dX3_ofLeg_2 : decode cX3_ofLeg 2 = .ok (.invokestatic 34, 3) := by decide +kernel
theorem dX3_ofLeg_5 : decode cX3_ofLeg 5 = .ok (.istore_n 3, 1) := by decide +kernel
theorem dX3_ofLeg_6 : decode cX3_ofLeg 6 = .ok (.iload_n 3, 1) := by decide +kernel
theorem dX3_ofLeg_7 : decode cX3_ofLeg 7 = .ok (.ifCond .ge 7, 3) := by decide +kernel
theorem dX3_ofLeg_10 : decode cX3_ofLeg 10 = .ok (.iconst 0, 1) := by decide +kernel
theorem dX3_ofLeg_11 : decode cX3_ofLeg 11 = .ok (.goto 9, 3) := by decide +kernel
theorem dX3_ofLeg_14 : decode cX3_ofLeg 14 = .ok (.aload_n 0, 1) := by decide +kernel
theorem dX3_ofLeg_15 : decode cX3_ofLeg 15 = .ok (.getfield 13, 3) := by decide +kernel
theorem dX3_ofLeg_18 : decode cX3_ofLeg 18 = .ok (.iload_n 3, 1) := by decide +kernel
theorem dX3_ofLeg_19 : decode cX3_ofLeg 19 = .ok (.iaload, 1) := by decide +kernel
theorem dX3_ofLeg_20 : decode cX3_ofLeg 20 = .ok (.ireturn, 1) := by decide +kernel
theorem dX3_setOfLeg_0 : decode cX3_setOfLeg 0 = .ok (.iload_n 1, 1) := by decide +kernel
theorem dX3_setOfLeg_1 : decode cX3_setOfLeg 1 = .ok (.iload_n 2, 1) := by decide +kernel
theorem dX3_setOfLeg_2 : decode cX3_setOfLeg 2 = .ok (.invokestatic 34, 3) := by decide +kernel
theorem dX3_setOfLeg_5 : decode cX3_setOfLeg 5 = .ok (.istore 4, 2) := by decide +kernel
theorem dX3_setOfLeg_7 : decode cX3_setOfLeg 7 = .ok (.iload 4, 2) := by decide +kernel
theorem dX3_setOfLeg_9 : decode cX3_setOfLeg 9 = .ok (.ifCond .lt 11, 3) := by decide +kernel
theorem dX3_setOfLeg_12 : decode cX3_setOfLeg 12 = .ok (.aload_n 0, 1) := by decide +kernel
theorem dX3_setOfLeg_13 : decode cX3_setOfLeg 13 = .ok (.getfield 13, 3) := by decide +kernel
theorem dX3_setOfLeg_16 : decode cX3_setOfLeg 16 = .ok (.iload 4, 2) := by decide +kernel
theorem dX3_setOfLeg_18 : decode cX3_setOfLeg 18 = .ok (.iload_n 3, 1) := by decide +kernel
theorem dX3_setOfLeg_19 : decode cX3_setOfLeg 19 = .ok (.iastore, 1) := by decide +kernel
theorem dX3_setOfLeg_20 : decode cX3_setOfLeg 20 = .ok (.return_, 1) := by decide +kernel
theorem dX3_isPortAhead_0 : decode cX3_isPortAhead 0 = .ok (.iload_n 1, 1) := by decide +kernel
theorem dX3_isPortAhead_1 : decode cX3_isPortAhead 1 = .ok (.aload_n 0, 1) := by decide +kernel
theorem dX3_isPortAhead_2 : decode cX3_isPortAhead 2 = .ok (.getfield 9, 3) := by decide +kernel
theorem dX3_isPortAhead_5 : decode cX3_isPortAhead 5 = .ok (.iconst 2, 1) := by decide +kernel
theorem dX3_isPortAhead_6 : decode cX3_isPortAhead 6 = .ok (.iaload, 1) := by decide +kernel
theorem dX3_isPortAhead_7 : decode cX3_isPortAhead 7 = .ok (.if_icmp .le 17, 3) := by decide +kernel
theorem dX3_isPortAhead_10 : decode cX3_isPortAhead 10 = .ok (.iload_n 1, 1) := by decide +kernel
theorem dX3_isPortAhead_11 : decode cX3_isPortAhead 11 = .ok (.aload_n 0, 1) := by decide +kernel
theorem dX3_isPortAhead_12 : decode cX3_isPortAhead 12 = .ok (.getfield 9, 3) := by decide +kernel
theorem dX3_isPortAhead_15 : decode cX3_isPortAhead 15 = .ok (.iconst 0, 1) := by decide +kernel
theorem dX3_isPortAhead_16 : decode cX3_isPortAhead 16 = .ok (.iaload, 1) := by decide +kernel
theorem dX3_isPortAhead_17 : decode cX3_isPortAhead 17 = .ok (.if_icmp .gt 7, 3) := by decide +kernel
theorem dX3_isPortAhead_20 : decode cX3_isPortAhead 20 = .ok (.iconst 1, 1) := by decide +kernel
theorem dX3_isPortAhead_21 : decode cX3_isPortAhead 21 = .ok (.goto 4, 3) := by decide +kernel
theorem dX3_isPortAhead_24 : decode cX3_isPortAhead 24 = .ok (.iconst 0, 1) := by decide +kernel
theorem dX3_isPortAhead_25 : decode cX3_isPortAhead 25 = .ok (.ireturn, 1) := by decide +kernel
theorem dX3_isLegAhead_0 : decode cX3_isLegAhead 0 = .ok (.iload_n 1, 1) := by decide +kernel
theorem dX3_isLegAhead_1 : decode cX3_isLegAhead 1 = .ok (.aload_n 0, 1) := by decide +kernel
theorem dX3_isLegAhead_2 : decode cX3_isLegAhead 2 = .ok (.getfield 9, 3) := by decide +kernel
theorem dX3_isLegAhead_5 : decode cX3_isLegAhead 5 = .ok (.iconst 2, 1) := by decide +kernel
theorem dX3_isLegAhead_6 : decode cX3_isLegAhead 6 = .ok (.iaload, 1) := by decide +kernel
theorem dX3_isLegAhead_7 : decode cX3_isLegAhead 7 = .ok (.if_icmp .lt 17, 3) := by decide +kernel
theorem dX3_isLegAhead_10 : decode cX3_isLegAhead 10 = .ok (.iload_n 1, 1) := by decide +kernel
theorem dX3_isLegAhead_11 : decode cX3_isLegAhead 11 = .ok (.aload_n 0, 1) := by decide +kernel
theorem dX3_isLegAhead_12 : decode cX3_isLegAhead 12 = .ok (.getfield 9, 3) := by decide +kernel
theorem dX3_isLegAhead_15 : decode cX3_isLegAhead 15 = .ok (.iconst 0, 1) := by decide +kernel
theorem dX3_isLegAhead_16 : decode cX3_isLegAhead 16 = .ok (.iaload, 1) := by decide +kernel
theorem dX3_isLegAhead_17 : decode cX3_isLegAhead 17 = .ok (.if_icmp .ge 7, 3) := by decide +kernel
theorem dX3_isLegAhead_20 : decode cX3_isLegAhead 20 = .ok (.iconst 1, 1) := by decide +kernel
theorem dX3_isLegAhead_21 : decode cX3_isLegAhead 21 = .ok (.goto 4, 3) := by decide +kernel
theorem dX3_isLegAhead_24 : decode cX3_isLegAhead 24 = .ok (.iconst 0, 1) := by decide +kernel
theorem dX3_isLegAhead_25 : decode cX3_isLegAhead 25 = .ok (.ireturn, 1) := by decide +kernel
theorem dX3_placeOf_0 : decode cX3_placeOf 0 = .ok (.iload_n 0, 1) := by decide +kernel
theorem dX3_placeOf_1 : decode cX3_placeOf 1 = .ok (.ifCond .lt 18, 3) := by decide +kernel
theorem dX3_placeOf_4 : decode cX3_placeOf 4 = .ok (.iload_n 0, 1) := by decide +kernel
theorem dX3_placeOf_5 : decode cX3_placeOf 5 = .ok (.bipush 6, 2) := by decide +kernel
theorem dX3_placeOf_7 : decode cX3_placeOf 7 = .ok (.if_icmp .ge 12, 3) := by decide +kernel
theorem dX3_placeOf_10 : decode cX3_placeOf 10 = .ok (.iload_n 1, 1) := by decide +kernel
theorem dX3_placeOf_11 : decode cX3_placeOf 11 = .ok (.ifCond .lt 8, 3) := by decide +kernel
theorem dX3_placeOf_14 : decode cX3_placeOf 14 = .ok (.iload_n 1, 1) := by decide +kernel
theorem dX3_placeOf_15 : decode cX3_placeOf 15 = .ok (.iconst 4, 1) := by decide +kernel
theorem dX3_placeOf_16 : decode cX3_placeOf 16 = .ok (.if_icmp .lt 5, 3) := by decide +kernel
theorem dX3_placeOf_19 : decode cX3_placeOf 19 = .ok (.iconst (-1), 1) := by decide +kernel
theorem dX3_placeOf_20 : decode cX3_placeOf 20 = .ok (.ireturn, 1) := by decide +kernel
theorem dX3_placeOf_21 : decode cX3_placeOf 21 = .ok (.iload_n 0, 1) := by decide +kernel
theorem dX3_placeOf_22 : decode cX3_placeOf 22 = .ok (.iconst 4, 1) := by decide +kernel
theorem dX3_placeOf_23 : decode cX3_placeOf 23 = .ok (.imul, 1) := by decide +kernel
theorem dX3_placeOf_24 : decode cX3_placeOf 24 = .ok (.iload_n 1, 1) := by decide +kernel
theorem dX3_placeOf_25 : decode cX3_placeOf 25 = .ok (.iadd, 1) := by decide +kernel
theorem dX3_placeOf_26 : decode cX3_placeOf 26 = .ok (.ireturn, 1) := by decide +kernel
theorem dX4_init_0 : decode cX4_init 0 = .ok (.aload_n 0, 1) := by decide +kernel
theorem dX4_init_1 : decode cX4_init 1 = .ok (.invokespecial 3, 3) := by decide +kernel
theorem dX4_init_4 : decode cX4_init 4 = .ok (.aload_n 0, 1) := by decide +kernel
theorem dX4_init_5 : decode cX4_init 5 = .ok (.sipush 150, 3) := by decide +kernel
theorem dX4_init_8 : decode cX4_init 8 = .ok (.newarray .int, 2) := by decide +kernel
theorem dX4_init_10 : decode cX4_init 10 = .ok (.putfield 9, 3) := by decide +kernel
theorem dX4_init_13 : decode cX4_init 13 = .ok (.aload_n 0, 1) := by decide +kernel
theorem dX4_init_14 : decode cX4_init 14 = .ok (.iconst 0, 1) := by decide +kernel
theorem dX4_init_15 : decode cX4_init 15 = .ok (.putfield 13, 3) := by decide +kernel
theorem dX4_init_18 : decode cX4_init 18 = .ok (.aload_n 0, 1) := by decide +kernel
theorem dX4_init_19 : decode cX4_init 19 = .ok (.iconst 0, 1) := by decide +kernel
theorem dX4_init_20 : decode cX4_init 20 = .ok (.putfield 17, 3) := by decide +kernel
theorem dX4_init_23 : decode cX4_init 23 = .ok (.aload_n 0, 1) := by decide +kernel
theorem dX4_init_24 : decode cX4_init 24 = .ok (.iconst 0, 1) := by decide +kernel
theorem dX4_init_25 : decode cX4_init 25 = .ok (.putfield 20, 3) := by decide +kernel
theorem dX4_init_28 : decode cX4_init 28 = .ok (.aload_n 0, 1) := by decide +kernel
theorem dX4_init_29 : decode cX4_init 29 = .ok (.iconst 4, 1) := by decide +kernel
theorem dX4_init_30 : decode cX4_init 30 = .ok (.newarray .int, 2) := by decide +kernel
theorem dX4_init_32 : decode cX4_init 32 = .ok (.putfield 23, 3) := by decide +kernel
theorem dX4_init_35 : decode cX4_init 35 = .ok (.aload_n 0, 1) := by decide +kernel
theorem dX4_init_36 : decode cX4_init 36 = .ok (.iconst 0, 1) := by decide +kernel
theorem dX4_init_37 : decode cX4_init 37 = .ok (.putfield 26, 3) := by decide +kernel
theorem dX4_init_40 : decode cX4_init 40 = .ok (.aload_n 0, 1) := by decide +kernel
theorem dX4_init_41 : decode cX4_init 41 = .ok (.iconst 0, 1) := by decide +kernel
theorem dX4_init_42 : decode cX4_init 42 = .ok (.putfield 29, 3) := by decide +kernel
theorem dX4_init_45 : decode cX4_init 45 = .ok (.aload_n 0, 1) := by decide +kernel
theorem dX4_init_46 : decode cX4_init 46 = .ok (.iconst 0, 1) := by decide +kernel
theorem dX4_init_47 : decode cX4_init 47 = .ok (.putfield 33, 3) := by decide +kernel
theorem dX4_init_50 : decode cX4_init 50 = .ok (.return_, 1) := by decide +kernel
theorem dX4_length_0 : decode cX4_length 0 = .ok (.aload_n 0, 1) := by decide +kernel
theorem dX4_length_1 : decode cX4_length 1 = .ok (.getfield 13, 3) := by decide +kernel
theorem dX4_length_4 : decode cX4_length 4 = .ok (.ireturn, 1) := by decide +kernel
theorem dX4_takesLetter_0 : decode cX4_takesLetter 0 = .ok (.aload_n 0, 1) := by decide +kernel
theorem dX4_takesLetter_1 : decode cX4_takesLetter 1 = .ok (.getfield 13, 3) := by decide +kernel
theorem dX4_takesLetter_4 : decode cX4_takesLetter 4 = .ok (.sipush 150, 3) := by decide +kernel
theorem dX4_takesLetter_7 : decode cX4_takesLetter 7 = .ok (.if_icmp .lt 5, 3) := by decide +kernel
theorem dX4_takesLetter_10 : decode cX4_takesLetter 10 = .ok (.iconst 0, 1) := by decide +kernel
theorem dX4_takesLetter_11 : decode cX4_takesLetter 11 = .ok (.ireturn, 1) := by decide +kernel
theorem dX4_takesLetter_12 : decode cX4_takesLetter 12 = .ok (.aload_n 0, 1) := by decide +kernel
theorem dX4_takesLetter_13 : decode cX4_takesLetter 13 = .ok (.getfield 9, 3) := by decide +kernel
theorem dX4_takesLetter_16 : decode cX4_takesLetter 16 = .ok (.aload_n 0, 1) := by decide +kernel
theorem dX4_takesLetter_17 : decode cX4_takesLetter 17 = .ok (.getfield 13, 3) := by decide +kernel
theorem dX4_takesLetter_20 : decode cX4_takesLetter 20 = .ok (.iload_n 1, 1) := by decide +kernel
theorem dX4_takesLetter_21 : decode cX4_takesLetter 21 = .ok (.iastore, 1) := by decide +kernel
theorem dX4_takesLetter_22 : decode cX4_takesLetter 22 = .ok (.aload_n 0, 1) := by decide +kernel
theorem dX4_takesLetter_23 : decode cX4_takesLetter 23 = .ok (.dup, 1) := by decide +kernel
theorem dX4_takesLetter_24 : decode cX4_takesLetter 24 = .ok (.getfield 13, 3) := by decide +kernel
theorem dX4_takesLetter_27 : decode cX4_takesLetter 27 = .ok (.iconst 1, 1) := by decide +kernel
theorem dX4_takesLetter_28 : decode cX4_takesLetter 28 = .ok (.iadd, 1) := by decide +kernel
theorem dX4_takesLetter_29 : decode cX4_takesLetter 29 = .ok (.putfield 13, 3) := by decide +kernel
theorem dX4_takesLetter_32 : decode cX4_takesLetter 32 = .ok (.iconst 1, 1) := by decide +kernel
theorem dX4_takesLetter_33 : decode cX4_takesLetter 33 = .ok (.ireturn, 1) := by decide +kernel
theorem dX4_becomeEmpty_0 : decode cX4_becomeEmpty 0 = .ok (.aload_n 0, 1) := by decide +kernel
theorem dX4_becomeEmpty_1 : decode cX4_becomeEmpty 1 = .ok (.iconst 0, 1) := by decide +kernel
theorem dX4_becomeEmpty_2 : decode cX4_becomeEmpty 2 = .ok (.putfield 13, 3) := by decide +kernel
theorem dX4_becomeEmpty_5 : decode cX4_becomeEmpty 5 = .ok (.return_, 1) := by decide +kernel
theorem dX4_tellShip_0 : decode cX4_tellShip 0 = .ok (.aload_n 1, 1) := by decide +kernel
theorem dX4_tellShip_1 : decode cX4_tellShip 1 = .ok (.invokevirtual 36, 3) := by decide +kernel
theorem dX4_tellShip_4 : decode cX4_tellShip 4 = .ok (.aload_n 0, 1) := by decide +kernel
theorem dX4_tellShip_5 : decode cX4_tellShip 5 = .ok (.iconst 0, 1) := by decide +kernel
theorem dX4_tellShip_6 : decode cX4_tellShip 6 = .ok (.putfield 17, 3) := by decide +kernel
theorem dX4_tellShip_9 : decode cX4_tellShip 9 = .ok (.aload_n 0, 1) := by decide +kernel
theorem dX4_tellShip_10 : decode cX4_tellShip 10 = .ok (.iconst 0, 1) := by decide +kernel
theorem dX4_tellShip_11 : decode cX4_tellShip 11 = .ok (.putfield 26, 3) := by decide +kernel
theorem dX4_tellShip_14 : decode cX4_tellShip 14 = .ok (.aload_n 0, 1) := by decide +kernel
theorem dX4_tellShip_15 : decode cX4_tellShip 15 = .ok (.iconst 0, 1) := by decide +kernel
theorem dX4_tellShip_16 : decode cX4_tellShip 16 = .ok (.putfield 29, 3) := by decide +kernel
theorem dX4_tellShip_19 : decode cX4_tellShip 19 = .ok (.aload_n 0, 1) := by decide +kernel
theorem dX4_tellShip_20 : decode cX4_tellShip 20 = .ok (.iconst 0, 1) := by decide +kernel
theorem dX4_tellShip_21 : decode cX4_tellShip 21 = .ok (.putfield 33, 3) := by decide +kernel
theorem dX4_tellShip_24 : decode cX4_tellShip 24 = .ok (.iconst 0, 1) := by decide +kernel
theorem dX4_tellShip_25 : decode cX4_tellShip 25 = .ok (.istore_n 2, 1) := by decide +kernel
theorem dX4_tellShip_26 : decode cX4_tellShip 26 = .ok (.iconst 0, 1) := by decide +kernel
theorem dX4_tellShip_27 : decode cX4_tellShip 27 = .ok (.istore_n 3, 1) := by decide +kernel
theorem dX4_tellShip_28 : decode cX4_tellShip 28 = .ok (.iload_n 3, 1) := by decide +kernel
theorem dX4_tellShip_29 : decode cX4_tellShip 29 = .ok (.sipush 150, 3) := by decide +kernel
theorem dX4_tellShip_32 : decode cX4_tellShip 32 = .ok (.if_icmp .ge 54, 3) := by decide +kernel
theorem dX4_tellShip_35 : decode cX4_tellShip 35 = .ok (.iload_n 2, 1) := by decide +kernel
theorem dX4_tellShip_36 : decode cX4_tellShip 36 = .ok (.aload_n 0, 1) := by decide +kernel
theorem dX4_tellShip_37 : decode cX4_tellShip 37 = .ok (.getfield 13, 3) := by decide +kernel
theorem dX4_tellShip_40 : decode cX4_tellShip 40 = .ok (.if_icmp .ge 46, 3) := by decide +kernel
theorem dX4_tellShip_43 : decode cX4_tellShip 43 = .ok (.aload_n 0, 1) := by decide +kernel
theorem dX4_tellShip_44 : decode cX4_tellShip 44 = .ok (.getfield 9, 3) := by decide +kernel
theorem dX4_tellShip_47 : decode cX4_tellShip 47 = .ok (.iload_n 2, 1) := by decide +kernel
theorem dX4_tellShip_48 : decode cX4_tellShip 48 = .ok (.iaload, 1) := by decide +kernel
theorem dX4_tellShip_49 : decode cX4_tellShip 49 = .ok (.bipush 32, 2) := by decide +kernel
theorem dX4_tellShip_51 : decode cX4_tellShip 51 = .ok (.if_icmp .ne 9, 3) := by decide +kernel
theorem dX4_tellShip_54 : decode cX4_tellShip 54 = .ok (.iinc 2 1, 3) := by decide +kernel
theorem dX4_tellShip_57 : decode cX4_tellShip 57 = .ok (.goto 23, 3) := by decide +kernel
theorem dX4_tellShip_60 : decode cX4_tellShip 60 = .ok (.aload_n 0, 1) := by decide +kernel
theorem dX4_tellShip_61 : decode cX4_tellShip 61 = .ok (.aload_n 1, 1) := by decide +kernel
theorem dX4_tellShip_62 : decode cX4_tellShip 62 = .ok (.iload_n 2, 1) := by decide +kernel
theorem dX4_tellShip_63 : decode cX4_tellShip 63 = .ok (.invokevirtual 41, 3) := by decide +kernel
theorem dX4_tellShip_66 : decode cX4_tellShip 66 = .ok (.ifCond .ne 8, 3) := by decide +kernel
theorem dX4_tellShip_69 : decode cX4_tellShip 69 = .ok (.bipush (-10), 2) := by decide +kernel
theorem dX4_tellShip_71 : decode cX4_tellShip 71 = .ok (.iload_n 2, 1) := by decide +kernel
theorem dX4_tellShip_72 : decode cX4_tellShip 72 = .ok (.isub, 1) := by decide +kernel
theorem dX4_tellShip_73 : decode cX4_tellShip 73 = .ok (.ireturn, 1) := by decide +kernel
theorem dX4_tellShip_74 : decode cX4_tellShip 74 = .ok (.aload_n 0, 1) := by decide +kernel
theorem dX4_tellShip_75 : decode cX4_tellShip 75 = .ok (.iload_n 2, 1) := by decide +kernel
theorem dX4_tellShip_76 : decode cX4_tellShip 76 = .ok (.invokevirtual 45, 3) := by decide +kernel
theorem dX4_tellShip_79 : decode cX4_tellShip 79 = .ok (.istore_n 2, 1) := by decide +kernel
theorem dX4_tellShip_80 : decode cX4_tellShip 80 = .ok (.iinc 3 1, 3) := by decide +kernel
theorem dX4_tellShip_83 : decode cX4_tellShip 83 = .ok (.goto (-55), 3) := by decide +kernel
theorem dX4_tellShip_86 : decode cX4_tellShip 86 = .ok (.aload_n 0, 1) := by decide +kernel
theorem dX4_tellShip_87 : decode cX4_tellShip 87 = .ok (.getfield 17, 3) := by decide +kernel
theorem dX4_tellShip_90 : decode cX4_tellShip 90 = .ok (.ifCond .ne 10, 3) := by decide +kernel
theorem dX4_tellShip_93 : decode cX4_tellShip 93 = .ok (.aload_n 0, 1) := by decide +kernel
theorem dX4_tellShip_94 : decode cX4_tellShip 94 = .ok (.getfield 26, 3) := by decide +kernel
theorem dX4_tellShip_97 : decode cX4_tellShip 97 = .ok (.goto 10, 3) := by decide +kernel
theorem dX4_tellShip_100 : decode cX4_tellShip 100 = .ok (.bipush (-10), 2) := by decide +kernel
theorem dX4_tellShip_102 : decode cX4_tellShip 102 = .ok (.aload_n 0, 1) := by decide +kernel
theorem dX4_tellShip_103 : decode cX4_tellShip 103 = .ok (.getfield 13, 3) := by decide +kernel
theorem dX4_tellShip_106 : decode cX4_tellShip 106 = .ok (.isub, 1) := by decide +kernel
theorem dX4_tellShip_107 : decode cX4_tellShip 107 = .ok (.ireturn, 1) := by decide +kernel
theorem dX4_takesToken_0 : decode cX4_takesToken 0 = .ok (.aload_n 0, 1) := by decide +kernel
theorem dX4_takesToken_1 : decode cX4_takesToken 1 = .ok (.getfield 9, 3) := by decide +kernel
theorem dX4_takesToken_4 : decode cX4_takesToken 4 = .ok (.iload_n 2, 1) := by decide +kernel
theorem dX4_takesToken_5 : decode cX4_takesToken 5 = .ok (.iaload, 1) := by decide +kernel
theorem dX4_takesToken_6 : decode cX4_takesToken 6 = .ok (.istore_n 3, 1) := by decide +kernel
theorem dX4_takesToken_7 : decode cX4_takesToken 7 = .ok (.aload_n 0, 1) := by decide +kernel
theorem dX4_takesToken_8 : decode cX4_takesToken 8 = .ok (.getfield 17, 3) := by decide +kernel
theorem dX4_takesToken_11 : decode cX4_takesToken 11 = .ok (.ifCond .ne 10, 3) := by decide +kernel
theorem dX4_takesToken_14 : decode cX4_takesToken 14 = .ok (.aload_n 0, 1) := by decide +kernel
theorem dX4_takesToken_15 : decode cX4_takesToken 15 = .ok (.aload_n 1, 1) := by decide +kernel
theorem dX4_takesToken_16 : decode cX4_takesToken 16 = .ok (.iload_n 3, 1) := by decide +kernel
theorem dX4_takesToken_17 : decode cX4_takesToken 17 = .ok (.invokevirtual 49, 3) := by decide +kernel
theorem dX4_takesToken_20 : decode cX4_takesToken 20 = .ok (.ireturn, 1) := by decide +kernel
theorem dX4_takesToken_21 : decode cX4_takesToken 21 = .ok (.aload_n 0, 1) := by decide +kernel
theorem dX4_takesToken_22 : decode cX4_takesToken 22 = .ok (.getfield 20, 3) := by decide +kernel
theorem dX4_takesToken_25 : decode cX4_takesToken 25 = .ok (.aload_n 0, 1) := by decide +kernel
theorem dX4_takesToken_26 : decode cX4_takesToken 26 = .ok (.invokevirtual 52, 3) := by decide +kernel
theorem dX4_takesToken_29 : decode cX4_takesToken 29 = .ok (.if_icmp .ge 28, 3) := by decide +kernel
theorem dX4_takesToken_32 : decode cX4_takesToken 32 = .ok (.iload_n 3, 1) := by decide +kernel
theorem dX4_takesToken_33 : decode cX4_takesToken 33 = .ok (.invokestatic 56, 3) := by decide +kernel
theorem dX4_takesToken_36 : decode cX4_takesToken 36 = .ok (.ifCond .eq 19, 3) := by decide +kernel
theorem dX4_takesToken_39 : decode cX4_takesToken 39 = .ok (.aload_n 0, 1) := by decide +kernel
theorem dX4_takesToken_40 : decode cX4_takesToken 40 = .ok (.aload_n 0, 1) := by decide +kernel
theorem dX4_takesToken_41 : decode cX4_takesToken 41 = .ok (.iload_n 2, 1) := by decide +kernel
theorem dX4_takesToken_42 : decode cX4_takesToken 42 = .ok (.invokevirtual 60, 3) := by decide +kernel
theorem dX4_takesToken_45 : decode cX4_takesToken 45 = .ok (.invokevirtual 63, 3) := by decide +kernel
theorem dX4_takesToken_48 : decode cX4_takesToken 48 = .ok (.ifCond .eq 7, 3) := by decide +kernel
theorem dX4_takesToken_51 : decode cX4_takesToken 51 = .ok (.iconst 1, 1) := by decide +kernel
theorem dX4_takesToken_52 : decode cX4_takesToken 52 = .ok (.goto 4, 3) := by decide +kernel
theorem dX4_takesToken_55 : decode cX4_takesToken 55 = .ok (.iconst 0, 1) := by decide +kernel
theorem dX4_takesToken_56 : decode cX4_takesToken 56 = .ok (.ireturn, 1) := by decide +kernel
theorem dX4_takesToken_57 : decode cX4_takesToken 57 = .ok (.iload_n 3, 1) := by decide +kernel
theorem dX4_takesToken_58 : decode cX4_takesToken 58 = .ok (.bipush 59, 2) := by decide +kernel
theorem dX4_takesToken_60 : decode cX4_takesToken 60 = .ok (.if_icmp .eq 5, 3) := by decide +kernel
theorem dX4_takesToken_63 : decode cX4_takesToken 63 = .ok (.iconst 0, 1) := by decide +kernel
theorem dX4_takesToken_64 : decode cX4_takesToken 64 = .ok (.ireturn, 1) := by decide +kernel
theorem dX4_takesToken_65 : decode cX4_takesToken 65 = .ok (.aload_n 0, 1) := by decide +kernel
theorem dX4_takesToken_66 : decode cX4_takesToken 66 = .ok (.aload_n 1, 1) := by decide +kernel
theorem dX4_takesToken_67 : decode cX4_takesToken 67 = .ok (.invokevirtual 66, 3) := by decide +kernel
theorem dX4_takesToken_70 : decode cX4_takesToken 70 = .ok (.iconst 1, 1) := by decide +kernel
theorem dX4_takesToken_71 : decode cX4_takesToken 71 = .ok (.ireturn, 1) := by decide +kernel
theorem dX4_beginsItem_0 : decode cX4_beginsItem 0 = .ok (.iload_n 2, 1) := by decide +kernel
theorem dX4_beginsItem_1 : decode cX4_beginsItem 1 = .ok (.bipush 108, 2) := by decide +kernel
theorem dX4_beginsItem_3 : decode cX4_beginsItem 3 = .ok (.if_icmp .ne 13, 3) := by decide +kernel
theorem dX4_beginsItem_6 : decode cX4_beginsItem 6 = .ok (.aload_n 1, 1) := by decide +kernel
theorem dX4_beginsItem_7 : decode cX4_beginsItem 7 = .ok (.iconst 0, 1) := by decide +kernel
theorem dX4_beginsItem_8 : decode cX4_beginsItem 8 = .ok (.invokevirtual 70, 3) := by decide +kernel
theorem dX4_beginsItem_11 : decode cX4_beginsItem 11 = .ok (.bipush 6, 2) := by decide +kernel
theorem dX4_beginsItem_13 : decode cX4_beginsItem 13 = .ok (.if_icmp .lt 29, 3) := by decide +kernel
theorem dX4_beginsItem_16 : decode cX4_beginsItem 16 = .ok (.iload_n 2, 1) := by decide +kernel
theorem dX4_beginsItem_17 : decode cX4_beginsItem 17 = .ok (.bipush 118, 2) := by decide +kernel
theorem dX4_beginsItem_19 : decode cX4_beginsItem 19 = .ok (.if_icmp .ne 10, 3) := by decide +kernel
theorem dX4_beginsItem_22 : decode cX4_beginsItem 22 = .ok (.aload_n 0, 1) := by decide +kernel
theorem dX4_beginsItem_23 : decode cX4_beginsItem 23 = .ok (.getfield 29, 3) := by decide +kernel
theorem dX4_beginsItem_26 : decode cX4_beginsItem 26 = .ok (.ifCond .eq 16, 3) := by decide +kernel
theorem dX4_beginsItem_29 : decode cX4_beginsItem 29 = .ok (.iload_n 2, 1) := by decide +kernel
theorem dX4_beginsItem_30 : decode cX4_beginsItem 30 = .ok (.bipush 102, 2) := by decide +kernel
theorem dX4_beginsItem_32 : decode cX4_beginsItem 32 = .ok (.if_icmp .ne 14, 3) := by decide +kernel
theorem dX4_beginsItem_35 : decode cX4_beginsItem 35 = .ok (.aload_n 0, 1) := by decide +kernel
theorem dX4_beginsItem_36 : decode cX4_beginsItem 36 = .ok (.getfield 33, 3) := by decide +kernel
theorem dX4_beginsItem_39 : decode cX4_beginsItem 39 = .ok (.ifCond .ne 7, 3) := by decide +kernel
theorem dX4_beginsItem_42 : decode cX4_beginsItem 42 = .ok (.iconst 1, 1) := by decide +kernel
theorem dX4_beginsItem_43 : decode cX4_beginsItem 43 = .ok (.goto 4, 3) := by decide +kernel
theorem dX4_beginsItem_46 : decode cX4_beginsItem 46 = .ok (.iconst 0, 1) := by decide +kernel
theorem dX4_beginsItem_47 : decode cX4_beginsItem 47 = .ok (.istore_n 3, 1) := by decide +kernel
theorem dX4_beginsItem_48 : decode cX4_beginsItem 48 = .ok (.iload_n 3, 1) := by decide +kernel
theorem dX4_beginsItem_49 : decode cX4_beginsItem 49 = .ok (.ifCond .eq 13, 3) := by decide +kernel
theorem dX4_beginsItem_52 : decode cX4_beginsItem 52 = .ok (.aload_n 0, 1) := by decide +kernel
theorem dX4_beginsItem_53 : decode cX4_beginsItem 53 = .ok (.iload_n 2, 1) := by decide +kernel
theorem dX4_beginsItem_54 : decode cX4_beginsItem 54 = .ok (.putfield 17, 3) := by decide +kernel
theorem dX4_beginsItem_57 : decode cX4_beginsItem 57 = .ok (.aload_n 0, 1) := by decide +kernel
theorem dX4_beginsItem_58 : decode cX4_beginsItem 58 = .ok (.iconst 0, 1) := by decide +kernel
theorem dX4_beginsItem_59 : decode cX4_beginsItem 59 = .ok (.putfield 20, 3) := by decide +kernel
theorem dX4_beginsItem_62 : decode cX4_beginsItem 62 = .ok (.iload_n 3, 1) := by decide +kernel
theorem dX4_beginsItem_63 : decode cX4_beginsItem 63 = .ok (.ireturn, 1) := by decide +kernel
theorem dX4_numbersOfItem_0 : decode cX4_numbersOfItem 0 = .ok (.aload_n 0, 1) := by decide +kernel
theorem dX4_numbersOfItem_1 : decode cX4_numbersOfItem 1 = .ok (.getfield 17, 3) := by decide +kernel
theorem dX4_numbersOfItem_4 : decode cX4_numbersOfItem 4 = .ok (.bipush 118, 2) := by decide +kernel
theorem dX4_numbersOfItem_6 : decode cX4_numbersOfItem 6 = .ok (.if_icmp .ne 7, 3) := by decide +kernel
theorem dX4_numbersOfItem_9 : decode cX4_numbersOfItem 9 = .ok (.iconst 1, 1) := by decide +kernel
theorem dX4_numbersOfItem_10 : decode cX4_numbersOfItem 10 = .ok (.goto 4, 3) := by decide +kernel
theorem dX4_numbersOfItem_13 : decode cX4_numbersOfItem 13 = .ok (.iconst 4, 1) := by decide +kernel
theorem dX4_numbersOfItem_14 : decode cX4_numbersOfItem 14 = .ok (.ireturn, 1) := by decide +kernel
theorem dX4_takesNumber_0 : decode cX4_takesNumber 0 = .ok (.aload_n 0, 1) := by decide +kernel
theorem dX4_takesNumber_1 : decode cX4_takesNumber 1 = .ok (.getfield 20, 3) := by decide +kernel
theorem dX4_takesNumber_4 : decode cX4_takesNumber 4 = .ok (.ifCond .lt 31, 3) := by decide +kernel
theorem dX4_takesNumber_7 : decode cX4_takesNumber 7 = .ok (.aload_n 0, 1) := by decide +kernel
theorem dX4_takesNumber_8 : decode cX4_takesNumber 8 = .ok (.getfield 20, 3) := by decide +kernel
theorem dX4_takesNumber_11 : decode cX4_takesNumber 11 = .ok (.aload_n 0, 1) := by decide +kernel
theorem dX4_takesNumber_12 : decode cX4_takesNumber 12 = .ok (.getfield 23, 3) := by decide +kernel
theorem dX4_takesNumber_15 : decode cX4_takesNumber 15 = .ok (.arraylength, 1) := by decide +kernel
theorem dX4_takesNumber_16 : decode cX4_takesNumber 16 = .ok (.if_icmp .ge 19, 3) := by decide +kernel
theorem dX4_takesNumber_19 : decode cX4_takesNumber 19 = .ok (.iload_n 1, 1) := by decide +kernel
theorem dX4_takesNumber_20 : decode cX4_takesNumber 20 = .ok (.aload_n 0, 1) := by decide +kernel
theorem dX4_takesNumber_21 : decode cX4_takesNumber 21 = .ok (.invokevirtual 73, 3) := by decide +kernel
theorem dX4_takesNumber_24 : decode cX4_takesNumber 24 = .ok (.if_icmp .lt 11, 3) := by decide +kernel
theorem dX4_takesNumber_27 : decode cX4_takesNumber 27 = .ok (.iload_n 1, 1) := by decide +kernel
theorem dX4_takesNumber_28 : decode cX4_takesNumber 28 = .ok (.aload_n 0, 1) := by decide +kernel
theorem dX4_takesNumber_29 : decode cX4_takesNumber 29 = .ok (.invokevirtual 76, 3) := by decide +kernel
theorem dX4_takesNumber_32 : decode cX4_takesNumber 32 = .ok (.if_icmp .le 5, 3) := by decide +kernel
theorem dX4_takesNumber_35 : decode cX4_takesNumber 35 = .ok (.iconst 0, 1) := by decide +kernel
theorem dX4_takesNumber_36 : decode cX4_takesNumber 36 = .ok (.ireturn, 1) := by decide +kernel
theorem dX4_takesNumber_37 : decode cX4_takesNumber 37 = .ok (.aload_n 0, 1) := by decide +kernel
theorem dX4_takesNumber_38 : decode cX4_takesNumber 38 = .ok (.getfield 23, 3) := by decide +kernel
theorem dX4_takesNumber_41 : decode cX4_takesNumber 41 = .ok (.aload_n 0, 1) := by decide +kernel
theorem dX4_takesNumber_42 : decode cX4_takesNumber 42 = .ok (.getfield 20, 3) := by decide +kernel
theorem dX4_takesNumber_45 : decode cX4_takesNumber 45 = .ok (.iload_n 1, 1) := by decide +kernel
theorem dX4_takesNumber_46 : decode cX4_takesNumber 46 = .ok (.iastore, 1) := by decide +kernel
theorem dX4_takesNumber_47 : decode cX4_takesNumber 47 = .ok (.aload_n 0, 1) := by decide +kernel
theorem dX4_takesNumber_48 : decode cX4_takesNumber 48 = .ok (.dup, 1) := by decide +kernel
theorem dX4_takesNumber_49 : decode cX4_takesNumber 49 = .ok (.getfield 20, 3) := by decide +kernel
theorem dX4_takesNumber_52 : decode cX4_takesNumber 52 = .ok (.iconst 1, 1) := by decide +kernel
theorem dX4_takesNumber_53 : decode cX4_takesNumber 53 = .ok (.iadd, 1) := by decide +kernel
theorem dX4_takesNumber_54 : decode cX4_takesNumber 54 = .ok (.putfield 20, 3) := by decide +kernel
theorem dX4_takesNumber_57 : decode cX4_takesNumber 57 = .ok (.iconst 1, 1) := by decide +kernel
theorem dX4_takesNumber_58 : decode cX4_takesNumber 58 = .ok (.ireturn, 1) := by decide +kernel
theorem dX4_least_0 : decode cX4_least 0 = .ok (.aload_n 0, 1) := by decide +kernel
theorem dX4_least_1 : decode cX4_least 1 = .ok (.getfield 17, 3) := by decide +kernel
theorem dX4_least_4 : decode cX4_least 4 = .ok (.bipush 118, 2) := by decide +kernel
theorem dX4_least_6 : decode cX4_least 6 = .ok (.if_icmp .ne 5, 3) := by decide +kernel
theorem dX4_least_9 : decode cX4_least 9 = .ok (.iconst 1, 1) := by decide +kernel
theorem dX4_least_10 : decode cX4_least 10 = .ok (.ireturn, 1) := by decide +kernel
theorem dX4_least_11 : decode cX4_least 11 = .ok (.aload_n 0, 1) := by decide +kernel
theorem dX4_least_12 : decode cX4_least 12 = .ok (.getfield 17, 3) := by decide +kernel
theorem dX4_least_15 : decode cX4_least 15 = .ok (.bipush 108, 2) := by decide +kernel
theorem dX4_least_17 : decode cX4_least 17 = .ok (.if_icmp .ne 29, 3) := by decide +kernel
theorem dX4_least_20 : decode cX4_least 20 = .ok (.aload_n 0, 1) := by decide +kernel
theorem dX4_least_21 : decode cX4_least 21 = .ok (.getfield 20, 3) := by decide +kernel
theorem dX4_least_24 : decode cX4_least 24 = .ok (.iconst 3, 1) := by decide +kernel
theorem dX4_least_25 : decode cX4_least 25 = .ok (.if_icmp .ne 12, 3) := by decide +kernel
theorem dX4_least_28 : decode cX4_least 28 = .ok (.aload_n 0, 1) := by decide +kernel
theorem dX4_least_29 : decode cX4_least 29 = .ok (.getfield 23, 3) := by decide +kernel
theorem dX4_least_32 : decode cX4_least 32 = .ok (.iconst 2, 1) := by decide +kernel
theorem dX4_least_33 : decode cX4_least 33 = .ok (.iaload, 1) := by decide +kernel
theorem dX4_least_34 : decode cX4_least 34 = .ok (.goto 11, 3) := by decide +kernel
theorem dX4_least_37 : decode cX4_least 37 = .ok (.getstatic 79, 3) := by decide +kernel
theorem dX4_least_40 : decode cX4_least 40 = .ok (.aload_n 0, 1) := by decide +kernel
theorem dX4_least_41 : decode cX4_least 41 = .ok (.getfield 20, 3) := by decide +kernel
theorem dX4_least_44 : decode cX4_least 44 = .ok (.iaload, 1) := by decide +kernel
theorem dX4_least_45 : decode cX4_least 45 = .ok (.ireturn, 1) := by decide +kernel
theorem dX4_least_46 : decode cX4_least 46 = .ok (.aload_n 0, 1) := by decide +kernel
theorem dX4_least_47 : decode cX4_least 47 = .ok (.getfield 20, 3) := by decide +kernel
theorem dX4_least_50 : decode cX4_least 50 = .ok (.ifCond .ne 5, 3) := by decide +kernel
theorem dX4_least_53 : decode cX4_least 53 = .ok (.iconst 0, 1) := by decide +kernel
theorem dX4_least_54 : decode cX4_least 54 = .ok (.ireturn, 1) := by decide +kernel
theorem dX4_least_55 : decode cX4_least 55 = .ok (.aload_n 0, 1) := by decide +kernel
theorem dX4_least_56 : decode cX4_least 56 = .ok (.getfield 23, 3) := by decide +kernel
theorem dX4_least_59 : decode cX4_least 59 = .ok (.aload_n 0, 1) := by decide +kernel
theorem dX4_least_60 : decode cX4_least 60 = .ok (.getfield 20, 3) := by decide +kernel
theorem dX4_least_63 : decode cX4_least 63 = .ok (.iconst 1, 1) := by decide +kernel
theorem dX4_least_64 : decode cX4_least 64 = .ok (.isub, 1) := by decide +kernel
theorem dX4_least_65 : decode cX4_least 65 = .ok (.iaload, 1) := by decide +kernel
theorem dX4_least_66 : decode cX4_least 66 = .ok (.istore_n 1, 1) := by decide +kernel
theorem dX4_least_67 : decode cX4_least 67 = .ok (.aload_n 0, 1) := by decide +kernel
theorem dX4_least_68 : decode cX4_least 68 = .ok (.getfield 20, 3) := by decide +kernel
theorem dX4_least_71 : decode cX4_least 71 = .ok (.iconst 1, 1) := by decide +kernel
theorem dX4_least_72 : decode cX4_least 72 = .ok (.if_icmp .ne 7, 3) := by decide +kernel
theorem dX4_least_75 : decode cX4_least 75 = .ok (.iload_n 1, 1) := by decide +kernel
theorem dX4_least_76 : decode cX4_least 76 = .ok (.goto 18, 3) := by decide +kernel
theorem dX4_least_79 : decode cX4_least 79 = .ok (.iload_n 1, 1) := by decide +kernel
theorem dX4_least_80 : decode cX4_least 80 = .ok (.iload_n 1, 1) := by decide +kernel
theorem dX4_least_81 : decode cX4_least 81 = .ok (.iadd, 1) := by decide +kernel
theorem dX4_least_82 : decode cX4_least 82 = .ok (.aload_n 0, 1) := by decide +kernel
theorem dX4_least_83 : decode cX4_least 83 = .ok (.getfield 23, 3) := by decide +kernel
theorem dX4_least_86 : decode cX4_least 86 = .ok (.aload_n 0, 1) := by decide +kernel
theorem dX4_least_87 : decode cX4_least 87 = .ok (.getfield 20, 3) := by decide +kernel
theorem dX4_least_90 : decode cX4_least 90 = .ok (.iconst 2, 1) := by decide +kernel
theorem dX4_least_91 : decode cX4_least 91 = .ok (.isub, 1) := by decide +kernel
theorem dX4_least_92 : decode cX4_least 92 = .ok (.iaload, 1) := by decide +kernel
theorem dX4_least_93 : decode cX4_least 93 = .ok (.isub, 1) := by decide +kernel
theorem dX4_least_94 : decode cX4_least 94 = .ok (.ireturn, 1) := by decide +kernel
theorem dX4_greatest_0 : decode cX4_greatest 0 = .ok (.aload_n 0, 1) := by decide +kernel
theorem dX4_greatest_1 : decode cX4_greatest 1 = .ok (.getfield 17, 3) := by decide +kernel
theorem dX4_greatest_4 : decode cX4_greatest 4 = .ok (.bipush 118, 2) := by decide +kernel
theorem dX4_greatest_6 : decode cX4_greatest 6 = .ok (.if_icmp .ne 6, 3) := by decide +kernel
theorem dX4_greatest_9 : decode cX4_greatest 9 = .ok (.bipush 60, 2) := by decide +kernel
theorem dX4_greatest_11 : decode cX4_greatest 11 = .ok (.ireturn, 1) := by decide +kernel
theorem dX4_greatest_12 : decode cX4_greatest 12 = .ok (.aload_n 0, 1) := by decide +kernel
theorem dX4_greatest_13 : decode cX4_greatest 13 = .ok (.getfield 17, 3) := by decide +kernel
theorem dX4_greatest_16 : decode cX4_greatest 16 = .ok (.bipush 108, 2) := by decide +kernel
theorem dX4_greatest_18 : decode cX4_greatest 18 = .ok (.if_icmp .ne 14, 3) := by decide +kernel
theorem dX4_greatest_21 : decode cX4_greatest 21 = .ok (.getstatic 82, 3) := by decide +kernel
theorem dX4_greatest_24 : decode cX4_greatest 24 = .ok (.aload_n 0, 1) := by decide +kernel
theorem dX4_greatest_25 : decode cX4_greatest 25 = .ok (.getfield 20, 3) := by decide +kernel
theorem dX4_greatest_28 : decode cX4_greatest 28 = .ok (.iaload, 1) := by decide +kernel
theorem dX4_greatest_29 : decode cX4_greatest 29 = .ok (.goto 6, 3) := by decide +kernel
theorem dX4_greatest_32 : decode cX4_greatest 32 = .ok (.sipush 999, 3) := by decide +kernel
theorem dX4_greatest_35 : decode cX4_greatest 35 = .ok (.ireturn, 1) := by decide +kernel
theorem dX4_endItem_0 : decode cX4_endItem 0 = .ok (.aload_n 0, 1) := by decide +kernel
theorem dX4_endItem_1 : decode cX4_endItem 1 = .ok (.getfield 17, 3) := by decide +kernel
theorem dX4_endItem_4 : decode cX4_endItem 4 = .ok (.bipush 108, 2) := by decide +kernel
theorem dX4_endItem_6 : decode cX4_endItem 6 = .ok (.if_icmp .ne 45, 3) := by decide +kernel
theorem dX4_endItem_9 : decode cX4_endItem 9 = .ok (.aload_n 1, 1) := by decide +kernel
theorem dX4_endItem_10 : decode cX4_endItem 10 = .ok (.iconst 0, 1) := by decide +kernel
theorem dX4_endItem_11 : decode cX4_endItem 11 = .ok (.invokevirtual 70, 3) := by decide +kernel
theorem dX4_endItem_14 : decode cX4_endItem 14 = .ok (.istore_n 2, 1) := by decide +kernel
theorem dX4_endItem_15 : decode cX4_endItem 15 = .ok (.iconst 0, 1) := by decide +kernel
theorem dX4_endItem_16 : decode cX4_endItem 16 = .ok (.istore_n 3, 1) := by decide +kernel
theorem dX4_endItem_17 : decode cX4_endItem 17 = .ok (.iload_n 3, 1) := by decide +kernel
theorem dX4_endItem_18 : decode cX4_endItem 18 = .ok (.iconst 4, 1) := by decide +kernel
theorem dX4_endItem_19 : decode cX4_endItem 19 = .ok (.if_icmp .ge 21, 3) := by decide +kernel
theorem dX4_endItem_22 : decode cX4_endItem 22 = .ok (.aload_n 1, 1) := by decide +kernel
theorem dX4_endItem_23 : decode cX4_endItem 23 = .ok (.iload_n 2, 1) := by decide +kernel
theorem dX4_endItem_24 : decode cX4_endItem 24 = .ok (.iload_n 3, 1) := by decide +kernel
theorem dX4_endItem_25 : decode cX4_endItem 25 = .ok (.aload_n 0, 1) := by decide +kernel
theorem dX4_endItem_26 : decode cX4_endItem 26 = .ok (.getfield 23, 3) := by decide +kernel
theorem dX4_endItem_29 : decode cX4_endItem 29 = .ok (.iload_n 3, 1) := by decide +kernel
theorem dX4_endItem_30 : decode cX4_endItem 30 = .ok (.iaload, 1) := by decide +kernel
theorem dX4_endItem_31 : decode cX4_endItem 31 = .ok (.invokevirtual 85, 3) := by decide +kernel
theorem dX4_endItem_34 : decode cX4_endItem 34 = .ok (.iinc 3 1, 3) := by decide +kernel
theorem dX4_endItem_37 : decode cX4_endItem 37 = .ok (.goto (-20), 3) := by decide +kernel
theorem dX4_endItem_40 : decode cX4_endItem 40 = .ok (.aload_n 1, 1) := by decide +kernel
theorem dX4_endItem_41 : decode cX4_endItem 41 = .ok (.iconst 0, 1) := by decide +kernel
theorem dX4_endItem_42 : decode cX4_endItem 42 = .ok (.iload_n 2, 1) := by decide +kernel
theorem dX4_endItem_43 : decode cX4_endItem 43 = .ok (.iconst 1, 1) := by decide +kernel
theorem dX4_endItem_44 : decode cX4_endItem 44 = .ok (.iadd, 1) := by decide +kernel
theorem dX4_endItem_45 : decode cX4_endItem 45 = .ok (.invokevirtual 89, 3) := by decide +kernel
theorem dX4_endItem_48 : decode cX4_endItem 48 = .ok (.goto 62, 3) := by decide +kernel
theorem dX4_endItem_51 : decode cX4_endItem 51 = .ok (.aload_n 0, 1) := by decide +kernel
theorem dX4_endItem_52 : decode cX4_endItem 52 = .ok (.getfield 17, 3) := by decide +kernel
theorem dX4_endItem_55 : decode cX4_endItem 55 = .ok (.bipush 118, 2) := by decide +kernel
theorem dX4_endItem_57 : decode cX4_endItem 57 = .ok (.if_icmp .ne 22, 3) := by decide +kernel
theorem dX4_endItem_60 : decode cX4_endItem 60 = .ok (.aload_n 1, 1) := by decide +kernel
theorem dX4_endItem_61 : decode cX4_endItem 61 = .ok (.iconst 1, 1) := by decide +kernel
theorem dX4_endItem_62 : decode cX4_endItem 62 = .ok (.aload_n 0, 1) := by decide +kernel
theorem dX4_endItem_63 : decode cX4_endItem 63 = .ok (.getfield 23, 3) := by decide +kernel
theorem dX4_endItem_66 : decode cX4_endItem 66 = .ok (.iconst 0, 1) := by decide +kernel
theorem dX4_endItem_67 : decode cX4_endItem 67 = .ok (.iaload, 1) := by decide +kernel
theorem dX4_endItem_68 : decode cX4_endItem 68 = .ok (.invokevirtual 89, 3) := by decide +kernel
theorem dX4_endItem_71 : decode cX4_endItem 71 = .ok (.aload_n 0, 1) := by decide +kernel
theorem dX4_endItem_72 : decode cX4_endItem 72 = .ok (.iconst 1, 1) := by decide +kernel
theorem dX4_endItem_73 : decode cX4_endItem 73 = .ok (.putfield 29, 3) := by decide +kernel
theorem dX4_endItem_76 : decode cX4_endItem 76 = .ok (.goto 34, 3) := by decide +kernel
theorem dX4_endItem_79 : decode cX4_endItem 79 = .ok (.iconst 0, 1) := by decide +kernel
theorem dX4_endItem_80 : decode cX4_endItem 80 = .ok (.istore_n 2, 1) := by decide +kernel
theorem dX4_endItem_81 : decode cX4_endItem 81 = .ok (.iload_n 2, 1) := by decide +kernel
theorem dX4_endItem_82 : decode cX4_endItem 82 = .ok (.iconst 4, 1) := by decide +kernel
theorem dX4_endItem_83 : decode cX4_endItem 83 = .ok (.if_icmp .ge 22, 3) := by decide +kernel
theorem dX4_endItem_86 : decode cX4_endItem 86 = .ok (.aload_n 1, 1) := by decide +kernel
theorem dX4_endItem_87 : decode cX4_endItem 87 = .ok (.iconst 5, 1) := by decide +kernel
end
section
theorem dX4_endItem_88 : decode cX4_endItem 88 = .ok (.iload_n 2, 1) := by decide +kernel
theorem dX4_endItem_89 : decode cX4_endItem 89 = .ok (.iadd, 1) := by decide +kernel
theorem dX4_endItem_90 : decode cX4_endItem 90 = .ok (.aload_n 0, 1) := by decide +kernel
theorem dX4_endItem_91 : decode cX4_endItem 91 = .ok (.getfield 23, 3) := by decide +kernel
theorem dX4_endItem_94 : decode cX4_endItem 94 = .ok (.iload_n 2, 1) := by decide +kernel
theorem dX4_endItem_95 : decode cX4_endItem 95 = .ok (.iaload, 1) := by decide +kernel
theorem dX4_endItem_96 : decode cX4_endItem 96 = .ok (.invokevirtual 89, 3) := by decide +kernel
theorem dX4_endItem_99 : decode cX4_endItem 99 = .ok (.iinc 2 1, 3) := by decide +kernel
theorem dX4_endItem_102 : decode cX4_endItem 102 = .ok (.goto (-21), 3) := by decide +kernel
theorem dX4_endItem_105 : decode cX4_endItem 105 = .ok (.aload_n 0, 1) := by decide +kernel
theorem dX4_endItem_106 : decode cX4_endItem 106 = .ok (.iconst 1, 1) := by decide +kernel
theorem dX4_endItem_107 : decode cX4_endItem 107 = .ok (.putfield 33, 3) := by decide +kernel
theorem dX4_endItem_110 : decode cX4_endItem 110 = .ok (.aload_n 0, 1) := by decide +kernel
theorem dX4_endItem_111 : decode cX4_endItem 111 = .ok (.iconst 0, 1) := by decide +kernel
theorem dX4_endItem_112 : decode cX4_endItem 112 = .ok (.putfield 17, 3) := by decide +kernel
theorem dX4_endItem_115 : decode cX4_endItem 115 = .ok (.aload_n 0, 1) := by decide +kernel
theorem dX4_endItem_116 : decode cX4_endItem 116 = .ok (.dup, 1) := by decide +kernel
theorem dX4_endItem_117 : decode cX4_endItem 117 = .ok (.getfield 26, 3) := by decide +kernel
theorem dX4_endItem_120 : decode cX4_endItem 120 = .ok (.iconst 1, 1) := by decide +kernel
theorem dX4_endItem_121 : decode cX4_endItem 121 = .ok (.iadd, 1) := by decide +kernel
theorem dX4_endItem_122 : decode cX4_endItem 122 = .ok (.putfield 26, 3) := by decide +kernel
theorem dX4_endItem_125 : decode cX4_endItem 125 = .ok (.return_, 1) := by decide +kernel
theorem dX4_tokenEnd_0 : decode cX4_tokenEnd 0 = .ok (.aload_n 0, 1) := by decide +kernel
theorem dX4_tokenEnd_1 : decode cX4_tokenEnd 1 = .ok (.getfield 9, 3) := by decide +kernel
theorem dX4_tokenEnd_4 : decode cX4_tokenEnd 4 = .ok (.iload_n 1, 1) := by decide +kernel
theorem dX4_tokenEnd_5 : decode cX4_tokenEnd 5 = .ok (.iaload, 1) := by decide +kernel
theorem dX4_tokenEnd_6 : decode cX4_tokenEnd 6 = .ok (.invokestatic 56, 3) := by decide +kernel
theorem dX4_tokenEnd_9 : decode cX4_tokenEnd 9 = .ok (.ifCond .ne 7, 3) := by decide +kernel
theorem dX4_tokenEnd_12 : decode cX4_tokenEnd 12 = .ok (.iload_n 1, 1) := by decide +kernel
theorem dX4_tokenEnd_13 : decode cX4_tokenEnd 13 = .ok (.iconst 1, 1) := by decide +kernel
theorem dX4_tokenEnd_14 : decode cX4_tokenEnd 14 = .ok (.iadd, 1) := by decide +kernel
theorem dX4_tokenEnd_15 : decode cX4_tokenEnd 15 = .ok (.ireturn, 1) := by decide +kernel
theorem dX4_tokenEnd_16 : decode cX4_tokenEnd 16 = .ok (.iload_n 1, 1) := by decide +kernel
theorem dX4_tokenEnd_17 : decode cX4_tokenEnd 17 = .ok (.istore_n 2, 1) := by decide +kernel
theorem dX4_tokenEnd_18 : decode cX4_tokenEnd 18 = .ok (.iload_n 2, 1) := by decide +kernel
theorem dX4_tokenEnd_19 : decode cX4_tokenEnd 19 = .ok (.aload_n 0, 1) := by decide +kernel
theorem dX4_tokenEnd_20 : decode cX4_tokenEnd 20 = .ok (.getfield 13, 3) := by decide +kernel
theorem dX4_tokenEnd_23 : decode cX4_tokenEnd 23 = .ok (.if_icmp .ge 23, 3) := by decide +kernel
theorem dX4_tokenEnd_26 : decode cX4_tokenEnd 26 = .ok (.aload_n 0, 1) := by decide +kernel
theorem dX4_tokenEnd_27 : decode cX4_tokenEnd 27 = .ok (.getfield 9, 3) := by decide +kernel
theorem dX4_tokenEnd_30 : decode cX4_tokenEnd 30 = .ok (.iload_n 2, 1) := by decide +kernel
theorem dX4_tokenEnd_31 : decode cX4_tokenEnd 31 = .ok (.iaload, 1) := by decide +kernel
theorem dX4_tokenEnd_32 : decode cX4_tokenEnd 32 = .ok (.invokestatic 56, 3) := by decide +kernel
theorem dX4_tokenEnd_35 : decode cX4_tokenEnd 35 = .ok (.ifCond .ne 5, 3) := by decide +kernel
theorem dX4_tokenEnd_38 : decode cX4_tokenEnd 38 = .ok (.iload_n 2, 1) := by decide +kernel
theorem dX4_tokenEnd_39 : decode cX4_tokenEnd 39 = .ok (.ireturn, 1) := by decide +kernel
theorem dX4_tokenEnd_40 : decode cX4_tokenEnd 40 = .ok (.iinc 2 1, 3) := by decide +kernel
theorem dX4_tokenEnd_43 : decode cX4_tokenEnd 43 = .ok (.goto (-25), 3) := by decide +kernel
theorem dX4_tokenEnd_46 : decode cX4_tokenEnd 46 = .ok (.aload_n 0, 1) := by decide +kernel
theorem dX4_tokenEnd_47 : decode cX4_tokenEnd 47 = .ok (.getfield 13, 3) := by decide +kernel
theorem dX4_tokenEnd_50 : decode cX4_tokenEnd 50 = .ok (.ireturn, 1) := by decide +kernel
theorem dX4_numberAt_0 : decode cX4_numberAt 0 = .ok (.aload_n 0, 1) := by decide +kernel
theorem dX4_numberAt_1 : decode cX4_numberAt 1 = .ok (.iload_n 1, 1) := by decide +kernel
theorem dX4_numberAt_2 : decode cX4_numberAt 2 = .ok (.invokevirtual 45, 3) := by decide +kernel
theorem dX4_numberAt_5 : decode cX4_numberAt 5 = .ok (.istore_n 2, 1) := by decide +kernel
theorem dX4_numberAt_6 : decode cX4_numberAt 6 = .ok (.aload_n 0, 1) := by decide +kernel
theorem dX4_numberAt_7 : decode cX4_numberAt 7 = .ok (.getfield 9, 3) := by decide +kernel
theorem dX4_numberAt_10 : decode cX4_numberAt 10 = .ok (.iload_n 1, 1) := by decide +kernel
theorem dX4_numberAt_11 : decode cX4_numberAt 11 = .ok (.iaload, 1) := by decide +kernel
theorem dX4_numberAt_12 : decode cX4_numberAt 12 = .ok (.bipush 48, 2) := by decide +kernel
theorem dX4_numberAt_14 : decode cX4_numberAt 14 = .ok (.if_icmp .ne 14, 3) := by decide +kernel
theorem dX4_numberAt_17 : decode cX4_numberAt 17 = .ok (.iload_n 2, 1) := by decide +kernel
theorem dX4_numberAt_18 : decode cX4_numberAt 18 = .ok (.iload_n 1, 1) := by decide +kernel
theorem dX4_numberAt_19 : decode cX4_numberAt 19 = .ok (.iconst 1, 1) := by decide +kernel
theorem dX4_numberAt_20 : decode cX4_numberAt 20 = .ok (.iadd, 1) := by decide +kernel
theorem dX4_numberAt_21 : decode cX4_numberAt 21 = .ok (.if_icmp .le 7, 3) := by decide +kernel
theorem dX4_numberAt_24 : decode cX4_numberAt 24 = .ok (.sipush 1000, 3) := by decide +kernel
theorem dX4_numberAt_27 : decode cX4_numberAt 27 = .ok (.ireturn, 1) := by decide +kernel
theorem dX4_numberAt_28 : decode cX4_numberAt 28 = .ok (.iconst 0, 1) := by decide +kernel
theorem dX4_numberAt_29 : decode cX4_numberAt 29 = .ok (.istore_n 3, 1) := by decide +kernel
theorem dX4_numberAt_30 : decode cX4_numberAt 30 = .ok (.iload_n 1, 1) := by decide +kernel
theorem dX4_numberAt_31 : decode cX4_numberAt 31 = .ok (.istore 4, 2) := by decide +kernel
theorem dX4_numberAt_33 : decode cX4_numberAt 33 = .ok (.iload 4, 2) := by decide +kernel
theorem dX4_numberAt_35 : decode cX4_numberAt 35 = .ok (.iload_n 2, 1) := by decide +kernel
theorem dX4_numberAt_36 : decode cX4_numberAt 36 = .ok (.if_icmp .ge 31, 3) := by decide +kernel
theorem dX4_numberAt_39 : decode cX4_numberAt 39 = .ok (.sipush 1000, 3) := by decide +kernel
theorem dX4_numberAt_42 : decode cX4_numberAt 42 = .ok (.iload_n 3, 1) := by decide +kernel
theorem dX4_numberAt_43 : decode cX4_numberAt 43 = .ok (.bipush 10, 2) := by decide +kernel
theorem dX4_numberAt_45 : decode cX4_numberAt 45 = .ok (.imul, 1) := by decide +kernel
theorem dX4_numberAt_46 : decode cX4_numberAt 46 = .ok (.aload_n 0, 1) := by decide +kernel
theorem dX4_numberAt_47 : decode cX4_numberAt 47 = .ok (.getfield 9, 3) := by decide +kernel
theorem dX4_numberAt_50 : decode cX4_numberAt 50 = .ok (.iload 4, 2) := by decide +kernel
theorem dX4_numberAt_52 : decode cX4_numberAt 52 = .ok (.iaload, 1) := by decide +kernel
theorem dX4_numberAt_53 : decode cX4_numberAt 53 = .ok (.iadd, 1) := by decide +kernel
theorem dX4_numberAt_54 : decode cX4_numberAt 54 = .ok (.bipush 48, 2) := by decide +kernel
theorem dX4_numberAt_56 : decode cX4_numberAt 56 = .ok (.isub, 1) := by decide +kernel
theorem dX4_numberAt_57 : decode cX4_numberAt 57 = .ok (.invokestatic 93, 3) := by decide +kernel
theorem dX4_numberAt_60 : decode cX4_numberAt 60 = .ok (.istore_n 3, 1) := by decide +kernel
theorem dX4_numberAt_61 : decode cX4_numberAt 61 = .ok (.iinc 4 1, 3) := by decide +kernel
theorem dX4_numberAt_64 : decode cX4_numberAt 64 = .ok (.goto (-31), 3) := by decide +kernel
theorem dX4_numberAt_67 : decode cX4_numberAt 67 = .ok (.iload_n 3, 1) := by decide +kernel
theorem dX4_numberAt_68 : decode cX4_numberAt 68 = .ok (.ireturn, 1) := by decide +kernel
theorem dX4_isFigure_0 : decode cX4_isFigure 0 = .ok (.iload_n 0, 1) := by decide +kernel
theorem dX4_isFigure_1 : decode cX4_isFigure 1 = .ok (.bipush 48, 2) := by decide +kernel
theorem dX4_isFigure_3 : decode cX4_isFigure 3 = .ok (.if_icmp .lt 13, 3) := by decide +kernel
theorem dX4_isFigure_6 : decode cX4_isFigure 6 = .ok (.iload_n 0, 1) := by decide +kernel
theorem dX4_isFigure_7 : decode cX4_isFigure 7 = .ok (.bipush 57, 2) := by decide +kernel
theorem dX4_isFigure_9 : decode cX4_isFigure 9 = .ok (.if_icmp .gt 7, 3) := by decide +kernel
theorem dX4_isFigure_12 : decode cX4_isFigure 12 = .ok (.iconst 1, 1) := by decide +kernel
theorem dX4_isFigure_13 : decode cX4_isFigure 13 = .ok (.goto 4, 3) := by decide +kernel
theorem dX4_isFigure_16 : decode cX4_isFigure 16 = .ok (.iconst 0, 1) := by decide +kernel
theorem dX4_isFigure_17 : decode cX4_isFigure 17 = .ok (.ireturn, 1) := by decide +kernel
theorem dX5_init_0 : decode cX5_init 0 = .ok (.aload_n 0, 1) := by decide +kernel
theorem dX5_init_1 : decode cX5_init 1 = .ok (.invokespecial 1, 3) := by decide +kernel
theorem dX5_init_4 : decode cX5_init 4 = .ok (.aload_n 0, 1) := by decide +kernel
theorem dX5_init_5 : decode cX5_init 5 = .ok (.new 7, 3) := by decide +kernel
theorem dX5_init_8 : decode cX5_init 8 = .ok (.dup, 1) := by decide +kernel
theorem dX5_init_9 : decode cX5_init 9 = .ok (.invokespecial 9, 3) := by decide +kernel
theorem dX5_init_12 : decode cX5_init 12 = .ok (.putfield 10, 3) := by decide +kernel
theorem dX5_init_15 : decode cX5_init 15 = .ok (.aload_n 0, 1) := by decide +kernel
theorem dX5_init_16 : decode cX5_init 16 = .ok (.new 16, 3) := by decide +kernel
theorem dX5_init_19 : decode cX5_init 19 = .ok (.dup, 1) := by decide +kernel
theorem dX5_init_20 : decode cX5_init 20 = .ok (.invokespecial 18, 3) := by decide +kernel
theorem dX5_init_23 : decode cX5_init 23 = .ok (.putfield 19, 3) := by decide +kernel
theorem dX5_init_26 : decode cX5_init 26 = .ok (.aload_n 0, 1) := by decide +kernel
theorem dX5_init_27 : decode cX5_init 27 = .ok (.iconst 2, 1) := by decide +kernel
theorem dX5_init_28 : decode cX5_init 28 = .ok (.anewarray 7, 3) := by decide +kernel
theorem dX5_init_31 : decode cX5_init 31 = .ok (.putfield 23, 3) := by decide +kernel
theorem dX5_init_34 : decode cX5_init 34 = .ok (.aload_n 0, 1) := by decide +kernel
theorem dX5_init_35 : decode cX5_init 35 = .ok (.iconst 2, 1) := by decide +kernel
theorem dX5_init_36 : decode cX5_init 36 = .ok (.newarray .boolean, 2) := by decide +kernel
theorem dX5_init_38 : decode cX5_init 38 = .ok (.putfield 27, 3) := by decide +kernel
theorem dX5_init_41 : decode cX5_init 41 = .ok (.aload_n 0, 1) := by decide +kernel
theorem dX5_init_42 : decode cX5_init 42 = .ok (.new 31, 3) := by decide +kernel
theorem dX5_init_45 : decode cX5_init 45 = .ok (.dup, 1) := by decide +kernel
theorem dX5_init_46 : decode cX5_init 46 = .ok (.invokespecial 33, 3) := by decide +kernel
theorem dX5_init_49 : decode cX5_init 49 = .ok (.putfield 34, 3) := by decide +kernel
theorem dX5_init_52 : decode cX5_init 52 = .ok (.aload_n 0, 1) := by decide +kernel
theorem dX5_init_53 : decode cX5_init 53 = .ok (.new 38, 3) := by decide +kernel
theorem dX5_init_56 : decode cX5_init 56 = .ok (.dup, 1) := by decide +kernel
theorem dX5_init_57 : decode cX5_init 57 = .ok (.invokespecial 40, 3) := by decide +kernel
theorem dX5_init_60 : decode cX5_init 60 = .ok (.putfield 41, 3) := by decide +kernel
theorem dX5_init_63 : decode cX5_init 63 = .ok (.aload_n 0, 1) := by decide +kernel
theorem dX5_init_64 : decode cX5_init 64 = .ok (.new 45, 3) := by decide +kernel
theorem dX5_init_67 : decode cX5_init 67 = .ok (.dup, 1) := by decide +kernel
theorem dX5_init_68 : decode cX5_init 68 = .ok (.invokespecial 47, 3) := by decide +kernel
theorem dX5_init_71 : decode cX5_init 71 = .ok (.putfield 48, 3) := by decide +kernel
theorem dX5_init_74 : decode cX5_init 74 = .ok (.aload_n 0, 1) := by decide +kernel
theorem dX5_init_75 : decode cX5_init 75 = .ok (.iconst 4, 1) := by decide +kernel
theorem dX5_init_76 : decode cX5_init 76 = .ok (.anewarray 45, 3) := by decide +kernel
theorem dX5_init_79 : decode cX5_init 79 = .ok (.putfield 52, 3) := by decide +kernel
theorem dX5_init_82 : decode cX5_init 82 = .ok (.aload_n 0, 1) := by decide +kernel
theorem dX5_init_83 : decode cX5_init 83 = .ok (.bipush 6, 2) := by decide +kernel
theorem dX5_init_85 : decode cX5_init 85 = .ok (.newarray .int, 2) := by decide +kernel
theorem dX5_init_87 : decode cX5_init 87 = .ok (.putfield 56, 3) := by decide +kernel
theorem dX5_init_90 : decode cX5_init 90 = .ok (.aload_n 0, 1) := by decide +kernel
theorem dX5_init_91 : decode cX5_init 91 = .ok (.bipush 6, 2) := by decide +kernel
theorem dX5_init_93 : decode cX5_init 93 = .ok (.newarray .int, 2) := by decide +kernel
theorem dX5_init_95 : decode cX5_init 95 = .ok (.putfield 60, 3) := by decide +kernel
theorem dX5_init_98 : decode cX5_init 98 = .ok (.aload_n 0, 1) := by decide +kernel
theorem dX5_init_99 : decode cX5_init 99 = .ok (.iconst 0, 1) := by decide +kernel
theorem dX5_init_100 : decode cX5_init 100 = .ok (.putfield 63, 3) := by decide +kernel
theorem dX5_init_103 : decode cX5_init 103 = .ok (.aload_n 0, 1) := by decide +kernel
theorem dX5_init_104 : decode cX5_init 104 = .ok (.iconst 4, 1) := by decide +kernel
theorem dX5_init_105 : decode cX5_init 105 = .ok (.newarray .int, 2) := by decide +kernel
theorem dX5_init_107 : decode cX5_init 107 = .ok (.putfield 67, 3) := by decide +kernel
theorem dX5_init_110 : decode cX5_init 110 = .ok (.iconst 0, 1) := by decide +kernel
theorem dX5_init_111 : decode cX5_init 111 = .ok (.istore_n 1, 1) := by decide +kernel
theorem dX5_init_112 : decode cX5_init 112 = .ok (.iload_n 1, 1) := by decide +kernel
theorem dX5_init_113 : decode cX5_init 113 = .ok (.iconst 2, 1) := by decide +kernel
theorem dX5_init_114 : decode cX5_init 114 = .ok (.if_icmp .ge 22, 3) := by decide +kernel
theorem dX5_init_117 : decode cX5_init 117 = .ok (.aload_n 0, 1) := by decide +kernel
theorem dX5_init_118 : decode cX5_init 118 = .ok (.getfield 23, 3) := by decide +kernel
theorem dX5_init_121 : decode cX5_init 121 = .ok (.iload_n 1, 1) := by decide +kernel
theorem dX5_init_122 : decode cX5_init 122 = .ok (.new 7, 3) := by decide +kernel
theorem dX5_init_125 : decode cX5_init 125 = .ok (.dup, 1) := by decide +kernel
theorem dX5_init_126 : decode cX5_init 126 = .ok (.invokespecial 9, 3) := by decide +kernel
theorem dX5_init_129 : decode cX5_init 129 = .ok (.aastore, 1) := by decide +kernel
theorem dX5_init_130 : decode cX5_init 130 = .ok (.iinc 1 1, 3) := by decide +kernel
theorem dX5_init_133 : decode cX5_init 133 = .ok (.goto (-21), 3) := by decide +kernel
theorem dX5_init_136 : decode cX5_init 136 = .ok (.iconst 0, 1) := by decide +kernel
theorem dX5_init_137 : decode cX5_init 137 = .ok (.istore_n 1, 1) := by decide +kernel
theorem dX5_init_138 : decode cX5_init 138 = .ok (.iload_n 1, 1) := by decide +kernel
theorem dX5_init_139 : decode cX5_init 139 = .ok (.iconst 4, 1) := by decide +kernel
theorem dX5_init_140 : decode cX5_init 140 = .ok (.if_icmp .ge 22, 3) := by decide +kernel
theorem dX5_init_143 : decode cX5_init 143 = .ok (.aload_n 0, 1) := by decide +kernel
theorem dX5_init_144 : decode cX5_init 144 = .ok (.getfield 52, 3) := by decide +kernel
theorem dX5_init_147 : decode cX5_init 147 = .ok (.iload_n 1, 1) := by decide +kernel
theorem dX5_init_148 : decode cX5_init 148 = .ok (.new 45, 3) := by decide +kernel
theorem dX5_init_151 : decode cX5_init 151 = .ok (.dup, 1) := by decide +kernel
theorem dX5_init_152 : decode cX5_init 152 = .ok (.invokespecial 47, 3) := by decide +kernel
theorem dX5_init_155 : decode cX5_init 155 = .ok (.aastore, 1) := by decide +kernel
theorem dX5_init_156 : decode cX5_init 156 = .ok (.iinc 1 1, 3) := by decide +kernel
theorem dX5_init_159 : decode cX5_init 159 = .ok (.goto (-21), 3) := by decide +kernel
theorem dX5_init_162 : decode cX5_init 162 = .ok (.return_, 1) := by decide +kernel
theorem dX5_type_0 : decode cX5_type 0 = .ok (.iload_n 1, 1) := by decide +kernel
theorem dX5_type_1 : decode cX5_type 1 = .ok (.ifCond .lt 10, 3) := by decide +kernel
theorem dX5_type_4 : decode cX5_type 4 = .ok (.iload_n 1, 1) := by decide +kernel
theorem dX5_type_5 : decode cX5_type 5 = .ok (.sipush 255, 3) := by decide +kernel
theorem dX5_type_8 : decode cX5_type 8 = .ok (.if_icmp .le 5, 3) := by decide +kernel
theorem dX5_type_11 : decode cX5_type 11 = .ok (.iconst (-1), 1) := by decide +kernel
theorem dX5_type_12 : decode cX5_type 12 = .ok (.ireturn, 1) := by decide +kernel
theorem dX5_type_13 : decode cX5_type 13 = .ok (.aload_n 0, 1) := by decide +kernel
theorem dX5_type_14 : decode cX5_type 14 = .ok (.getfield 34, 3) := by decide +kernel
theorem dX5_type_17 : decode cX5_type 17 = .ok (.iload_n 1, 1) := by decide +kernel
theorem dX5_type_18 : decode cX5_type 18 = .ok (.invokevirtual 70, 3) := by decide +kernel
theorem dX5_type_21 : decode cX5_type 21 = .ok (.ifCond .eq 13, 3) := by decide +kernel
theorem dX5_type_24 : decode cX5_type 24 = .ok (.aload_n 0, 1) := by decide +kernel
theorem dX5_type_25 : decode cX5_type 25 = .ok (.getfield 34, 3) := by decide +kernel
theorem dX5_type_28 : decode cX5_type 28 = .ok (.invokevirtual 74, 3) := by decide +kernel
theorem dX5_type_31 : decode cX5_type 31 = .ok (.goto 5, 3) := by decide +kernel
theorem dX5_type_34 : decode cX5_type 34 = .ok (.bipush (-3), 2) := by decide +kernel
theorem dX5_type_36 : decode cX5_type 36 = .ok (.ireturn, 1) := by decide +kernel
theorem dX5_clear_0 : decode cX5_clear 0 = .ok (.aload_n 0, 1) := by decide +kernel
theorem dX5_clear_1 : decode cX5_clear 1 = .ok (.getfield 34, 3) := by decide +kernel
theorem dX5_clear_4 : decode cX5_clear 4 = .ok (.invokevirtual 74, 3) := by decide +kernel
theorem dX5_clear_7 : decode cX5_clear 7 = .ok (.istore_n 1, 1) := by decide +kernel
theorem dX5_clear_8 : decode cX5_clear 8 = .ok (.aload_n 0, 1) := by decide +kernel
theorem dX5_clear_9 : decode cX5_clear 9 = .ok (.getfield 34, 3) := by decide +kernel
theorem dX5_clear_12 : decode cX5_clear 12 = .ok (.invokevirtual 78, 3) := by decide +kernel
theorem dX5_clear_15 : decode cX5_clear 15 = .ok (.iload_n 1, 1) := by decide +kernel
theorem dX5_clear_16 : decode cX5_clear 16 = .ok (.ireturn, 1) := by decide +kernel
theorem dX5_tells_0 : decode cX5_tells 0 = .ok (.iload_n 1, 1) := by decide +kernel
theorem dX5_tells_1 : decode cX5_tells 1 = .ok (.invokestatic 81, 3) := by decide +kernel
theorem dX5_tells_4 : decode cX5_tells 4 = .ok (.ifCond .eq 5, 3) := by decide +kernel
theorem dX5_tells_7 : decode cX5_tells 7 = .ok (.iconst (-1), 1) := by decide +kernel
theorem dX5_tells_8 : decode cX5_tells 8 = .ok (.ireturn, 1) := by decide +kernel
theorem dX5_tells_9 : decode cX5_tells 9 = .ok (.aload_n 0, 1) := by decide +kernel
theorem dX5_tells_10 : decode cX5_tells 10 = .ok (.getfield 34, 3) := by decide +kernel
theorem dX5_tells_13 : decode cX5_tells 13 = .ok (.aload_n 0, 1) := by decide +kernel
theorem dX5_tells_14 : decode cX5_tells 14 = .ok (.getfield 41, 3) := by decide +kernel
theorem dX5_tells_17 : decode cX5_tells 17 = .ok (.invokevirtual 84, 3) := by decide +kernel
theorem dX5_tells_20 : decode cX5_tells 20 = .ok (.istore_n 2, 1) := by decide +kernel
theorem dX5_tells_21 : decode cX5_tells 21 = .ok (.iload_n 2, 1) := by decide +kernel
theorem dX5_tells_22 : decode cX5_tells 22 = .ok (.ifCond .ge 5, 3) := by decide +kernel
theorem dX5_tells_25 : decode cX5_tells 25 = .ok (.iload_n 2, 1) := by decide +kernel
theorem dX5_tells_26 : decode cX5_tells 26 = .ok (.ireturn, 1) := by decide +kernel
theorem dX5_tells_27 : decode cX5_tells 27 = .ok (.aload_n 0, 1) := by decide +kernel
theorem dX5_tells_28 : decode cX5_tells 28 = .ok (.getfield 19, 3) := by decide +kernel
theorem dX5_tells_31 : decode cX5_tells 31 = .ok (.aload_n 0, 1) := by decide +kernel
theorem dX5_tells_32 : decode cX5_tells 32 = .ok (.getfield 10, 3) := by decide +kernel
theorem dX5_tells_35 : decode cX5_tells 35 = .ok (.invokevirtual 88, 3) := by decide +kernel
theorem dX5_tells_38 : decode cX5_tells 38 = .ok (.aload_n 0, 1) := by decide +kernel
theorem dX5_tells_39 : decode cX5_tells 39 = .ok (.getfield 10, 3) := by decide +kernel
theorem dX5_tells_42 : decode cX5_tells 42 = .ok (.getfield 92, 3) := by decide +kernel
theorem dX5_tells_45 : decode cX5_tells 45 = .ok (.iload_n 1, 1) := by decide +kernel
theorem dX5_tells_46 : decode cX5_tells 46 = .ok (.aaload, 1) := by decide +kernel
theorem dX5_tells_47 : decode cX5_tells 47 = .ok (.aload_n 0, 1) := by decide +kernel
theorem dX5_tells_48 : decode cX5_tells 48 = .ok (.getfield 41, 3) := by decide +kernel
theorem dX5_tells_51 : decode cX5_tells 51 = .ok (.invokevirtual 96, 3) := by decide +kernel
theorem dX5_tells_54 : decode cX5_tells 54 = .ok (.aload_n 0, 1) := by decide +kernel
theorem dX5_tells_55 : decode cX5_tells 55 = .ok (.getfield 34, 3) := by decide +kernel
theorem dX5_tells_58 : decode cX5_tells 58 = .ok (.invokevirtual 78, 3) := by decide +kernel
theorem dX5_tells_61 : decode cX5_tells 61 = .ok (.iload_n 2, 1) := by decide +kernel
theorem dX5_tells_62 : decode cX5_tells 62 = .ok (.ireturn, 1) := by decide +kernel
theorem dX5_sails_0 : decode cX5_sails 0 = .ok (.iload_n 1, 1) := by decide +kernel
theorem dX5_sails_1 : decode cX5_sails 1 = .ok (.invokestatic 81, 3) := by decide +kernel
theorem dX5_sails_4 : decode cX5_sails 4 = .ok (.ifCond .eq 5, 3) := by decide +kernel
theorem dX5_sails_7 : decode cX5_sails 7 = .ok (.iconst (-1), 1) := by decide +kernel
theorem dX5_sails_8 : decode cX5_sails 8 = .ok (.ireturn, 1) := by decide +kernel
theorem dX5_sails_9 : decode cX5_sails 9 = .ok (.aload_n 0, 1) := by decide +kernel
theorem dX5_sails_10 : decode cX5_sails 10 = .ok (.getfield 10, 3) := by decide +kernel
theorem dX5_sails_13 : decode cX5_sails 13 = .ok (.getfield 92, 3) := by decide +kernel
theorem dX5_sails_16 : decode cX5_sails 16 = .ok (.iload_n 1, 1) := by decide +kernel
theorem dX5_sails_17 : decode cX5_sails 17 = .ok (.aaload, 1) := by decide +kernel
theorem dX5_sails_18 : decode cX5_sails 18 = .ok (.astore_n 2, 1) := by decide +kernel
theorem dX5_sails_19 : decode cX5_sails 19 = .ok (.aload_n 0, 1) := by decide +kernel
theorem dX5_sails_20 : decode cX5_sails 20 = .ok (.iload_n 1, 1) := by decide +kernel
theorem dX5_sails_21 : decode cX5_sails 21 = .ok (.invokevirtual 100, 3) := by decide +kernel
theorem dX5_sails_24 : decode cX5_sails 24 = .ok (.astore_n 3, 1) := by decide +kernel
theorem dX5_sails_25 : decode cX5_sails 25 = .ok (.aload_n 3, 1) := by decide +kernel
theorem dX5_sails_26 : decode cX5_sails 26 = .ok (.invokevirtual 104, 3) := by decide +kernel
theorem dX5_sails_29 : decode cX5_sails 29 = .ok (.ifCond .ne 6, 3) := by decide +kernel
theorem dX5_sails_32 : decode cX5_sails 32 = .ok (.bipush (-2), 2) := by decide +kernel
theorem dX5_sails_34 : decode cX5_sails 34 = .ok (.ireturn, 1) := by decide +kernel
theorem dX5_sails_35 : decode cX5_sails 35 = .ok (.aload_n 2, 1) := by decide +kernel
theorem dX5_sails_36 : decode cX5_sails 36 = .ok (.iconst 2, 1) := by decide +kernel
theorem dX5_sails_37 : decode cX5_sails 37 = .ok (.invokevirtual 108, 3) := by decide +kernel
theorem dX5_sails_40 : decode cX5_sails 40 = .ok (.istore 4, 2) := by decide +kernel
theorem dX5_sails_42 : decode cX5_sails 42 = .ok (.iload 4, 2) := by decide +kernel
theorem dX5_sails_44 : decode cX5_sails 44 = .ok (.iconst 1, 1) := by decide +kernel
theorem dX5_sails_45 : decode cX5_sails 45 = .ok (.iadd, 1) := by decide +kernel
theorem dX5_sails_46 : decode cX5_sails 46 = .ok (.istore 5, 2) := by decide +kernel
theorem dX5_sails_48 : decode cX5_sails 48 = .ok (.aload_n 3, 1) := by decide +kernel
theorem dX5_sails_49 : decode cX5_sails 49 = .ok (.iload 5, 2) := by decide +kernel
theorem dX5_sails_51 : decode cX5_sails 51 = .ok (.invokevirtual 112, 3) := by decide +kernel
theorem dX5_sails_54 : decode cX5_sails 54 = .ok (.aload_n 2, 1) := by decide +kernel
theorem dX5_sails_55 : decode cX5_sails 55 = .ok (.iload 4, 2) := by decide +kernel
theorem dX5_sails_57 : decode cX5_sails 57 = .ok (.iconst 1, 1) := by decide +kernel
theorem dX5_sails_58 : decode cX5_sails 58 = .ok (.invokevirtual 115, 3) := by decide +kernel
theorem dX5_sails_61 : decode cX5_sails 61 = .ok (.iadd, 1) := by decide +kernel
theorem dX5_sails_62 : decode cX5_sails 62 = .ok (.istore 6, 2) := by decide +kernel
theorem dX5_sails_64 : decode cX5_sails 64 = .ok (.aload_n 2, 1) := by decide +kernel
theorem dX5_sails_65 : decode cX5_sails 65 = .ok (.iconst 4, 1) := by decide +kernel
theorem dX5_sails_66 : decode cX5_sails 66 = .ok (.invokevirtual 108, 3) := by decide +kernel
theorem dX5_sails_69 : decode cX5_sails 69 = .ok (.aload_n 3, 1) := by decide +kernel
theorem dX5_sails_70 : decode cX5_sails 70 = .ok (.iload 4, 2) := by decide +kernel
theorem dX5_sails_72 : decode cX5_sails 72 = .ok (.invokevirtual 119, 3) := by decide +kernel
theorem dX5_sails_75 : decode cX5_sails 75 = .ok (.iadd, 1) := by decide +kernel
theorem dX5_sails_76 : decode cX5_sails 76 = .ok (.istore 7, 2) := by decide +kernel
theorem dX5_sails_78 : decode cX5_sails 78 = .ok (.aload_n 0, 1) := by decide +kernel
theorem dX5_sails_79 : decode cX5_sails 79 = .ok (.getfield 19, 3) := by decide +kernel
theorem dX5_sails_82 : decode cX5_sails 82 = .ok (.aload_n 0, 1) := by decide +kernel
theorem dX5_sails_83 : decode cX5_sails 83 = .ok (.getfield 10, 3) := by decide +kernel
theorem dX5_sails_86 : decode cX5_sails 86 = .ok (.invokevirtual 88, 3) := by decide +kernel
theorem dX5_sails_89 : decode cX5_sails 89 = .ok (.aload_n 2, 1) := by decide +kernel
theorem dX5_sails_90 : decode cX5_sails 90 = .ok (.iconst 2, 1) := by decide +kernel
theorem dX5_sails_91 : decode cX5_sails 91 = .ok (.iload 5, 2) := by decide +kernel
theorem dX5_sails_93 : decode cX5_sails 93 = .ok (.invokevirtual 122, 3) := by decide +kernel
theorem dX5_sails_96 : decode cX5_sails 96 = .ok (.aload_n 2, 1) := by decide +kernel
theorem dX5_sails_97 : decode cX5_sails 97 = .ok (.iconst 3, 1) := by decide +kernel
theorem dX5_sails_98 : decode cX5_sails 98 = .ok (.iload 6, 2) := by decide +kernel
theorem dX5_sails_100 : decode cX5_sails 100 = .ok (.invokevirtual 122, 3) := by decide +kernel
theorem dX5_sails_103 : decode cX5_sails 103 = .ok (.aload_n 2, 1) := by decide +kernel
theorem dX5_sails_104 : decode cX5_sails 104 = .ok (.iconst 4, 1) := by decide +kernel
theorem dX5_sails_105 : decode cX5_sails 105 = .ok (.iload 7, 2) := by decide +kernel
theorem dX5_sails_107 : decode cX5_sails 107 = .ok (.invokevirtual 122, 3) := by decide +kernel
theorem dX5_sails_110 : decode cX5_sails 110 = .ok (.iload 6, 2) := by decide +kernel
theorem dX5_sails_112 : decode cX5_sails 112 = .ok (.ireturn, 1) := by decide +kernel
theorem dX5_holds_0 : decode cX5_holds 0 = .ok (.iload_n 1, 1) := by decide +kernel
theorem dX5_holds_1 : decode cX5_holds 1 = .ok (.invokestatic 81, 3) := by decide +kernel
theorem dX5_holds_4 : decode cX5_holds 4 = .ok (.ifCond .ne 14, 3) := by decide +kernel
theorem dX5_holds_7 : decode cX5_holds 7 = .ok (.iload_n 2, 1) := by decide +kernel
theorem dX5_holds_8 : decode cX5_holds 8 = .ok (.iconst 1, 1) := by decide +kernel
theorem dX5_holds_9 : decode cX5_holds 9 = .ok (.if_icmp .lt 9, 3) := by decide +kernel
theorem dX5_holds_12 : decode cX5_holds 12 = .ok (.iload_n 2, 1) := by decide +kernel
theorem dX5_holds_13 : decode cX5_holds 13 = .ok (.bipush 99, 2) := by decide +kernel
theorem dX5_holds_15 : decode cX5_holds 15 = .ok (.if_icmp .le 5, 3) := by decide +kernel
theorem dX5_holds_18 : decode cX5_holds 18 = .ok (.iconst (-1), 1) := by decide +kernel
theorem dX5_holds_19 : decode cX5_holds 19 = .ok (.ireturn, 1) := by decide +kernel
theorem dX5_holds_20 : decode cX5_holds 20 = .ok (.aload_n 0, 1) := by decide +kernel
theorem dX5_holds_21 : decode cX5_holds 21 = .ok (.getfield 10, 3) := by decide +kernel
theorem dX5_holds_24 : decode cX5_holds 24 = .ok (.getfield 92, 3) := by decide +kernel
theorem dX5_holds_27 : decode cX5_holds 27 = .ok (.iload_n 1, 1) := by decide +kernel
theorem dX5_holds_28 : decode cX5_holds 28 = .ok (.aaload, 1) := by decide +kernel
theorem dX5_holds_29 : decode cX5_holds 29 = .ok (.astore_n 3, 1) := by decide +kernel
theorem dX5_holds_30 : decode cX5_holds 30 = .ok (.aload_n 3, 1) := by decide +kernel
theorem dX5_holds_31 : decode cX5_holds 31 = .ok (.iconst 3, 1) := by decide +kernel
theorem dX5_holds_32 : decode cX5_holds 32 = .ok (.invokevirtual 108, 3) := by decide +kernel
theorem dX5_holds_35 : decode cX5_holds 35 = .ok (.iload_n 2, 1) := by decide +kernel
theorem dX5_holds_36 : decode cX5_holds 36 = .ok (.iadd, 1) := by decide +kernel
theorem dX5_holds_37 : decode cX5_holds 37 = .ok (.istore 4, 2) := by decide +kernel
theorem dX5_holds_39 : decode cX5_holds 39 = .ok (.iload 4, 2) := by decide +kernel
theorem dX5_holds_41 : decode cX5_holds 41 = .ok (.sipush 9999, 3) := by decide +kernel
theorem dX5_holds_44 : decode cX5_holds 44 = .ok (.if_icmp .le 6, 3) := by decide +kernel
theorem dX5_holds_47 : decode cX5_holds 47 = .ok (.bipush (-3), 2) := by decide +kernel
theorem dX5_holds_49 : decode cX5_holds 49 = .ok (.ireturn, 1) := by decide +kernel
theorem dX5_holds_50 : decode cX5_holds 50 = .ok (.aload_n 0, 1) := by decide +kernel
theorem dX5_holds_51 : decode cX5_holds 51 = .ok (.getfield 19, 3) := by decide +kernel
theorem dX5_holds_54 : decode cX5_holds 54 = .ok (.aload_n 0, 1) := by decide +kernel
theorem dX5_holds_55 : decode cX5_holds 55 = .ok (.getfield 10, 3) := by decide +kernel
theorem dX5_holds_58 : decode cX5_holds 58 = .ok (.invokevirtual 88, 3) := by decide +kernel
theorem dX5_holds_61 : decode cX5_holds 61 = .ok (.aload_n 3, 1) := by decide +kernel
theorem dX5_holds_62 : decode cX5_holds 62 = .ok (.iconst 3, 1) := by decide +kernel
theorem dX5_holds_63 : decode cX5_holds 63 = .ok (.iload 4, 2) := by decide +kernel
theorem dX5_holds_65 : decode cX5_holds 65 = .ok (.invokevirtual 122, 3) := by decide +kernel
theorem dX5_holds_68 : decode cX5_holds 68 = .ok (.iload 4, 2) := by decide +kernel
theorem dX5_holds_70 : decode cX5_holds 70 = .ok (.ireturn, 1) := by decide +kernel
theorem dX5_moves_0 : decode cX5_moves 0 = .ok (.iload_n 1, 1) := by decide +kernel
theorem dX5_moves_1 : decode cX5_moves 1 = .ok (.invokestatic 81, 3) := by decide +kernel
theorem dX5_moves_4 : decode cX5_moves 4 = .ok (.ifCond .ne 19, 3) := by decide +kernel
theorem dX5_moves_7 : decode cX5_moves 7 = .ok (.aload_n 0, 1) := by decide +kernel
theorem dX5_moves_8 : decode cX5_moves 8 = .ok (.getfield 10, 3) := by decide +kernel
theorem dX5_moves_11 : decode cX5_moves 11 = .ok (.getfield 92, 3) := by decide +kernel
theorem dX5_moves_14 : decode cX5_moves 14 = .ok (.iload_n 1, 1) := by decide +kernel
theorem dX5_moves_15 : decode cX5_moves 15 = .ok (.aaload, 1) := by decide +kernel
theorem dX5_moves_16 : decode cX5_moves 16 = .ok (.iload_n 2, 1) := by decide +kernel
theorem dX5_moves_17 : decode cX5_moves 17 = .ok (.invokevirtual 126, 3) := by decide +kernel
theorem dX5_moves_20 : decode cX5_moves 20 = .ok (.ifCond .ne 5, 3) := by decide +kernel
theorem dX5_moves_23 : decode cX5_moves 23 = .ok (.iconst (-1), 1) := by decide +kernel
theorem dX5_moves_24 : decode cX5_moves 24 = .ok (.ireturn, 1) := by decide +kernel
theorem dX5_moves_25 : decode cX5_moves 25 = .ok (.iload_n 3, 1) := by decide +kernel
theorem dX5_moves_26 : decode cX5_moves 26 = .ok (.ifCond .lt 17, 3) := by decide +kernel
theorem dX5_moves_29 : decode cX5_moves 29 = .ok (.iload 4, 2) := by decide +kernel
theorem dX5_moves_31 : decode cX5_moves 31 = .ok (.iload_n 3, 1) := by decide +kernel
theorem dX5_moves_32 : decode cX5_moves 32 = .ok (.if_icmp .lt 11, 3) := by decide +kernel
theorem dX5_moves_35 : decode cX5_moves 35 = .ok (.iload 4, 2) := by decide +kernel
theorem dX5_moves_37 : decode cX5_moves 37 = .ok (.sipush 999, 3) := by decide +kernel
theorem dX5_moves_40 : decode cX5_moves 40 = .ok (.if_icmp .le 5, 3) := by decide +kernel
theorem dX5_moves_43 : decode cX5_moves 43 = .ok (.iconst (-1), 1) := by decide +kernel
theorem dX5_moves_44 : decode cX5_moves 44 = .ok (.ireturn, 1) := by decide +kernel
theorem dX5_moves_45 : decode cX5_moves 45 = .ok (.aload_n 0, 1) := by decide +kernel
theorem dX5_moves_46 : decode cX5_moves 46 = .ok (.getfield 10, 3) := by decide +kernel
theorem dX5_moves_49 : decode cX5_moves 49 = .ok (.getfield 92, 3) := by decide +kernel
theorem dX5_moves_52 : decode cX5_moves 52 = .ok (.iload_n 1, 1) := by decide +kernel
theorem dX5_moves_53 : decode cX5_moves 53 = .ok (.aaload, 1) := by decide +kernel
theorem dX5_moves_54 : decode cX5_moves 54 = .ok (.astore 5, 2) := by decide +kernel
theorem dX5_moves_56 : decode cX5_moves 56 = .ok (.iload_n 2, 1) := by decide +kernel
theorem dX5_moves_57 : decode cX5_moves 57 = .ok (.iconst 1, 1) := by decide +kernel
theorem dX5_moves_58 : decode cX5_moves 58 = .ok (.isub, 1) := by decide +kernel
theorem dX5_moves_59 : decode cX5_moves 59 = .ok (.istore 6, 2) := by decide +kernel
theorem dX5_moves_61 : decode cX5_moves 61 = .ok (.aload 5, 2) := by decide +kernel
theorem dX5_moves_63 : decode cX5_moves 63 = .ok (.iload 6, 2) := by decide +kernel
theorem dX5_moves_65 : decode cX5_moves 65 = .ok (.iconst 2, 1) := by decide +kernel
theorem dX5_moves_66 : decode cX5_moves 66 = .ok (.invokevirtual 115, 3) := by decide +kernel
theorem dX5_moves_69 : decode cX5_moves 69 = .ok (.iload_n 3, 1) := by decide +kernel
theorem dX5_moves_70 : decode cX5_moves 70 = .ok (.if_icmp .ne 19, 3) := by decide +kernel
theorem dX5_moves_73 : decode cX5_moves 73 = .ok (.aload 5, 2) := by decide +kernel
theorem dX5_moves_75 : decode cX5_moves 75 = .ok (.iload 6, 2) := by decide +kernel
theorem dX5_moves_77 : decode cX5_moves 77 = .ok (.iconst 3, 1) := by decide +kernel
theorem dX5_moves_78 : decode cX5_moves 78 = .ok (.invokevirtual 115, 3) := by decide +kernel
theorem dX5_moves_81 : decode cX5_moves 81 = .ok (.iload 4, 2) := by decide +kernel
theorem dX5_moves_83 : decode cX5_moves 83 = .ok (.if_icmp .ne 6, 3) := by decide +kernel
theorem dX5_moves_86 : decode cX5_moves 86 = .ok (.bipush (-2), 2) := by decide +kernel
theorem dX5_moves_88 : decode cX5_moves 88 = .ok (.ireturn, 1) := by decide +kernel
theorem dX5_moves_89 : decode cX5_moves 89 = .ok (.aload_n 0, 1) := by decide +kernel
theorem dX5_moves_90 : decode cX5_moves 90 = .ok (.getfield 19, 3) := by decide +kernel
theorem dX5_moves_93 : decode cX5_moves 93 = .ok (.aload_n 0, 1) := by decide +kernel
theorem dX5_moves_94 : decode cX5_moves 94 = .ok (.getfield 10, 3) := by decide +kernel
theorem dX5_moves_97 : decode cX5_moves 97 = .ok (.invokevirtual 88, 3) := by decide +kernel
theorem dX5_moves_100 : decode cX5_moves 100 = .ok (.aload 5, 2) := by decide +kernel
theorem dX5_moves_102 : decode cX5_moves 102 = .ok (.iload 6, 2) := by decide +kernel
theorem dX5_moves_104 : decode cX5_moves 104 = .ok (.iconst 2, 1) := by decide +kernel
theorem dX5_moves_105 : decode cX5_moves 105 = .ok (.iload_n 3, 1) := by decide +kernel
theorem dX5_moves_106 : decode cX5_moves 106 = .ok (.invokevirtual 129, 3) := by decide +kernel
theorem dX5_moves_109 : decode cX5_moves 109 = .ok (.aload 5, 2) := by decide +kernel
theorem dX5_moves_111 : decode cX5_moves 111 = .ok (.iload 6, 2) := by decide +kernel
theorem dX5_moves_113 : decode cX5_moves 113 = .ok (.iconst 3, 1) := by decide +kernel
theorem dX5_moves_114 : decode cX5_moves 114 = .ok (.iload 4, 2) := by decide +kernel
theorem dX5_moves_116 : decode cX5_moves 116 = .ok (.invokevirtual 129, 3) := by decide +kernel
theorem dX5_moves_119 : decode cX5_moves 119 = .ok (.iconst 1, 1) := by decide +kernel
theorem dX5_moves_120 : decode cX5_moves 120 = .ok (.ireturn, 1) := by decide +kernel
theorem dX5_fastens_0 : decode cX5_fastens 0 = .ok (.iload_n 1, 1) := by decide +kernel
theorem dX5_fastens_1 : decode cX5_fastens 1 = .ok (.invokestatic 81, 3) := by decide +kernel
theorem dX5_fastens_4 : decode cX5_fastens 4 = .ok (.ifCond .ne 14, 3) := by decide +kernel
theorem dX5_fastens_7 : decode cX5_fastens 7 = .ok (.iload_n 2, 1) := by decide +kernel
theorem dX5_fastens_8 : decode cX5_fastens 8 = .ok (.iconst 1, 1) := by decide +kernel
theorem dX5_fastens_9 : decode cX5_fastens 9 = .ok (.if_icmp .lt 9, 3) := by decide +kernel
theorem dX5_fastens_12 : decode cX5_fastens 12 = .ok (.iload_n 2, 1) := by decide +kernel
theorem dX5_fastens_13 : decode cX5_fastens 13 = .ok (.bipush 60, 2) := by decide +kernel
theorem dX5_fastens_15 : decode cX5_fastens 15 = .ok (.if_icmp .le 5, 3) := by decide +kernel
theorem dX5_fastens_18 : decode cX5_fastens 18 = .ok (.iconst (-1), 1) := by decide +kernel
theorem dX5_fastens_19 : decode cX5_fastens 19 = .ok (.ireturn, 1) := by decide +kernel
theorem dX5_fastens_20 : decode cX5_fastens 20 = .ok (.aload_n 0, 1) := by decide +kernel
theorem dX5_fastens_21 : decode cX5_fastens 21 = .ok (.getfield 10, 3) := by decide +kernel
theorem dX5_fastens_24 : decode cX5_fastens 24 = .ok (.getfield 92, 3) := by decide +kernel
theorem dX5_fastens_27 : decode cX5_fastens 27 = .ok (.iload_n 1, 1) := by decide +kernel
theorem dX5_fastens_28 : decode cX5_fastens 28 = .ok (.aaload, 1) := by decide +kernel
theorem dX5_fastens_29 : decode cX5_fastens 29 = .ok (.astore_n 3, 1) := by decide +kernel
theorem dX5_fastens_30 : decode cX5_fastens 30 = .ok (.aload_n 3, 1) := by decide +kernel
theorem dX5_fastens_31 : decode cX5_fastens 31 = .ok (.iconst 1, 1) := by decide +kernel
theorem dX5_fastens_32 : decode cX5_fastens 32 = .ok (.invokevirtual 108, 3) := by decide +kernel
theorem dX5_fastens_35 : decode cX5_fastens 35 = .ok (.istore 4, 2) := by decide +kernel
theorem dX5_fastens_37 : decode cX5_fastens 37 = .ok (.iload 4, 2) := by decide +kernel
theorem dX5_fastens_39 : decode cX5_fastens 39 = .ok (.iload_n 2, 1) := by decide +kernel
theorem dX5_fastens_40 : decode cX5_fastens 40 = .ok (.if_icmp .ne 6, 3) := by decide +kernel
theorem dX5_fastens_43 : decode cX5_fastens 43 = .ok (.bipush (-2), 2) := by decide +kernel
theorem dX5_fastens_45 : decode cX5_fastens 45 = .ok (.ireturn, 1) := by decide +kernel
theorem dX5_fastens_46 : decode cX5_fastens 46 = .ok (.aload_n 0, 1) := by decide +kernel
theorem dX5_fastens_47 : decode cX5_fastens 47 = .ok (.getfield 19, 3) := by decide +kernel
theorem dX5_fastens_50 : decode cX5_fastens 50 = .ok (.aload_n 0, 1) := by decide +kernel
theorem dX5_fastens_51 : decode cX5_fastens 51 = .ok (.getfield 10, 3) := by decide +kernel
theorem dX5_fastens_54 : decode cX5_fastens 54 = .ok (.invokevirtual 88, 3) := by decide +kernel
theorem dX5_fastens_57 : decode cX5_fastens 57 = .ok (.aload_n 3, 1) := by decide +kernel
theorem dX5_fastens_58 : decode cX5_fastens 58 = .ok (.iconst 1, 1) := by decide +kernel
theorem dX5_fastens_59 : decode cX5_fastens 59 = .ok (.iload_n 2, 1) := by decide +kernel
theorem dX5_fastens_60 : decode cX5_fastens 60 = .ok (.invokevirtual 122, 3) := by decide +kernel
theorem dX5_fastens_63 : decode cX5_fastens 63 = .ok (.iload 4, 2) := by decide +kernel
theorem dX5_fastens_65 : decode cX5_fastens 65 = .ok (.ireturn, 1) := by decide +kernel
theorem dX5_undo_0 : decode cX5_undo 0 = .ok (.aload_n 0, 1) := by decide +kernel
theorem dX5_undo_1 : decode cX5_undo 1 = .ok (.getfield 19, 3) := by decide +kernel
theorem dX5_undo_4 : decode cX5_undo 4 = .ok (.invokevirtual 133, 3) := by decide +kernel
theorem dX5_undo_7 : decode cX5_undo 7 = .ok (.ifCond .ne 6, 3) := by decide +kernel
theorem dX5_undo_10 : decode cX5_undo 10 = .ok (.bipush (-2), 2) := by decide +kernel
theorem dX5_undo_12 : decode cX5_undo 12 = .ok (.ireturn, 1) := by decide +kernel
theorem dX5_undo_13 : decode cX5_undo 13 = .ok (.aload_n 0, 1) := by decide +kernel
theorem dX5_undo_14 : decode cX5_undo 14 = .ok (.getfield 19, 3) := by decide +kernel
theorem dX5_undo_17 : decode cX5_undo 17 = .ok (.aload_n 0, 1) := by decide +kernel
theorem dX5_undo_18 : decode cX5_undo 18 = .ok (.getfield 10, 3) := by decide +kernel
theorem dX5_undo_21 : decode cX5_undo 21 = .ok (.invokevirtual 136, 3) := by decide +kernel
theorem dX5_undo_24 : decode cX5_undo 24 = .ok (.aload_n 0, 1) := by decide +kernel
theorem dX5_undo_25 : decode cX5_undo 25 = .ok (.getfield 19, 3) := by decide +kernel
theorem dX5_undo_28 : decode cX5_undo 28 = .ok (.invokevirtual 133, 3) := by decide +kernel
theorem dX5_undo_31 : decode cX5_undo 31 = .ok (.ireturn, 1) := by decide +kernel
theorem dX5_ship_0 : decode cX5_ship 0 = .ok (.iload_n 1, 1) := by decide +kernel
theorem dX5_ship_1 : decode cX5_ship 1 = .ok (.invokestatic 81, 3) := by decide +kernel
theorem dX5_ship_4 : decode cX5_ship 4 = .ok (.ifCond .ne 13, 3) := by decide +kernel
theorem dX5_ship_7 : decode cX5_ship 7 = .ok (.iload_n 2, 1) := by decide +kernel
theorem dX5_ship_8 : decode cX5_ship 8 = .ok (.ifCond .lt 9, 3) := by decide +kernel
theorem dX5_ship_11 : decode cX5_ship 11 = .ok (.iload_n 2, 1) := by decide +kernel
theorem dX5_ship_12 : decode cX5_ship 12 = .ok (.bipush 9, 2) := by decide +kernel
theorem dX5_ship_14 : decode cX5_ship 14 = .ok (.if_icmp .lt 5, 3) := by decide +kernel
theorem dX5_ship_17 : decode cX5_ship 17 = .ok (.iconst (-1), 1) := by decide +kernel
theorem dX5_ship_18 : decode cX5_ship 18 = .ok (.ireturn, 1) := by decide +kernel
theorem dX5_ship_19 : decode cX5_ship 19 = .ok (.aload_n 0, 1) := by decide +kernel
theorem dX5_ship_20 : decode cX5_ship 20 = .ok (.getfield 10, 3) := by decide +kernel
theorem dX5_ship_23 : decode cX5_ship 23 = .ok (.getfield 92, 3) := by decide +kernel
theorem dX5_ship_26 : decode cX5_ship 26 = .ok (.iload_n 1, 1) := by decide +kernel
theorem dX5_ship_27 : decode cX5_ship 27 = .ok (.aaload, 1) := by decide +kernel
theorem dX5_ship_28 : decode cX5_ship 28 = .ok (.iload_n 2, 1) := by decide +kernel
theorem dX5_ship_29 : decode cX5_ship 29 = .ok (.invokevirtual 108, 3) := by decide +kernel
theorem dX5_ship_32 : decode cX5_ship 32 = .ok (.ireturn, 1) := by decide +kernel
theorem dX5_leg_0 : decode cX5_leg 0 = .ok (.iload_n 1, 1) := by decide +kernel
theorem dX5_leg_1 : decode cX5_leg 1 = .ok (.invokestatic 81, 3) := by decide +kernel
theorem dX5_leg_4 : decode cX5_leg 4 = .ok (.ifCond .ne 12, 3) := by decide +kernel
theorem dX5_leg_7 : decode cX5_leg 7 = .ok (.iload_n 3, 1) := by decide +kernel
theorem dX5_leg_8 : decode cX5_leg 8 = .ok (.ifCond .lt 8, 3) := by decide +kernel
theorem dX5_leg_11 : decode cX5_leg 11 = .ok (.iload_n 3, 1) := by decide +kernel
theorem dX5_leg_12 : decode cX5_leg 12 = .ok (.iconst 4, 1) := by decide +kernel
theorem dX5_leg_13 : decode cX5_leg 13 = .ok (.if_icmp .lt 5, 3) := by decide +kernel
theorem dX5_leg_16 : decode cX5_leg 16 = .ok (.iconst (-1), 1) := by decide +kernel
theorem dX5_leg_17 : decode cX5_leg 17 = .ok (.ireturn, 1) := by decide +kernel
theorem dX5_leg_18 : decode cX5_leg 18 = .ok (.aload_n 0, 1) := by decide +kernel
theorem dX5_leg_19 : decode cX5_leg 19 = .ok (.getfield 10, 3) := by decide +kernel
theorem dX5_leg_22 : decode cX5_leg 22 = .ok (.getfield 92, 3) := by decide +kernel
theorem dX5_leg_25 : decode cX5_leg 25 = .ok (.iload_n 1, 1) := by decide +kernel
theorem dX5_leg_26 : decode cX5_leg 26 = .ok (.aaload, 1) := by decide +kernel
theorem dX5_leg_27 : decode cX5_leg 27 = .ok (.astore 4, 2) := by decide +kernel
theorem dX5_leg_29 : decode cX5_leg 29 = .ok (.iload_n 2, 1) := by decide +kernel
theorem dX5_leg_30 : decode cX5_leg 30 = .ok (.ifCond .lt 13, 3) := by decide +kernel
theorem dX5_leg_33 : decode cX5_leg 33 = .ok (.iload_n 2, 1) := by decide +kernel
theorem dX5_leg_34 : decode cX5_leg 34 = .ok (.aload 4, 2) := by decide +kernel
theorem dX5_leg_36 : decode cX5_leg 36 = .ok (.iconst 0, 1) := by decide +kernel
theorem dX5_leg_37 : decode cX5_leg 37 = .ok (.invokevirtual 108, 3) := by decide +kernel
theorem dX5_leg_40 : decode cX5_leg 40 = .ok (.if_icmp .lt 5, 3) := by decide +kernel
theorem dX5_leg_43 : decode cX5_leg 43 = .ok (.iconst (-1), 1) := by decide +kernel
theorem dX5_leg_44 : decode cX5_leg 44 = .ok (.ireturn, 1) := by decide +kernel
theorem dX5_leg_45 : decode cX5_leg 45 = .ok (.aload 4, 2) := by decide +kernel
theorem dX5_leg_47 : decode cX5_leg 47 = .ok (.iload_n 2, 1) := by decide +kernel
theorem dX5_leg_48 : decode cX5_leg 48 = .ok (.iload_n 3, 1) := by decide +kernel
theorem dX5_leg_49 : decode cX5_leg 49 = .ok (.invokevirtual 115, 3) := by decide +kernel
theorem dX5_leg_52 : decode cX5_leg 52 = .ok (.ireturn, 1) := by decide +kernel
theorem dX5_plan_0 : decode cX5_plan 0 = .ok (.iload_n 1, 1) := by decide +kernel
theorem dX5_plan_1 : decode cX5_plan 1 = .ok (.invokestatic 81, 3) := by decide +kernel
theorem dX5_plan_4 : decode cX5_plan 4 = .ok (.ifCond .ne 12, 3) := by decide +kernel
theorem dX5_plan_7 : decode cX5_plan 7 = .ok (.iload_n 2, 1) := by decide +kernel
theorem dX5_plan_8 : decode cX5_plan 8 = .ok (.ifCond .lt 8, 3) := by decide +kernel
theorem dX5_plan_11 : decode cX5_plan 11 = .ok (.iload_n 2, 1) := by decide +kernel
theorem dX5_plan_12 : decode cX5_plan 12 = .ok (.iconst 1, 1) := by decide +kernel
theorem dX5_plan_13 : decode cX5_plan 13 = .ok (.if_icmp .le 5, 3) := by decide +kernel
theorem dX5_plan_16 : decode cX5_plan 16 = .ok (.iconst (-1), 1) := by decide +kernel
theorem dX5_plan_17 : decode cX5_plan 17 = .ok (.ireturn, 1) := by decide +kernel
theorem dX5_plan_18 : decode cX5_plan 18 = .ok (.aload_n 0, 1) := by decide +kernel
theorem dX5_plan_19 : decode cX5_plan 19 = .ok (.iload_n 1, 1) := by decide +kernel
theorem dX5_plan_20 : decode cX5_plan 20 = .ok (.invokevirtual 100, 3) := by decide +kernel
theorem dX5_plan_23 : decode cX5_plan 23 = .ok (.astore_n 3, 1) := by decide +kernel
theorem dX5_plan_24 : decode cX5_plan 24 = .ok (.aload_n 3, 1) := by decide +kernel
theorem dX5_plan_25 : decode cX5_plan 25 = .ok (.invokevirtual 104, 3) := by decide +kernel
theorem dX5_plan_28 : decode cX5_plan 28 = .ok (.ifCond .ne 6, 3) := by decide +kernel
theorem dX5_plan_31 : decode cX5_plan 31 = .ok (.bipush (-9), 2) := by decide +kernel
theorem dX5_plan_33 : decode cX5_plan 33 = .ok (.ireturn, 1) := by decide +kernel
theorem dX5_plan_34 : decode cX5_plan 34 = .ok (.iload_n 2, 1) := by decide +kernel
theorem dX5_plan_35 : decode cX5_plan 35 = .ok (.ifCond .ne 10, 3) := by decide +kernel
theorem dX5_plan_38 : decode cX5_plan 38 = .ok (.aload_n 3, 1) := by decide +kernel
theorem dX5_plan_39 : decode cX5_plan 39 = .ok (.invokevirtual 139, 3) := by decide +kernel
theorem dX5_plan_42 : decode cX5_plan 42 = .ok (.goto 7, 3) := by decide +kernel
theorem dX5_plan_45 : decode cX5_plan 45 = .ok (.aload_n 3, 1) := by decide +kernel
theorem dX5_plan_46 : decode cX5_plan 46 = .ok (.invokevirtual 142, 3) := by decide +kernel
theorem dX5_plan_49 : decode cX5_plan 49 = .ok (.ireturn, 1) := by decide +kernel
theorem dX5_time_0 : decode cX5_time 0 = .ok (.iload_n 1, 1) := by decide +kernel
theorem dX5_time_1 : decode cX5_time 1 = .ok (.invokestatic 81, 3) := by decide +kernel
theorem dX5_time_4 : decode cX5_time 4 = .ok (.ifCond .ne 28, 3) := by decide +kernel
theorem dX5_time_7 : decode cX5_time 7 = .ok (.iload_n 3, 1) := by decide +kernel
theorem dX5_time_8 : decode cX5_time 8 = .ok (.ifCond .lt 24, 3) := by decide +kernel
theorem dX5_time_11 : decode cX5_time 11 = .ok (.iload_n 3, 1) := by decide +kernel
theorem dX5_time_12 : decode cX5_time 12 = .ok (.iconst 1, 1) := by decide +kernel
theorem dX5_time_13 : decode cX5_time 13 = .ok (.if_icmp .gt 19, 3) := by decide +kernel
theorem dX5_time_16 : decode cX5_time 16 = .ok (.aload_n 0, 1) := by decide +kernel
theorem dX5_time_17 : decode cX5_time 17 = .ok (.getfield 10, 3) := by decide +kernel
theorem dX5_time_20 : decode cX5_time 20 = .ok (.getfield 92, 3) := by decide +kernel
theorem dX5_time_23 : decode cX5_time 23 = .ok (.iload_n 1, 1) := by decide +kernel
theorem dX5_time_24 : decode cX5_time 24 = .ok (.aaload, 1) := by decide +kernel
theorem dX5_time_25 : decode cX5_time 25 = .ok (.iload_n 2, 1) := by decide +kernel
theorem dX5_time_26 : decode cX5_time 26 = .ok (.invokevirtual 126, 3) := by decide +kernel
theorem dX5_time_29 : decode cX5_time 29 = .ok (.ifCond .ne 6, 3) := by decide +kernel
theorem dX5_time_32 : decode cX5_time 32 = .ok (.ldc 145, 2) := by decide +kernel
theorem dX5_time_34 : decode cX5_time 34 = .ok (.ireturn, 1) := by decide +kernel
theorem dX5_time_35 : decode cX5_time 35 = .ok (.aload_n 0, 1) := by decide +kernel
theorem dX5_time_36 : decode cX5_time 36 = .ok (.iload_n 1, 1) := by decide +kernel
theorem dX5_time_37 : decode cX5_time 37 = .ok (.invokevirtual 100, 3) := by decide +kernel
theorem dX5_time_40 : decode cX5_time 40 = .ok (.astore 4, 2) := by decide +kernel
theorem dX5_time_42 : decode cX5_time 42 = .ok (.aload 4, 2) := by decide +kernel
theorem dX5_time_44 : decode cX5_time 44 = .ok (.invokevirtual 104, 3) := by decide +kernel
theorem dX5_time_47 : decode cX5_time 47 = .ok (.ifCond .ne 6, 3) := by decide +kernel
theorem dX5_time_50 : decode cX5_time 50 = .ok (.ldc 146, 2) := by decide +kernel
theorem dX5_time_52 : decode cX5_time 52 = .ok (.ireturn, 1) := by decide +kernel
theorem dX5_time_53 : decode cX5_time 53 = .ok (.aload 4, 2) := by decide +kernel
theorem dX5_time_55 : decode cX5_time 55 = .ok (.iload_n 2, 1) := by decide +kernel
theorem dX5_time_56 : decode cX5_time 56 = .ok (.invokevirtual 147, 3) := by decide +kernel
theorem dX5_time_59 : decode cX5_time 59 = .ok (.aload 4, 2) := by decide +kernel
theorem dX5_time_61 : decode cX5_time 61 = .ok (.iload_n 2, 1) := by decide +kernel
theorem dX5_time_62 : decode cX5_time 62 = .ok (.invokevirtual 150, 3) := by decide +kernel
theorem dX5_time_65 : decode cX5_time 65 = .ok (.iload_n 3, 1) := by decide +kernel
theorem dX5_time_66 : decode cX5_time 66 = .ok (.invokestatic 153, 3) := by decide +kernel
theorem dX5_time_69 : decode cX5_time 69 = .ok (.ireturn, 1) := by decide +kernel
theorem dX5_speed_0 : decode cX5_speed 0 = .ok (.iload_n 1, 1) := by decide +kernel
theorem dX5_speed_1 : decode cX5_speed 1 = .ok (.invokestatic 81, 3) := by decide +kernel
theorem dX5_speed_4 : decode cX5_speed 4 = .ok (.ifCond .ne 28, 3) := by decide +kernel
theorem dX5_speed_7 : decode cX5_speed 7 = .ok (.iload_n 3, 1) := by decide +kernel
theorem dX5_speed_8 : decode cX5_speed 8 = .ok (.ifCond .lt 24, 3) := by decide +kernel
theorem dX5_speed_11 : decode cX5_speed 11 = .ok (.iload_n 3, 1) := by decide +kernel
theorem dX5_speed_12 : decode cX5_speed 12 = .ok (.iconst 1, 1) := by decide +kernel
theorem dX5_speed_13 : decode cX5_speed 13 = .ok (.if_icmp .gt 19, 3) := by decide +kernel
theorem dX5_speed_16 : decode cX5_speed 16 = .ok (.aload_n 0, 1) := by decide +kernel
theorem dX5_speed_17 : decode cX5_speed 17 = .ok (.getfield 10, 3) := by decide +kernel
theorem dX5_speed_20 : decode cX5_speed 20 = .ok (.getfield 92, 3) := by decide +kernel
theorem dX5_speed_23 : decode cX5_speed 23 = .ok (.iload_n 1, 1) := by decide +kernel
theorem dX5_speed_24 : decode cX5_speed 24 = .ok (.aaload, 1) := by decide +kernel
theorem dX5_speed_25 : decode cX5_speed 25 = .ok (.iload_n 2, 1) := by decide +kernel
theorem dX5_speed_26 : decode cX5_speed 26 = .ok (.invokevirtual 157, 3) := by decide +kernel
theorem dX5_speed_29 : decode cX5_speed 29 = .ok (.ifCond .ne 6, 3) := by decide +kernel
theorem dX5_speed_32 : decode cX5_speed 32 = .ok (.ldc 145, 2) := by decide +kernel
theorem dX5_speed_34 : decode cX5_speed 34 = .ok (.ireturn, 1) := by decide +kernel
theorem dX5_speed_35 : decode cX5_speed 35 = .ok (.aload_n 0, 1) := by decide +kernel
theorem dX5_speed_36 : decode cX5_speed 36 = .ok (.iload_n 1, 1) := by decide +kernel
theorem dX5_speed_37 : decode cX5_speed 37 = .ok (.invokevirtual 100, 3) := by decide +kernel
theorem dX5_speed_40 : decode cX5_speed 40 = .ok (.astore 4, 2) := by decide +kernel
theorem dX5_speed_42 : decode cX5_speed 42 = .ok (.aload 4, 2) := by decide +kernel
theorem dX5_speed_44 : decode cX5_speed 44 = .ok (.invokevirtual 104, 3) := by decide +kernel
theorem dX5_speed_47 : decode cX5_speed 47 = .ok (.ifCond .ne 6, 3) := by decide +kernel
theorem dX5_speed_50 : decode cX5_speed 50 = .ok (.ldc 146, 2) := by decide +kernel
theorem dX5_speed_52 : decode cX5_speed 52 = .ok (.ireturn, 1) := by decide +kernel
theorem dX5_speed_53 : decode cX5_speed 53 = .ok (.aload 4, 2) := by decide +kernel
theorem dX5_speed_55 : decode cX5_speed 55 = .ok (.iload_n 2, 1) := by decide +kernel
theorem dX5_speed_56 : decode cX5_speed 56 = .ok (.invokevirtual 160, 3) := by decide +kernel
theorem dX5_speed_59 : decode cX5_speed 59 = .ok (.aload 4, 2) := by decide +kernel
theorem dX5_speed_61 : decode cX5_speed 61 = .ok (.iload_n 2, 1) := by decide +kernel
theorem dX5_speed_62 : decode cX5_speed 62 = .ok (.invokevirtual 163, 3) := by decide +kernel
theorem dX5_speed_65 : decode cX5_speed 65 = .ok (.iload_n 3, 1) := by decide +kernel
theorem dX5_speed_66 : decode cX5_speed 66 = .ok (.invokestatic 153, 3) := by decide +kernel
theorem dX5_speed_69 : decode cX5_speed 69 = .ok (.ireturn, 1) := by decide +kernel
theorem dX5_closed_0 : decode cX5_closed 0 = .ok (.iload_n 1, 1) := by decide +kernel
theorem dX5_closed_1 : decode cX5_closed 1 = .ok (.invokestatic 81, 3) := by decide +kernel
theorem dX5_closed_4 : decode cX5_closed 4 = .ok (.ifCond .ne 19, 3) := by decide +kernel
theorem dX5_closed_7 : decode cX5_closed 7 = .ok (.aload_n 0, 1) := by decide +kernel
theorem dX5_closed_8 : decode cX5_closed 8 = .ok (.getfield 10, 3) := by decide +kernel
theorem dX5_closed_11 : decode cX5_closed 11 = .ok (.getfield 92, 3) := by decide +kernel
theorem dX5_closed_14 : decode cX5_closed 14 = .ok (.iload_n 1, 1) := by decide +kernel
theorem dX5_closed_15 : decode cX5_closed 15 = .ok (.aaload, 1) := by decide +kernel
theorem dX5_closed_16 : decode cX5_closed 16 = .ok (.iload_n 2, 1) := by decide +kernel
theorem dX5_closed_17 : decode cX5_closed 17 = .ok (.invokevirtual 126, 3) := by decide +kernel
theorem dX5_closed_20 : decode cX5_closed 20 = .ok (.ifCond .ne 5, 3) := by decide +kernel
theorem dX5_closed_23 : decode cX5_closed 23 = .ok (.iconst (-1), 1) := by decide +kernel
theorem dX5_closed_24 : decode cX5_closed 24 = .ok (.ireturn, 1) := by decide +kernel
theorem dX5_closed_25 : decode cX5_closed 25 = .ok (.aload_n 0, 1) := by decide +kernel
theorem dX5_closed_26 : decode cX5_closed 26 = .ok (.iload_n 1, 1) := by decide +kernel
theorem dX5_closed_27 : decode cX5_closed 27 = .ok (.invokevirtual 100, 3) := by decide +kernel
theorem dX5_closed_30 : decode cX5_closed 30 = .ok (.astore_n 3, 1) := by decide +kernel
theorem dX5_closed_31 : decode cX5_closed 31 = .ok (.aload_n 3, 1) := by decide +kernel
theorem dX5_closed_32 : decode cX5_closed 32 = .ok (.invokevirtual 104, 3) := by decide +kernel
theorem dX5_closed_35 : decode cX5_closed 35 = .ok (.ifCond .eq 11, 3) := by decide +kernel
theorem dX5_closed_38 : decode cX5_closed 38 = .ok (.aload_n 3, 1) := by decide +kernel
theorem dX5_closed_39 : decode cX5_closed 39 = .ok (.iload_n 2, 1) := by decide +kernel
theorem dX5_closed_40 : decode cX5_closed 40 = .ok (.invokevirtual 166, 3) := by decide +kernel
theorem dX5_closed_43 : decode cX5_closed 43 = .ok (.goto 5, 3) := by decide +kernel
theorem dX5_closed_46 : decode cX5_closed 46 = .ok (.bipush (-9), 2) := by decide +kernel
theorem dX5_closed_48 : decode cX5_closed 48 = .ok (.ireturn, 1) := by decide +kernel
theorem dX5_cost_0 : decode cX5_cost 0 = .ok (.iload_n 1, 1) := by decide +kernel
theorem dX5_cost_1 : decode cX5_cost 1 = .ok (.invokestatic 81, 3) := by decide +kernel
theorem dX5_cost_4 : decode cX5_cost 4 = .ok (.ifCond .ne 19, 3) := by decide +kernel
theorem dX5_cost_7 : decode cX5_cost 7 = .ok (.aload_n 0, 1) := by decide +kernel
theorem dX5_cost_8 : decode cX5_cost 8 = .ok (.getfield 10, 3) := by decide +kernel
theorem dX5_cost_11 : decode cX5_cost 11 = .ok (.getfield 92, 3) := by decide +kernel
theorem dX5_cost_14 : decode cX5_cost 14 = .ok (.iload_n 1, 1) := by decide +kernel
theorem dX5_cost_15 : decode cX5_cost 15 = .ok (.aaload, 1) := by decide +kernel
theorem dX5_cost_16 : decode cX5_cost 16 = .ok (.iload_n 2, 1) := by decide +kernel
theorem dX5_cost_17 : decode cX5_cost 17 = .ok (.invokevirtual 157, 3) := by decide +kernel
theorem dX5_cost_20 : decode cX5_cost 20 = .ok (.ifCond .ne 5, 3) := by decide +kernel
theorem dX5_cost_23 : decode cX5_cost 23 = .ok (.iconst (-1), 1) := by decide +kernel
theorem dX5_cost_24 : decode cX5_cost 24 = .ok (.ireturn, 1) := by decide +kernel
theorem dX5_cost_25 : decode cX5_cost 25 = .ok (.aload_n 0, 1) := by decide +kernel
theorem dX5_cost_26 : decode cX5_cost 26 = .ok (.iload_n 1, 1) := by decide +kernel
theorem dX5_cost_27 : decode cX5_cost 27 = .ok (.invokevirtual 100, 3) := by decide +kernel
theorem dX5_cost_30 : decode cX5_cost 30 = .ok (.astore_n 3, 1) := by decide +kernel
theorem dX5_cost_31 : decode cX5_cost 31 = .ok (.aload_n 3, 1) := by decide +kernel
theorem dX5_cost_32 : decode cX5_cost 32 = .ok (.invokevirtual 104, 3) := by decide +kernel
theorem dX5_cost_35 : decode cX5_cost 35 = .ok (.ifCond .eq 11, 3) := by decide +kernel
theorem dX5_cost_38 : decode cX5_cost 38 = .ok (.aload_n 3, 1) := by decide +kernel
theorem dX5_cost_39 : decode cX5_cost 39 = .ok (.iload_n 2, 1) := by decide +kernel
theorem dX5_cost_40 : decode cX5_cost 40 = .ok (.invokevirtual 119, 3) := by decide +kernel
theorem dX5_cost_43 : decode cX5_cost 43 = .ok (.goto 5, 3) := by decide +kernel
theorem dX5_cost_46 : decode cX5_cost 46 = .ok (.bipush (-9), 2) := by decide +kernel
theorem dX5_cost_48 : decode cX5_cost 48 = .ok (.ireturn, 1) := by decide +kernel
theorem dX5_slack_0 : decode cX5_slack 0 = .ok (.iload_n 1, 1) := by decide +kernel
theorem dX5_slack_1 : decode cX5_slack 1 = .ok (.invokestatic 81, 3) := by decide +kernel
theorem dX5_slack_4 : decode cX5_slack 4 = .ok (.ifCond .eq 5, 3) := by decide +kernel
theorem dX5_slack_7 : decode cX5_slack 7 = .ok (.iconst (-1), 1) := by decide +kernel
theorem dX5_slack_8 : decode cX5_slack 8 = .ok (.ireturn, 1) := by decide +kernel
theorem dX5_slack_9 : decode cX5_slack 9 = .ok (.aload_n 0, 1) := by decide +kernel
theorem dX5_slack_10 : decode cX5_slack 10 = .ok (.getfield 41, 3) := by decide +kernel
theorem dX5_slack_13 : decode cX5_slack 13 = .ok (.aload_n 0, 1) := by decide +kernel
theorem dX5_slack_14 : decode cX5_slack 14 = .ok (.getfield 10, 3) := by decide +kernel
theorem dX5_slack_17 : decode cX5_slack 17 = .ok (.getfield 92, 3) := by decide +kernel
theorem dX5_slack_20 : decode cX5_slack 20 = .ok (.iload_n 1, 1) := by decide +kernel
theorem dX5_slack_21 : decode cX5_slack 21 = .ok (.aaload, 1) := by decide +kernel
theorem dX5_slack_22 : decode cX5_slack 22 = .ok (.invokevirtual 96, 3) := by decide +kernel
theorem dX5_slack_25 : decode cX5_slack 25 = .ok (.aload_n 0, 1) := by decide +kernel
theorem dX5_slack_26 : decode cX5_slack 26 = .ok (.getfield 41, 3) := by decide +kernel
theorem dX5_slack_29 : decode cX5_slack 29 = .ok (.iconst 3, 1) := by decide +kernel
theorem dX5_slack_30 : decode cX5_slack 30 = .ok (.invokevirtual 108, 3) := by decide +kernel
theorem dX5_slack_33 : decode cX5_slack 33 = .ok (.istore_n 2, 1) := by decide +kernel
theorem dX5_slack_34 : decode cX5_slack 34 = .ok (.bipush 99, 2) := by decide +kernel
theorem dX5_slack_36 : decode cX5_slack 36 = .ok (.istore_n 3, 1) := by decide +kernel
theorem dX5_slack_37 : decode cX5_slack 37 = .ok (.iload_n 3, 1) := by decide +kernel
theorem dX5_slack_38 : decode cX5_slack 38 = .ok (.ifCond .lt 43, 3) := by decide +kernel
theorem dX5_slack_41 : decode cX5_slack 41 = .ok (.aload_n 0, 1) := by decide +kernel
theorem dX5_slack_42 : decode cX5_slack 42 = .ok (.getfield 41, 3) := by decide +kernel
theorem dX5_slack_45 : decode cX5_slack 45 = .ok (.iconst 3, 1) := by decide +kernel
theorem dX5_slack_46 : decode cX5_slack 46 = .ok (.iload_n 2, 1) := by decide +kernel
theorem dX5_slack_47 : decode cX5_slack 47 = .ok (.iload_n 3, 1) := by decide +kernel
theorem dX5_slack_48 : decode cX5_slack 48 = .ok (.iadd, 1) := by decide +kernel
theorem dX5_slack_49 : decode cX5_slack 49 = .ok (.invokevirtual 122, 3) := by decide +kernel
theorem dX5_slack_52 : decode cX5_slack 52 = .ok (.aload_n 0, 1) := by decide +kernel
theorem dX5_slack_53 : decode cX5_slack 53 = .ok (.getfield 48, 3) := by decide +kernel
theorem dX5_slack_56 : decode cX5_slack 56 = .ok (.aload_n 0, 1) := by decide +kernel
theorem dX5_slack_57 : decode cX5_slack 57 = .ok (.getfield 41, 3) := by decide +kernel
theorem dX5_slack_60 : decode cX5_slack 60 = .ok (.invokevirtual 169, 3) := by decide +kernel
theorem dX5_slack_63 : decode cX5_slack 63 = .ok (.aload_n 0, 1) := by decide +kernel
theorem dX5_slack_64 : decode cX5_slack 64 = .ok (.getfield 48, 3) := by decide +kernel
theorem dX5_slack_67 : decode cX5_slack 67 = .ok (.invokevirtual 104, 3) := by decide +kernel
theorem dX5_slack_70 : decode cX5_slack 70 = .ok (.ifCond .eq 5, 3) := by decide +kernel
theorem dX5_slack_73 : decode cX5_slack 73 = .ok (.iload_n 3, 1) := by decide +kernel
theorem dX5_slack_74 : decode cX5_slack 74 = .ok (.ireturn, 1) := by decide +kernel
theorem dX5_slack_75 : decode cX5_slack 75 = .ok (.iinc 3 (-1), 3) := by decide +kernel
theorem dX5_slack_78 : decode cX5_slack 78 = .ok (.goto (-41), 3) := by decide +kernel
theorem dX5_slack_81 : decode cX5_slack 81 = .ok (.bipush (-9), 2) := by decide +kernel
theorem dX5_slack_83 : decode cX5_slack 83 = .ok (.ireturn, 1) := by decide +kernel
theorem dX5_needs_0 : decode cX5_needs 0 = .ok (.iload_n 1, 1) := by decide +kernel
theorem dX5_needs_1 : decode cX5_needs 1 = .ok (.invokestatic 81, 3) := by decide +kernel
theorem dX5_needs_4 : decode cX5_needs 4 = .ok (.ifCond .eq 5, 3) := by decide +kernel
theorem dX5_needs_7 : decode cX5_needs 7 = .ok (.iconst (-1), 1) := by decide +kernel
theorem dX5_needs_8 : decode cX5_needs 8 = .ok (.ireturn, 1) := by decide +kernel
theorem dX5_needs_9 : decode cX5_needs 9 = .ok (.aload_n 0, 1) := by decide +kernel
theorem dX5_needs_10 : decode cX5_needs 10 = .ok (.iload_n 1, 1) := by decide +kernel
theorem dX5_needs_11 : decode cX5_needs 11 = .ok (.invokevirtual 100, 3) := by decide +kernel
theorem dX5_needs_14 : decode cX5_needs 14 = .ok (.invokevirtual 172, 3) := by decide +kernel
theorem dX5_needs_17 : decode cX5_needs 17 = .ok (.istore_n 2, 1) := by decide +kernel
theorem dX5_needs_18 : decode cX5_needs 18 = .ok (.iload_n 2, 1) := by decide +kernel
theorem dX5_needs_19 : decode cX5_needs 19 = .ok (.ifCond .ne 8, 3) := by decide +kernel
theorem dX5_needs_22 : decode cX5_needs 22 = .ok (.bipush (-9), 2) := by decide +kernel
theorem dX5_needs_24 : decode cX5_needs 24 = .ok (.goto 4, 3) := by decide +kernel
theorem dX5_needs_27 : decode cX5_needs 27 = .ok (.iload_n 2, 1) := by decide +kernel
theorem dX5_needs_28 : decode cX5_needs 28 = .ok (.ireturn, 1) := by decide +kernel
theorem dX5_eased_0 : decode cX5_eased 0 = .ok (.iload_n 1, 1) := by decide +kernel
theorem dX5_eased_1 : decode cX5_eased 1 = .ok (.invokestatic 81, 3) := by decide +kernel
theorem dX5_eased_4 : decode cX5_eased 4 = .ok (.ifCond .eq 5, 3) := by decide +kernel
theorem dX5_eased_7 : decode cX5_eased 7 = .ok (.iconst (-1), 1) := by decide +kernel
theorem dX5_eased_8 : decode cX5_eased 8 = .ok (.ireturn, 1) := by decide +kernel
theorem dX5_eased_9 : decode cX5_eased 9 = .ok (.aload_n 0, 1) := by decide +kernel
theorem dX5_eased_10 : decode cX5_eased 10 = .ok (.getfield 10, 3) := by decide +kernel
theorem dX5_eased_13 : decode cX5_eased 13 = .ok (.getfield 92, 3) := by decide +kernel
theorem dX5_eased_16 : decode cX5_eased 16 = .ok (.iload_n 1, 1) := by decide +kernel
theorem dX5_eased_17 : decode cX5_eased 17 = .ok (.aaload, 1) := by decide +kernel
theorem dX5_eased_18 : decode cX5_eased 18 = .ok (.astore_n 2, 1) := by decide +kernel
theorem dX5_eased_19 : decode cX5_eased 19 = .ok (.aload_n 0, 1) := by decide +kernel
theorem dX5_eased_20 : decode cX5_eased 20 = .ok (.iload_n 1, 1) := by decide +kernel
theorem dX5_eased_21 : decode cX5_eased 21 = .ok (.invokevirtual 100, 3) := by decide +kernel
theorem dX5_eased_24 : decode cX5_eased 24 = .ok (.astore_n 3, 1) := by decide +kernel
theorem dX5_eased_25 : decode cX5_eased 25 = .ok (.aload_n 3, 1) := by decide +kernel
theorem dX5_eased_26 : decode cX5_eased 26 = .ok (.invokevirtual 104, 3) := by decide +kernel
theorem dX5_eased_29 : decode cX5_eased 29 = .ok (.ifCond .ne 7, 3) := by decide +kernel
theorem dX5_eased_32 : decode cX5_eased 32 = .ok (.iconst 1, 1) := by decide +kernel
theorem dX5_eased_33 : decode cX5_eased 33 = .ok (.goto 4, 3) := by decide +kernel
theorem dX5_eased_36 : decode cX5_eased 36 = .ok (.iconst 0, 1) := by decide +kernel
theorem dX5_eased_37 : decode cX5_eased 37 = .ok (.istore 4, 2) := by decide +kernel
theorem dX5_eased_39 : decode cX5_eased 39 = .ok (.iload 4, 2) := by decide +kernel
theorem dX5_eased_41 : decode cX5_eased 41 = .ok (.ifCond .eq 7, 3) := by decide +kernel
theorem dX5_eased_44 : decode cX5_eased 44 = .ok (.iconst 0, 1) := by decide +kernel
theorem dX5_eased_45 : decode cX5_eased 45 = .ok (.goto 7, 3) := by decide +kernel
theorem dX5_eased_48 : decode cX5_eased 48 = .ok (.aload_n 3, 1) := by decide +kernel
theorem dX5_eased_49 : decode cX5_eased 49 = .ok (.invokevirtual 142, 3) := by decide +kernel
theorem dX5_eased_52 : decode cX5_eased 52 = .ok (.istore 5, 2) := by decide +kernel
theorem dX5_eased_54 : decode cX5_eased 54 = .ok (.bipush (-9), 2) := by decide +kernel
theorem dX5_eased_56 : decode cX5_eased 56 = .ok (.istore 6, 2) := by decide +kernel
theorem dX5_eased_58 : decode cX5_eased 58 = .ok (.aload_n 2, 1) := by decide +kernel
theorem dX5_eased_59 : decode cX5_eased 59 = .ok (.iconst 2, 1) := by decide +kernel
theorem dX5_eased_60 : decode cX5_eased 60 = .ok (.invokevirtual 108, 3) := by decide +kernel
theorem dX5_eased_63 : decode cX5_eased 63 = .ok (.iconst 1, 1) := by decide +kernel
theorem dX5_eased_64 : decode cX5_eased 64 = .ok (.iadd, 1) := by decide +kernel
theorem dX5_eased_65 : decode cX5_eased 65 = .ok (.istore 7, 2) := by decide +kernel
theorem dX5_eased_67 : decode cX5_eased 67 = .ok (.iload 7, 2) := by decide +kernel
theorem dX5_eased_69 : decode cX5_eased 69 = .ok (.aload_n 2, 1) := by decide +kernel
theorem dX5_eased_70 : decode cX5_eased 70 = .ok (.iconst 0, 1) := by decide +kernel
theorem dX5_eased_71 : decode cX5_eased 71 = .ok (.invokevirtual 108, 3) := by decide +kernel
theorem dX5_eased_74 : decode cX5_eased 74 = .ok (.if_icmp .gt 83, 3) := by decide +kernel
theorem dX5_eased_77 : decode cX5_eased 77 = .ok (.iconst 0, 1) := by decide +kernel
theorem dX5_eased_78 : decode cX5_eased 78 = .ok (.istore 8, 2) := by decide +kernel
theorem dX5_eased_80 : decode cX5_eased 80 = .ok (.iload 8, 2) := by decide +kernel
theorem dX5_eased_82 : decode cX5_eased 82 = .ok (.iconst 1, 1) := by decide +kernel
theorem dX5_eased_83 : decode cX5_eased 83 = .ok (.if_icmp .gt 68, 3) := by decide +kernel
theorem dX5_eased_86 : decode cX5_eased 86 = .ok (.aload_n 0, 1) := by decide +kernel
theorem dX5_eased_87 : decode cX5_eased 87 = .ok (.aload_n 2, 1) := by decide +kernel
theorem dX5_eased_88 : decode cX5_eased 88 = .ok (.iload 7, 2) := by decide +kernel
theorem dX5_eased_90 : decode cX5_eased 90 = .ok (.iload 8, 2) := by decide +kernel
theorem dX5_eased_92 : decode cX5_eased 92 = .ok (.invokevirtual 175, 3) := by decide +kernel
theorem dX5_eased_95 : decode cX5_eased 95 = .ok (.aload_n 0, 1) := by decide +kernel
theorem dX5_eased_96 : decode cX5_eased 96 = .ok (.getfield 48, 3) := by decide +kernel
theorem dX5_eased_99 : decode cX5_eased 99 = .ok (.invokevirtual 104, 3) := by decide +kernel
theorem dX5_eased_102 : decode cX5_eased 102 = .ok (.ifCond .ne 6, 3) := by decide +kernel
theorem dX5_eased_105 : decode cX5_eased 105 = .ok (.goto 40, 3) := by decide +kernel
theorem dX5_eased_108 : decode cX5_eased 108 = .ok (.aload_n 0, 1) := by decide +kernel
theorem dX5_eased_109 : decode cX5_eased 109 = .ok (.getfield 48, 3) := by decide +kernel
theorem dX5_eased_112 : decode cX5_eased 112 = .ok (.invokevirtual 142, 3) := by decide +kernel
theorem dX5_eased_115 : decode cX5_eased 115 = .ok (.istore 9, 2) := by decide +kernel
theorem dX5_eased_117 : decode cX5_eased 117 = .ok (.iload 4, 2) := by decide +kernel
theorem dX5_eased_119 : decode cX5_eased 119 = .ok (.ifCond .ne 10, 3) := by decide +kernel
theorem dX5_eased_122 : decode cX5_eased 122 = .ok (.iload 9, 2) := by decide +kernel
theorem dX5_eased_124 : decode cX5_eased 124 = .ok (.iload 5, 2) := by decide +kernel
theorem dX5_eased_126 : decode cX5_eased 126 = .ok (.if_icmp .ge 19, 3) := by decide +kernel
theorem dX5_eased_129 : decode cX5_eased 129 = .ok (.iconst 0, 1) := by decide +kernel
theorem dX5_eased_130 : decode cX5_eased 130 = .ok (.istore 4, 2) := by decide +kernel
theorem dX5_eased_132 : decode cX5_eased 132 = .ok (.iload 9, 2) := by decide +kernel
theorem dX5_eased_134 : decode cX5_eased 134 = .ok (.istore 5, 2) := by decide +kernel
theorem dX5_eased_136 : decode cX5_eased 136 = .ok (.iconst 2, 1) := by decide +kernel
theorem dX5_eased_137 : decode cX5_eased 137 = .ok (.iload 7, 2) := by decide +kernel
theorem dX5_eased_139 : decode cX5_eased 139 = .ok (.imul, 1) := by decide +kernel
theorem dX5_eased_140 : decode cX5_eased 140 = .ok (.iload 8, 2) := by decide +kernel
theorem dX5_eased_142 : decode cX5_eased 142 = .ok (.iadd, 1) := by decide +kernel
theorem dX5_eased_143 : decode cX5_eased 143 = .ok (.istore 6, 2) := by decide +kernel
theorem dX5_eased_145 : decode cX5_eased 145 = .ok (.iinc 8 1, 3) := by decide +kernel
theorem dX5_eased_148 : decode cX5_eased 148 = .ok (.goto (-68), 3) := by decide +kernel
theorem dX5_eased_151 : decode cX5_eased 151 = .ok (.iinc 7 1, 3) := by decide +kernel
theorem dX5_eased_154 : decode cX5_eased 154 = .ok (.goto (-87), 3) := by decide +kernel
theorem dX5_eased_157 : decode cX5_eased 157 = .ok (.iload 6, 2) := by decide +kernel
theorem dX5_eased_159 : decode cX5_eased 159 = .ok (.ireturn, 1) := by decide +kernel
theorem dX5_mile_0 : decode cX5_mile 0 = .ok (.iload_n 1, 1) := by decide +kernel
theorem dX5_mile_1 : decode cX5_mile 1 = .ok (.invokestatic 81, 3) := by decide +kernel
theorem dX5_mile_4 : decode cX5_mile 4 = .ok (.ifCond .ne 14, 3) := by decide +kernel
theorem dX5_mile_7 : decode cX5_mile 7 = .ok (.iload_n 2, 1) := by decide +kernel
theorem dX5_mile_8 : decode cX5_mile 8 = .ok (.ifCond .lt 10, 3) := by decide +kernel
theorem dX5_mile_11 : decode cX5_mile 11 = .ok (.iload_n 2, 1) := by decide +kernel
theorem dX5_mile_12 : decode cX5_mile 12 = .ok (.sipush 999, 3) := by decide +kernel
theorem dX5_mile_15 : decode cX5_mile 15 = .ok (.if_icmp .le 5, 3) := by decide +kernel
theorem dX5_mile_18 : decode cX5_mile 18 = .ok (.iconst (-1), 1) := by decide +kernel
theorem dX5_mile_19 : decode cX5_mile 19 = .ok (.ireturn, 1) := by decide +kernel
theorem dX5_mile_20 : decode cX5_mile 20 = .ok (.aload_n 0, 1) := by decide +kernel
theorem dX5_mile_21 : decode cX5_mile 21 = .ok (.iload_n 1, 1) := by decide +kernel
theorem dX5_mile_22 : decode cX5_mile 22 = .ok (.invokevirtual 100, 3) := by decide +kernel
theorem dX5_mile_25 : decode cX5_mile 25 = .ok (.iload_n 2, 1) := by decide +kernel
theorem dX5_mile_26 : decode cX5_mile 26 = .ok (.invokevirtual 179, 3) := by decide +kernel
theorem dX5_mile_29 : decode cX5_mile 29 = .ok (.ireturn, 1) := by decide +kernel
theorem dX5_sees_0 : decode cX5_sees 0 = .ok (.iload_n 1, 1) := by decide +kernel
theorem dX5_sees_1 : decode cX5_sees 1 = .ok (.ifCond .lt 21, 3) := by decide +kernel
theorem dX5_sees_4 : decode cX5_sees 4 = .ok (.iload_n 1, 1) := by decide +kernel
theorem dX5_sees_5 : decode cX5_sees 5 = .ok (.sipush 999, 3) := by decide +kernel
theorem dX5_sees_8 : decode cX5_sees 8 = .ok (.if_icmp .gt 14, 3) := by decide +kernel
theorem dX5_sees_11 : decode cX5_sees 11 = .ok (.iload_n 2, 1) := by decide +kernel
theorem dX5_sees_12 : decode cX5_sees 12 = .ok (.ifCond .lt 10, 3) := by decide +kernel
theorem dX5_sees_15 : decode cX5_sees 15 = .ok (.iload_n 2, 1) := by decide +kernel
theorem dX5_sees_16 : decode cX5_sees 16 = .ok (.sipush 999, 3) := by decide +kernel
theorem dX5_sees_19 : decode cX5_sees 19 = .ok (.if_icmp .le 5, 3) := by decide +kernel
theorem dX5_sees_22 : decode cX5_sees 22 = .ok (.iconst (-1), 1) := by decide +kernel
theorem dX5_sees_23 : decode cX5_sees 23 = .ok (.ireturn, 1) := by decide +kernel
theorem dX5_sees_24 : decode cX5_sees 24 = .ok (.aload_n 0, 1) := by decide +kernel
theorem dX5_sees_25 : decode cX5_sees 25 = .ok (.getfield 63, 3) := by decide +kernel
theorem dX5_sees_28 : decode cX5_sees 28 = .ok (.bipush 6, 2) := by decide +kernel
theorem dX5_sees_30 : decode cX5_sees 30 = .ok (.if_icmp .lt 6, 3) := by decide +kernel
theorem dX5_sees_33 : decode cX5_sees 33 = .ok (.bipush (-3), 2) := by decide +kernel
theorem dX5_sees_35 : decode cX5_sees 35 = .ok (.ireturn, 1) := by decide +kernel
theorem dX5_sees_36 : decode cX5_sees 36 = .ok (.aload_n 0, 1) := by decide +kernel
theorem dX5_sees_37 : decode cX5_sees 37 = .ok (.getfield 56, 3) := by decide +kernel
theorem dX5_sees_40 : decode cX5_sees 40 = .ok (.aload_n 0, 1) := by decide +kernel
theorem dX5_sees_41 : decode cX5_sees 41 = .ok (.getfield 63, 3) := by decide +kernel
theorem dX5_sees_44 : decode cX5_sees 44 = .ok (.iload_n 1, 1) := by decide +kernel
theorem dX5_sees_45 : decode cX5_sees 45 = .ok (.iastore, 1) := by decide +kernel
theorem dX5_sees_46 : decode cX5_sees 46 = .ok (.aload_n 0, 1) := by decide +kernel
theorem dX5_sees_47 : decode cX5_sees 47 = .ok (.getfield 60, 3) := by decide +kernel
theorem dX5_sees_50 : decode cX5_sees 50 = .ok (.aload_n 0, 1) := by decide +kernel
theorem dX5_sees_51 : decode cX5_sees 51 = .ok (.getfield 63, 3) := by decide +kernel
theorem dX5_sees_54 : decode cX5_sees 54 = .ok (.iload_n 2, 1) := by decide +kernel
theorem dX5_sees_55 : decode cX5_sees 55 = .ok (.iastore, 1) := by decide +kernel
theorem dX5_sees_56 : decode cX5_sees 56 = .ok (.aload_n 0, 1) := by decide +kernel
theorem dX5_sees_57 : decode cX5_sees 57 = .ok (.dup, 1) := by decide +kernel
theorem dX5_sees_58 : decode cX5_sees 58 = .ok (.getfield 63, 3) := by decide +kernel
theorem dX5_sees_61 : decode cX5_sees 61 = .ok (.iconst 1, 1) := by decide +kernel
theorem dX5_sees_62 : decode cX5_sees 62 = .ok (.iadd, 1) := by decide +kernel
theorem dX5_sees_63 : decode cX5_sees 63 = .ok (.putfield 63, 3) := by decide +kernel
theorem dX5_sees_66 : decode cX5_sees 66 = .ok (.aload_n 0, 1) := by decide +kernel
theorem dX5_sees_67 : decode cX5_sees 67 = .ok (.getfield 63, 3) := by decide +kernel
theorem dX5_sees_70 : decode cX5_sees 70 = .ok (.ireturn, 1) := by decide +kernel
theorem dX5_forget_0 : decode cX5_forget 0 = .ok (.aload_n 0, 1) := by decide +kernel
theorem dX5_forget_1 : decode cX5_forget 1 = .ok (.getfield 63, 3) := by decide +kernel
theorem dX5_forget_4 : decode cX5_forget 4 = .ok (.istore_n 1, 1) := by decide +kernel
theorem dX5_forget_5 : decode cX5_forget 5 = .ok (.aload_n 0, 1) := by decide +kernel
theorem dX5_forget_6 : decode cX5_forget 6 = .ok (.iconst 0, 1) := by decide +kernel
theorem dX5_forget_7 : decode cX5_forget 7 = .ok (.putfield 63, 3) := by decide +kernel
theorem dX5_forget_10 : decode cX5_forget 10 = .ok (.iload_n 1, 1) := by decide +kernel
theorem dX5_forget_11 : decode cX5_forget 11 = .ok (.ireturn, 1) := by decide +kernel
theorem dX5_which_0 : decode cX5_which 0 = .ok (.aload_n 0, 1) := by decide +kernel
theorem dX5_which_1 : decode cX5_which 1 = .ok (.invokevirtual 182, 3) := by decide +kernel
theorem dX5_which_4 : decode cX5_which 4 = .ok (.aload_n 0, 1) := by decide +kernel
theorem dX5_which_5 : decode cX5_which 5 = .ok (.invokevirtual 185, 3) := by decide +kernel
theorem dX5_which_8 : decode cX5_which 8 = .ok (.ireturn, 1) := by decide +kernel
theorem dX5_look_0 : decode cX5_look 0 = .ok (.aload_n 0, 1) := by decide +kernel
theorem dX5_look_1 : decode cX5_look 1 = .ok (.invokevirtual 182, 3) := by decide +kernel
theorem dX5_look_4 : decode cX5_look 4 = .ok (.aload_n 0, 1) := by decide +kernel
theorem dX5_look_5 : decode cX5_look 5 = .ok (.invokevirtual 185, 3) := by decide +kernel
theorem dX5_look_8 : decode cX5_look 8 = .ok (.istore_n 1, 1) := by decide +kernel
theorem dX5_look_9 : decode cX5_look 9 = .ok (.iload_n 1, 1) := by decide +kernel
theorem dX5_look_10 : decode cX5_look 10 = .ok (.invokestatic 188, 3) := by decide +kernel
theorem dX5_look_13 : decode cX5_look 13 = .ok (.iconst 2, 1) := by decide +kernel
theorem dX5_look_14 : decode cX5_look 14 = .ok (.if_icmp .ge 6, 3) := by decide +kernel
theorem dX5_look_17 : decode cX5_look 17 = .ok (.bipush (-9), 2) := by decide +kernel
theorem dX5_look_19 : decode cX5_look 19 = .ok (.ireturn, 1) := by decide +kernel
theorem dX5_look_20 : decode cX5_look 20 = .ok (.bipush (-9), 2) := by decide +kernel
theorem dX5_look_22 : decode cX5_look 22 = .ok (.istore_n 2, 1) := by decide +kernel
theorem dX5_look_23 : decode cX5_look 23 = .ok (.iconst 5, 1) := by decide +kernel
theorem dX5_look_24 : decode cX5_look 24 = .ok (.istore_n 3, 1) := by decide +kernel
theorem dX5_look_25 : decode cX5_look 25 = .ok (.iconst 0, 1) := by decide +kernel
theorem dX5_look_26 : decode cX5_look 26 = .ok (.istore 4, 2) := by decide +kernel
theorem dX5_look_28 : decode cX5_look 28 = .ok (.iload 4, 2) := by decide +kernel
theorem dX5_look_30 : decode cX5_look 30 = .ok (.bipush 99, 2) := by decide +kernel
theorem dX5_look_32 : decode cX5_look 32 = .ok (.if_icmp .gt 30, 3) := by decide +kernel
theorem dX5_look_35 : decode cX5_look 35 = .ok (.aload_n 0, 1) := by decide +kernel
theorem dX5_look_36 : decode cX5_look 36 = .ok (.iload_n 1, 1) := by decide +kernel
theorem dX5_look_37 : decode cX5_look 37 = .ok (.iload 4, 2) := by decide +kernel
theorem dX5_look_39 : decode cX5_look 39 = .ok (.invokevirtual 193, 3) := by decide +kernel
theorem dX5_look_42 : decode cX5_look 42 = .ok (.istore 5, 2) := by decide +kernel
theorem dX5_look_44 : decode cX5_look 44 = .ok (.iload 5, 2) := by decide +kernel
theorem dX5_look_46 : decode cX5_look 46 = .ok (.iload_n 3, 1) := by decide +kernel
theorem dX5_look_47 : decode cX5_look 47 = .ok (.if_icmp .ge 9, 3) := by decide +kernel
theorem dX5_look_50 : decode cX5_look 50 = .ok (.iload 5, 2) := by decide +kernel
theorem dX5_look_52 : decode cX5_look 52 = .ok (.istore_n 3, 1) := by decide +kernel
theorem dX5_look_53 : decode cX5_look 53 = .ok (.iload 4, 2) := by decide +kernel
theorem dX5_look_55 : decode cX5_look 55 = .ok (.istore_n 2, 1) := by decide +kernel
theorem dX5_look_56 : decode cX5_look 56 = .ok (.iinc 4 1, 3) := by decide +kernel
theorem dX5_look_59 : decode cX5_look 59 = .ok (.goto (-31), 3) := by decide +kernel
theorem dX5_look_62 : decode cX5_look 62 = .ok (.iload_n 2, 1) := by decide +kernel
theorem dX5_look_63 : decode cX5_look 63 = .ok (.ireturn, 1) := by decide +kernel
theorem dX5_keep_0 : decode cX5_keep 0 = .ok (.iload_n 1, 1) := by decide +kernel
theorem dX5_keep_1 : decode cX5_keep 1 = .ok (.ifCond .lt 8, 3) := by decide +kernel
theorem dX5_keep_4 : decode cX5_keep 4 = .ok (.iload_n 1, 1) := by decide +kernel
theorem dX5_keep_5 : decode cX5_keep 5 = .ok (.iconst 2, 1) := by decide +kernel
theorem dX5_keep_6 : decode cX5_keep 6 = .ok (.if_icmp .lt 5, 3) := by decide +kernel
theorem dX5_keep_9 : decode cX5_keep 9 = .ok (.iconst (-1), 1) := by decide +kernel
theorem dX5_keep_10 : decode cX5_keep 10 = .ok (.ireturn, 1) := by decide +kernel
theorem dX5_keep_11 : decode cX5_keep 11 = .ok (.aload_n 0, 1) := by decide +kernel
theorem dX5_keep_12 : decode cX5_keep 12 = .ok (.getfield 23, 3) := by decide +kernel
theorem dX5_keep_15 : decode cX5_keep 15 = .ok (.iload_n 1, 1) := by decide +kernel
theorem dX5_keep_16 : decode cX5_keep 16 = .ok (.aaload, 1) := by decide +kernel
theorem dX5_keep_17 : decode cX5_keep 17 = .ok (.aload_n 0, 1) := by decide +kernel
theorem dX5_keep_18 : decode cX5_keep 18 = .ok (.getfield 10, 3) := by decide +kernel
theorem dX5_keep_21 : decode cX5_keep 21 = .ok (.invokevirtual 196, 3) := by decide +kernel
theorem dX5_keep_24 : decode cX5_keep 24 = .ok (.aload_n 0, 1) := by decide +kernel
theorem dX5_keep_25 : decode cX5_keep 25 = .ok (.getfield 27, 3) := by decide +kernel
theorem dX5_keep_28 : decode cX5_keep 28 = .ok (.iload_n 1, 1) := by decide +kernel
theorem dX5_keep_29 : decode cX5_keep 29 = .ok (.iconst 1, 1) := by decide +kernel
theorem dX5_keep_30 : decode cX5_keep 30 = .ok (.bastore, 1) := by decide +kernel
theorem dX5_keep_31 : decode cX5_keep 31 = .ok (.aload_n 0, 1) := by decide +kernel
theorem dX5_keep_32 : decode cX5_keep 32 = .ok (.getfield 10, 3) := by decide +kernel
theorem dX5_keep_35 : decode cX5_keep 35 = .ok (.invokevirtual 198, 3) := by decide +kernel
theorem dX5_keep_38 : decode cX5_keep 38 = .ok (.ireturn, 1) := by decide +kernel
theorem dX5_back_0 : decode cX5_back 0 = .ok (.iload_n 1, 1) := by decide +kernel
theorem dX5_back_1 : decode cX5_back 1 = .ok (.ifCond .lt 8, 3) := by decide +kernel
theorem dX5_back_4 : decode cX5_back 4 = .ok (.iload_n 1, 1) := by decide +kernel
theorem dX5_back_5 : decode cX5_back 5 = .ok (.iconst 2, 1) := by decide +kernel
theorem dX5_back_6 : decode cX5_back 6 = .ok (.if_icmp .lt 5, 3) := by decide +kernel
theorem dX5_back_9 : decode cX5_back 9 = .ok (.iconst (-1), 1) := by decide +kernel
theorem dX5_back_10 : decode cX5_back 10 = .ok (.ireturn, 1) := by decide +kernel
theorem dX5_back_11 : decode cX5_back 11 = .ok (.aload_n 0, 1) := by decide +kernel
theorem dX5_back_12 : decode cX5_back 12 = .ok (.getfield 27, 3) := by decide +kernel
theorem dX5_back_15 : decode cX5_back 15 = .ok (.iload_n 1, 1) := by decide +kernel
theorem dX5_back_16 : decode cX5_back 16 = .ok (.baload, 1) := by decide +kernel
theorem dX5_back_17 : decode cX5_back 17 = .ok (.ifCond .ne 6, 3) := by decide +kernel
theorem dX5_back_20 : decode cX5_back 20 = .ok (.bipush (-2), 2) := by decide +kernel
theorem dX5_back_22 : decode cX5_back 22 = .ok (.ireturn, 1) := by decide +kernel
theorem dX5_back_23 : decode cX5_back 23 = .ok (.aload_n 0, 1) := by decide +kernel
theorem dX5_back_24 : decode cX5_back 24 = .ok (.getfield 10, 3) := by decide +kernel
theorem dX5_back_27 : decode cX5_back 27 = .ok (.aload_n 0, 1) := by decide +kernel
theorem dX5_back_28 : decode cX5_back 28 = .ok (.getfield 23, 3) := by decide +kernel
theorem dX5_back_31 : decode cX5_back 31 = .ok (.iload_n 1, 1) := by decide +kernel
theorem dX5_back_32 : decode cX5_back 32 = .ok (.aaload, 1) := by decide +kernel
theorem dX5_back_33 : decode cX5_back 33 = .ok (.invokevirtual 196, 3) := by decide +kernel
theorem dX5_back_36 : decode cX5_back 36 = .ok (.aload_n 0, 1) := by decide +kernel
theorem dX5_back_37 : decode cX5_back 37 = .ok (.getfield 19, 3) := by decide +kernel
theorem dX5_back_40 : decode cX5_back 40 = .ok (.invokevirtual 201, 3) := by decide +kernel
theorem dX5_back_43 : decode cX5_back 43 = .ok (.aload_n 0, 1) := by decide +kernel
theorem dX5_back_44 : decode cX5_back 44 = .ok (.getfield 10, 3) := by decide +kernel
theorem dX5_back_47 : decode cX5_back 47 = .ok (.invokevirtual 198, 3) := by decide +kernel
theorem dX5_back_50 : decode cX5_back 50 = .ok (.ireturn, 1) := by decide +kernel
theorem dX5_count_0 : decode cX5_count 0 = .ok (.iload_n 1, 1) := by decide +kernel
theorem dX5_count_1 : decode cX5_count 1 = .ok (.tableswitch 60 0 3 #[31, 39, 44, 52], 31) := by decide +kernel
theorem dX5_count_32 : decode cX5_count 32 = .ok (.aload_n 0, 1) := by decide +kernel
theorem dX5_count_33 : decode cX5_count 33 = .ok (.getfield 10, 3) := by decide +kernel
theorem dX5_count_36 : decode cX5_count 36 = .ok (.invokevirtual 198, 3) := by decide +kernel
theorem dX5_count_39 : decode cX5_count 39 = .ok (.ireturn, 1) := by decide +kernel
theorem dX5_count_40 : decode cX5_count 40 = .ok (.aload_n 0, 1) := by decide +kernel
theorem dX5_count_41 : decode cX5_count 41 = .ok (.getfield 63, 3) := by decide +kernel
theorem dX5_count_44 : decode cX5_count 44 = .ok (.ireturn, 1) := by decide +kernel
theorem dX5_count_45 : decode cX5_count 45 = .ok (.aload_n 0, 1) := by decide +kernel
theorem dX5_count_46 : decode cX5_count 46 = .ok (.getfield 34, 3) := by decide +kernel
theorem dX5_count_49 : decode cX5_count 49 = .ok (.invokevirtual 74, 3) := by decide +kernel
theorem dX5_count_52 : decode cX5_count 52 = .ok (.ireturn, 1) := by decide +kernel
theorem dX5_count_53 : decode cX5_count 53 = .ok (.aload_n 0, 1) := by decide +kernel
theorem dX5_count_54 : decode cX5_count 54 = .ok (.getfield 19, 3) := by decide +kernel
theorem dX5_count_57 : decode cX5_count 57 = .ok (.invokevirtual 133, 3) := by decide +kernel
theorem dX5_count_60 : decode cX5_count 60 = .ok (.ireturn, 1) := by decide +kernel
theorem dX5_count_61 : decode cX5_count 61 = .ok (.iconst (-1), 1) := by decide +kernel
theorem dX5_count_62 : decode cX5_count 62 = .ok (.ireturn, 1) := by decide +kernel
theorem dX5_isNoShip_0 : decode cX5_isNoShip 0 = .ok (.iload_n 0, 1) := by decide +kernel
theorem dX5_isNoShip_1 : decode cX5_isNoShip 1 = .ok (.ifCond .lt 8, 3) := by decide +kernel
theorem dX5_isNoShip_4 : decode cX5_isNoShip 4 = .ok (.iload_n 0, 1) := by decide +kernel
theorem dX5_isNoShip_5 : decode cX5_isNoShip 5 = .ok (.iconst 4, 1) := by decide +kernel
theorem dX5_isNoShip_6 : decode cX5_isNoShip 6 = .ok (.if_icmp .lt 7, 3) := by decide +kernel
theorem dX5_isNoShip_9 : decode cX5_isNoShip 9 = .ok (.iconst 1, 1) := by decide +kernel
theorem dX5_isNoShip_10 : decode cX5_isNoShip 10 = .ok (.goto 4, 3) := by decide +kernel
theorem dX5_isNoShip_13 : decode cX5_isNoShip 13 = .ok (.iconst 0, 1) := by decide +kernel
theorem dX5_isNoShip_14 : decode cX5_isNoShip 14 = .ok (.ireturn, 1) := by decide +kernel
theorem dX5_drawnPlan_0 : decode cX5_drawnPlan 0 = .ok (.aload_n 0, 1) := by decide +kernel
theorem dX5_drawnPlan_1 : decode cX5_drawnPlan 1 = .ok (.getfield 52, 3) := by decide +kernel
theorem dX5_drawnPlan_4 : decode cX5_drawnPlan 4 = .ok (.iload_n 1, 1) := by decide +kernel
theorem dX5_drawnPlan_5 : decode cX5_drawnPlan 5 = .ok (.aaload, 1) := by decide +kernel
theorem dX5_drawnPlan_6 : decode cX5_drawnPlan 6 = .ok (.astore_n 2, 1) := by decide +kernel
theorem dX5_drawnPlan_7 : decode cX5_drawnPlan 7 = .ok (.aload_n 2, 1) := by decide +kernel
theorem dX5_drawnPlan_8 : decode cX5_drawnPlan 8 = .ok (.aload_n 0, 1) := by decide +kernel
theorem dX5_drawnPlan_9 : decode cX5_drawnPlan 9 = .ok (.getfield 10, 3) := by decide +kernel
theorem dX5_drawnPlan_12 : decode cX5_drawnPlan 12 = .ok (.getfield 92, 3) := by decide +kernel
theorem dX5_drawnPlan_15 : decode cX5_drawnPlan 15 = .ok (.iload_n 1, 1) := by decide +kernel
theorem dX5_drawnPlan_16 : decode cX5_drawnPlan 16 = .ok (.aaload, 1) := by decide +kernel
theorem dX5_drawnPlan_17 : decode cX5_drawnPlan 17 = .ok (.invokevirtual 169, 3) := by decide +kernel
theorem dX5_drawnPlan_20 : decode cX5_drawnPlan 20 = .ok (.aload_n 2, 1) := by decide +kernel
theorem dX5_drawnPlan_21 : decode cX5_drawnPlan 21 = .ok (.areturn, 1) := by decide +kernel
theorem dX5_drawAllPlans_0 : decode cX5_drawAllPlans 0 = .ok (.iconst 0, 1) := by decide +kernel
theorem dX5_drawAllPlans_1 : decode cX5_drawAllPlans 1 = .ok (.istore_n 1, 1) := by decide +kernel
theorem dX5_drawAllPlans_2 : decode cX5_drawAllPlans 2 = .ok (.iload_n 1, 1) := by decide +kernel
theorem dX5_drawAllPlans_3 : decode cX5_drawAllPlans 3 = .ok (.iconst 4, 1) := by decide +kernel
theorem dX5_drawAllPlans_4 : decode cX5_drawAllPlans 4 = .ok (.if_icmp .ge 27, 3) := by decide +kernel
theorem dX5_drawAllPlans_7 : decode cX5_drawAllPlans 7 = .ok (.aload_n 0, 1) := by decide +kernel
theorem dX5_drawAllPlans_8 : decode cX5_drawAllPlans 8 = .ok (.getfield 52, 3) := by decide +kernel
theorem dX5_drawAllPlans_11 : decode cX5_drawAllPlans 11 = .ok (.iload_n 1, 1) := by decide +kernel
theorem dX5_drawAllPlans_12 : decode cX5_drawAllPlans 12 = .ok (.aaload, 1) := by decide +kernel
theorem dX5_drawAllPlans_13 : decode cX5_drawAllPlans 13 = .ok (.aload_n 0, 1) := by decide +kernel
theorem dX5_drawAllPlans_14 : decode cX5_drawAllPlans 14 = .ok (.getfield 10, 3) := by decide +kernel
theorem dX5_drawAllPlans_17 : decode cX5_drawAllPlans 17 = .ok (.getfield 92, 3) := by decide +kernel
theorem dX5_drawAllPlans_20 : decode cX5_drawAllPlans 20 = .ok (.iload_n 1, 1) := by decide +kernel
theorem dX5_drawAllPlans_21 : decode cX5_drawAllPlans 21 = .ok (.aaload, 1) := by decide +kernel
theorem dX5_drawAllPlans_22 : decode cX5_drawAllPlans 22 = .ok (.invokevirtual 169, 3) := by decide +kernel
theorem dX5_drawAllPlans_25 : decode cX5_drawAllPlans 25 = .ok (.iinc 1 1, 3) := by decide +kernel
theorem dX5_drawAllPlans_28 : decode cX5_drawAllPlans 28 = .ok (.goto (-26), 3) := by decide +kernel
theorem dX5_drawAllPlans_31 : decode cX5_drawAllPlans 31 = .ok (.return_, 1) := by decide +kernel
theorem dX5_drawEased_0 : decode cX5_drawEased 0 = .ok (.aload_n 0, 1) := by decide +kernel
theorem dX5_drawEased_1 : decode cX5_drawEased 1 = .ok (.getfield 41, 3) := by decide +kernel
theorem dX5_drawEased_4 : decode cX5_drawEased 4 = .ok (.aload_n 1, 1) := by decide +kernel
theorem dX5_drawEased_5 : decode cX5_drawEased 5 = .ok (.invokevirtual 96, 3) := by decide +kernel
theorem dX5_drawEased_8 : decode cX5_drawEased 8 = .ok (.iload_n 2, 1) := by decide +kernel
theorem dX5_drawEased_9 : decode cX5_drawEased 9 = .ok (.iconst 1, 1) := by decide +kernel
theorem dX5_drawEased_10 : decode cX5_drawEased 10 = .ok (.isub, 1) := by decide +kernel
theorem dX5_drawEased_11 : decode cX5_drawEased 11 = .ok (.istore 4, 2) := by decide +kernel
theorem dX5_drawEased_13 : decode cX5_drawEased 13 = .ok (.iload_n 3, 1) := by decide +kernel
theorem dX5_drawEased_14 : decode cX5_drawEased 14 = .ok (.ifCond .ne 25, 3) := by decide +kernel
theorem dX5_drawEased_17 : decode cX5_drawEased 17 = .ok (.aload_n 0, 1) := by decide +kernel
theorem dX5_drawEased_18 : decode cX5_drawEased 18 = .ok (.getfield 41, 3) := by decide +kernel
theorem dX5_drawEased_21 : decode cX5_drawEased 21 = .ok (.iload 4, 2) := by decide +kernel
theorem dX5_drawEased_23 : decode cX5_drawEased 23 = .ok (.iconst 2, 1) := by decide +kernel
theorem dX5_drawEased_24 : decode cX5_drawEased 24 = .ok (.aload_n 1, 1) := by decide +kernel
theorem dX5_drawEased_25 : decode cX5_drawEased 25 = .ok (.iload 4, 2) := by decide +kernel
theorem dX5_drawEased_27 : decode cX5_drawEased 27 = .ok (.iconst 2, 1) := by decide +kernel
theorem dX5_drawEased_28 : decode cX5_drawEased 28 = .ok (.invokevirtual 115, 3) := by decide +kernel
theorem dX5_drawEased_31 : decode cX5_drawEased 31 = .ok (.iconst 1, 1) := by decide +kernel
theorem dX5_drawEased_32 : decode cX5_drawEased 32 = .ok (.isub, 1) := by decide +kernel
theorem dX5_drawEased_33 : decode cX5_drawEased 33 = .ok (.invokevirtual 129, 3) := by decide +kernel
theorem dX5_drawEased_36 : decode cX5_drawEased 36 = .ok (.goto 22, 3) := by decide +kernel
theorem dX5_drawEased_39 : decode cX5_drawEased 39 = .ok (.aload_n 0, 1) := by decide +kernel
theorem dX5_drawEased_40 : decode cX5_drawEased 40 = .ok (.getfield 41, 3) := by decide +kernel
theorem dX5_drawEased_43 : decode cX5_drawEased 43 = .ok (.iload 4, 2) := by decide +kernel
theorem dX5_drawEased_45 : decode cX5_drawEased 45 = .ok (.iconst 3, 1) := by decide +kernel
theorem dX5_drawEased_46 : decode cX5_drawEased 46 = .ok (.aload_n 1, 1) := by decide +kernel
theorem dX5_drawEased_47 : decode cX5_drawEased 47 = .ok (.iload 4, 2) := by decide +kernel
theorem dX5_drawEased_49 : decode cX5_drawEased 49 = .ok (.iconst 3, 1) := by decide +kernel
theorem dX5_drawEased_50 : decode cX5_drawEased 50 = .ok (.invokevirtual 115, 3) := by decide +kernel
theorem dX5_drawEased_53 : decode cX5_drawEased 53 = .ok (.iconst 1, 1) := by decide +kernel
theorem dX5_drawEased_54 : decode cX5_drawEased 54 = .ok (.iadd, 1) := by decide +kernel
theorem dX5_drawEased_55 : decode cX5_drawEased 55 = .ok (.invokevirtual 129, 3) := by decide +kernel
theorem dX5_drawEased_58 : decode cX5_drawEased 58 = .ok (.aload_n 0, 1) := by decide +kernel
theorem dX5_drawEased_59 : decode cX5_drawEased 59 = .ok (.getfield 48, 3) := by decide +kernel
theorem dX5_drawEased_62 : decode cX5_drawEased 62 = .ok (.aload_n 0, 1) := by decide +kernel
theorem dX5_drawEased_63 : decode cX5_drawEased 63 = .ok (.getfield 41, 3) := by decide +kernel
theorem dX5_drawEased_66 : decode cX5_drawEased 66 = .ok (.invokevirtual 169, 3) := by decide +kernel
theorem dX5_drawEased_69 : decode cX5_drawEased 69 = .ok (.return_, 1) := by decide +kernel
theorem dX5_suspects_0 : decode cX5_suspects 0 = .ok (.iconst 0, 1) := by decide +kernel
theorem dX5_suspects_1 : decode cX5_suspects 1 = .ok (.istore_n 1, 1) := by decide +kernel
theorem dX5_suspects_2 : decode cX5_suspects 2 = .ok (.iconst 0, 1) := by decide +kernel
theorem dX5_suspects_3 : decode cX5_suspects 3 = .ok (.istore_n 2, 1) := by decide +kernel
theorem dX5_suspects_4 : decode cX5_suspects 4 = .ok (.iload_n 2, 1) := by decide +kernel
theorem dX5_suspects_5 : decode cX5_suspects 5 = .ok (.iconst 4, 1) := by decide +kernel
theorem dX5_suspects_6 : decode cX5_suspects 6 = .ok (.if_icmp .ge 28, 3) := by decide +kernel
theorem dX5_suspects_9 : decode cX5_suspects 9 = .ok (.aload_n 0, 1) := by decide +kernel
theorem dX5_suspects_10 : decode cX5_suspects 10 = .ok (.aload_n 0, 1) := by decide +kernel
theorem dX5_suspects_11 : decode cX5_suspects 11 = .ok (.getfield 52, 3) := by decide +kernel
theorem dX5_suspects_14 : decode cX5_suspects 14 = .ok (.iload_n 2, 1) := by decide +kernel
theorem dX5_suspects_15 : decode cX5_suspects 15 = .ok (.aaload, 1) := by decide +kernel
theorem dX5_suspects_16 : decode cX5_suspects 16 = .ok (.invokevirtual 204, 3) := by decide +kernel
theorem dX5_suspects_19 : decode cX5_suspects 19 = .ok (.ifCond .eq 9, 3) := by decide +kernel
theorem dX5_suspects_22 : decode cX5_suspects 22 = .ok (.iload_n 1, 1) := by decide +kernel
theorem dX5_suspects_23 : decode cX5_suspects 23 = .ok (.iconst 1, 1) := by decide +kernel
theorem dX5_suspects_24 : decode cX5_suspects 24 = .ok (.iload_n 2, 1) := by decide +kernel
theorem dX5_suspects_25 : decode cX5_suspects 25 = .ok (.ishl, 1) := by decide +kernel
theorem dX5_suspects_26 : decode cX5_suspects 26 = .ok (.ior, 1) := by decide +kernel
theorem dX5_suspects_27 : decode cX5_suspects 27 = .ok (.istore_n 1, 1) := by decide +kernel
theorem dX5_suspects_28 : decode cX5_suspects 28 = .ok (.iinc 2 1, 3) := by decide +kernel
theorem dX5_suspects_31 : decode cX5_suspects 31 = .ok (.goto (-27), 3) := by decide +kernel
theorem dX5_suspects_34 : decode cX5_suspects 34 = .ok (.iload_n 1, 1) := by decide +kernel
theorem dX5_suspects_35 : decode cX5_suspects 35 = .ok (.ireturn, 1) := by decide +kernel
theorem dX5_agrees_0 : decode cX5_agrees 0 = .ok (.iconst 0, 1) := by decide +kernel
theorem dX5_agrees_1 : decode cX5_agrees 1 = .ok (.istore_n 2, 1) := by decide +kernel
theorem dX5_agrees_2 : decode cX5_agrees 2 = .ok (.iload_n 2, 1) := by decide +kernel
theorem dX5_agrees_3 : decode cX5_agrees 3 = .ok (.aload_n 0, 1) := by decide +kernel
theorem dX5_agrees_4 : decode cX5_agrees 4 = .ok (.getfield 63, 3) := by decide +kernel
theorem dX5_agrees_7 : decode cX5_agrees 7 = .ok (.if_icmp .ge 30, 3) := by decide +kernel
theorem dX5_agrees_10 : decode cX5_agrees 10 = .ok (.aload_n 1, 1) := by decide +kernel
theorem dX5_agrees_11 : decode cX5_agrees 11 = .ok (.aload_n 0, 1) := by decide +kernel
theorem dX5_agrees_12 : decode cX5_agrees 12 = .ok (.getfield 56, 3) := by decide +kernel
theorem dX5_agrees_15 : decode cX5_agrees 15 = .ok (.iload_n 2, 1) := by decide +kernel
theorem dX5_agrees_16 : decode cX5_agrees 16 = .ok (.iaload, 1) := by decide +kernel
theorem dX5_agrees_17 : decode cX5_agrees 17 = .ok (.invokevirtual 179, 3) := by decide +kernel
theorem dX5_agrees_20 : decode cX5_agrees 20 = .ok (.aload_n 0, 1) := by decide +kernel
theorem dX5_agrees_21 : decode cX5_agrees 21 = .ok (.getfield 60, 3) := by decide +kernel
theorem dX5_agrees_24 : decode cX5_agrees 24 = .ok (.iload_n 2, 1) := by decide +kernel
theorem dX5_agrees_25 : decode cX5_agrees 25 = .ok (.iaload, 1) := by decide +kernel
theorem dX5_agrees_26 : decode cX5_agrees 26 = .ok (.if_icmp .eq 5, 3) := by decide +kernel
theorem dX5_agrees_29 : decode cX5_agrees 29 = .ok (.iconst 0, 1) := by decide +kernel
theorem dX5_agrees_30 : decode cX5_agrees 30 = .ok (.ireturn, 1) := by decide +kernel
theorem dX5_agrees_31 : decode cX5_agrees 31 = .ok (.iinc 2 1, 3) := by decide +kernel
theorem dX5_agrees_34 : decode cX5_agrees 34 = .ok (.goto (-32), 3) := by decide +kernel
theorem dX5_agrees_37 : decode cX5_agrees 37 = .ok (.iconst 1, 1) := by decide +kernel
theorem dX5_agrees_38 : decode cX5_agrees 38 = .ok (.ireturn, 1) := by decide +kernel
theorem dX5_mostAlike_0 : decode cX5_mostAlike 0 = .ok (.iconst 0, 1) := by decide +kernel
theorem dX5_mostAlike_1 : decode cX5_mostAlike 1 = .ok (.istore_n 3, 1) := by decide +kernel
theorem dX5_mostAlike_2 : decode cX5_mostAlike 2 = .ok (.iconst 0, 1) := by decide +kernel
theorem dX5_mostAlike_3 : decode cX5_mostAlike 3 = .ok (.istore 4, 2) := by decide +kernel
theorem dX5_mostAlike_5 : decode cX5_mostAlike 5 = .ok (.iload 4, 2) := by decide +kernel
theorem dX5_mostAlike_7 : decode cX5_mostAlike 7 = .ok (.iconst 4, 1) := by decide +kernel
theorem dX5_mostAlike_8 : decode cX5_mostAlike 8 = .ok (.if_icmp .ge 94, 3) := by decide +kernel
theorem dX5_mostAlike_11 : decode cX5_mostAlike 11 = .ok (.iload_n 1, 1) := by decide +kernel
theorem dX5_mostAlike_12 : decode cX5_mostAlike 12 = .ok (.iload 4, 2) := by decide +kernel
theorem dX5_mostAlike_14 : decode cX5_mostAlike 14 = .ok (.ishr, 1) := by decide +kernel
theorem dX5_mostAlike_15 : decode cX5_mostAlike 15 = .ok (.iconst 1, 1) := by decide +kernel
theorem dX5_mostAlike_16 : decode cX5_mostAlike 16 = .ok (.iand, 1) := by decide +kernel
theorem dX5_mostAlike_17 : decode cX5_mostAlike 17 = .ok (.ifCond .ne 15, 3) := by decide +kernel
theorem dX5_mostAlike_20 : decode cX5_mostAlike 20 = .ok (.aload_n 0, 1) := by decide +kernel
theorem dX5_mostAlike_21 : decode cX5_mostAlike 21 = .ok (.getfield 67, 3) := by decide +kernel
theorem dX5_mostAlike_24 : decode cX5_mostAlike 24 = .ok (.iload 4, 2) := by decide +kernel
theorem dX5_mostAlike_26 : decode cX5_mostAlike 26 = .ok (.ldc 146, 2) := by decide +kernel
theorem dX5_mostAlike_28 : decode cX5_mostAlike 28 = .ok (.iastore, 1) := by decide +kernel
theorem dX5_mostAlike_29 : decode cX5_mostAlike 29 = .ok (.goto 67, 3) := by decide +kernel
theorem dX5_mostAlike_32 : decode cX5_mostAlike 32 = .ok (.aload_n 0, 1) := by decide +kernel
theorem dX5_mostAlike_33 : decode cX5_mostAlike 33 = .ok (.getfield 67, 3) := by decide +kernel
theorem dX5_mostAlike_36 : decode cX5_mostAlike 36 = .ok (.iload 4, 2) := by decide +kernel
theorem dX5_mostAlike_38 : decode cX5_mostAlike 38 = .ok (.aload_n 0, 1) := by decide +kernel
theorem dX5_mostAlike_39 : decode cX5_mostAlike 39 = .ok (.getfield 52, 3) := by decide +kernel
theorem dX5_mostAlike_42 : decode cX5_mostAlike 42 = .ok (.iload 4, 2) := by decide +kernel
theorem dX5_mostAlike_44 : decode cX5_mostAlike 44 = .ok (.aaload, 1) := by decide +kernel
theorem dX5_mostAlike_45 : decode cX5_mostAlike 45 = .ok (.iload_n 2, 1) := by decide +kernel
theorem dX5_mostAlike_46 : decode cX5_mostAlike 46 = .ok (.invokevirtual 179, 3) := by decide +kernel
theorem dX5_mostAlike_49 : decode cX5_mostAlike 49 = .ok (.iastore, 1) := by decide +kernel
theorem dX5_mostAlike_50 : decode cX5_mostAlike 50 = .ok (.iconst 1, 1) := by decide +kernel
theorem dX5_mostAlike_51 : decode cX5_mostAlike 51 = .ok (.istore 5, 2) := by decide +kernel
theorem dX5_mostAlike_53 : decode cX5_mostAlike 53 = .ok (.iconst 0, 1) := by decide +kernel
theorem dX5_mostAlike_54 : decode cX5_mostAlike 54 = .ok (.istore 6, 2) := by decide +kernel
theorem dX5_mostAlike_56 : decode cX5_mostAlike 56 = .ok (.iload 6, 2) := by decide +kernel
theorem dX5_mostAlike_58 : decode cX5_mostAlike 58 = .ok (.iload 4, 2) := by decide +kernel
theorem dX5_mostAlike_60 : decode cX5_mostAlike 60 = .ok (.if_icmp .ge 29, 3) := by decide +kernel
theorem dX5_mostAlike_63 : decode cX5_mostAlike 63 = .ok (.aload_n 0, 1) := by decide +kernel
theorem dX5_mostAlike_64 : decode cX5_mostAlike 64 = .ok (.getfield 67, 3) := by decide +kernel
theorem dX5_mostAlike_67 : decode cX5_mostAlike 67 = .ok (.iload 6, 2) := by decide +kernel
theorem dX5_mostAlike_69 : decode cX5_mostAlike 69 = .ok (.iaload, 1) := by decide +kernel
theorem dX5_mostAlike_70 : decode cX5_mostAlike 70 = .ok (.aload_n 0, 1) := by decide +kernel
theorem dX5_mostAlike_71 : decode cX5_mostAlike 71 = .ok (.getfield 67, 3) := by decide +kernel
theorem dX5_mostAlike_74 : decode cX5_mostAlike 74 = .ok (.iload 4, 2) := by decide +kernel
theorem dX5_mostAlike_76 : decode cX5_mostAlike 76 = .ok (.iaload, 1) := by decide +kernel
theorem dX5_mostAlike_77 : decode cX5_mostAlike 77 = .ok (.if_icmp .ne 6, 3) := by decide +kernel
theorem dX5_mostAlike_80 : decode cX5_mostAlike 80 = .ok (.iinc 5 1, 3) := by decide +kernel
theorem dX5_mostAlike_83 : decode cX5_mostAlike 83 = .ok (.iinc 6 1, 3) := by decide +kernel
theorem dX5_mostAlike_86 : decode cX5_mostAlike 86 = .ok (.goto (-30), 3) := by decide +kernel
theorem dX5_mostAlike_89 : decode cX5_mostAlike 89 = .ok (.iload_n 3, 1) := by decide +kernel
theorem dX5_mostAlike_90 : decode cX5_mostAlike 90 = .ok (.iload 5, 2) := by decide +kernel
theorem dX5_mostAlike_92 : decode cX5_mostAlike 92 = .ok (.invokestatic 208, 3) := by decide +kernel
theorem dX5_mostAlike_95 : decode cX5_mostAlike 95 = .ok (.istore_n 3, 1) := by decide +kernel
theorem dX5_mostAlike_96 : decode cX5_mostAlike 96 = .ok (.iinc 4 1, 3) := by decide +kernel
theorem dX5_mostAlike_99 : decode cX5_mostAlike 99 = .ok (.goto (-94), 3) := by decide +kernel
theorem dX5_mostAlike_102 : decode cX5_mostAlike 102 = .ok (.iload_n 3, 1) := by decide +kernel
theorem dX5_mostAlike_103 : decode cX5_mostAlike 103 = .ok (.ireturn, 1) := by decide +kernel
theorem dX5_partOf_0 : decode cX5_partOf 0 = .ok (.iload_n 0, 1) := by decide +kernel
theorem dX5_partOf_1 : decode cX5_partOf 1 = .ok (.iload_n 1, 1) := by decide +kernel
theorem dX5_partOf_2 : decode cX5_partOf 2 = .ok (.invokestatic 213, 3) := by decide +kernel
theorem dX5_partOf_5 : decode cX5_partOf 5 = .ok (.istore_n 3, 1) := by decide +kernel
theorem dX5_partOf_6 : decode cX5_partOf 6 = .ok (.iload_n 2, 1) := by decide +kernel
theorem dX5_partOf_7 : decode cX5_partOf 7 = .ok (.ifCond .ne 7, 3) := by decide +kernel
theorem dX5_partOf_10 : decode cX5_partOf 10 = .ok (.iload_n 0, 1) := by decide +kernel
theorem dX5_partOf_11 : decode cX5_partOf 11 = .ok (.goto 4, 3) := by decide +kernel
theorem dX5_partOf_14 : decode cX5_partOf 14 = .ok (.iload_n 1, 1) := by decide +kernel
theorem dX5_partOf_15 : decode cX5_partOf 15 = .ok (.istore 4, 2) := by decide +kernel
theorem dX5_partOf_17 : decode cX5_partOf 17 = .ok (.iload_n 3, 1) := by decide +kernel
theorem dX5_partOf_18 : decode cX5_partOf 18 = .ok (.ifCond .gt 8, 3) := by decide +kernel
theorem dX5_partOf_21 : decode cX5_partOf 21 = .ok (.iload 4, 2) := by decide +kernel
theorem dX5_partOf_23 : decode cX5_partOf 23 = .ok (.goto 7, 3) := by decide +kernel
theorem dX5_partOf_26 : decode cX5_partOf 26 = .ok (.iload 4, 2) := by decide +kernel
theorem dX5_partOf_28 : decode cX5_partOf 28 = .ok (.iload_n 3, 1) := by decide +kernel
theorem dX5_partOf_29 : decode cX5_partOf 29 = .ok (.idiv, 1) := by decide +kernel
theorem dX5_partOf_30 : decode cX5_partOf 30 = .ok (.ireturn, 1) := by decide +kernel
theorem dX5_commonMeasure_0 : decode cX5_commonMeasure 0 = .ok (.iload_n 0, 1) := by decide +kernel
theorem dX5_commonMeasure_1 : decode cX5_commonMeasure 1 = .ok (.invokestatic 216, 3) := by decide +kernel
theorem dX5_commonMeasure_4 : decode cX5_commonMeasure 4 = .ok (.istore_n 2, 1) := by decide +kernel
theorem dX5_commonMeasure_5 : decode cX5_commonMeasure 5 = .ok (.iload_n 1, 1) := by decide +kernel
theorem dX5_commonMeasure_6 : decode cX5_commonMeasure 6 = .ok (.invokestatic 216, 3) := by decide +kernel
theorem dX5_commonMeasure_9 : decode cX5_commonMeasure 9 = .ok (.istore_n 3, 1) := by decide +kernel
theorem dX5_commonMeasure_10 : decode cX5_commonMeasure 10 = .ok (.iconst 0, 1) := by decide +kernel
theorem dX5_commonMeasure_11 : decode cX5_commonMeasure 11 = .ok (.istore 4, 2) := by decide +kernel
theorem dX5_commonMeasure_13 : decode cX5_commonMeasure 13 = .ok (.iload 4, 2) := by decide +kernel
theorem dX5_commonMeasure_15 : decode cX5_commonMeasure 15 = .ok (.bipush 64, 2) := by decide +kernel
theorem dX5_commonMeasure_17 : decode cX5_commonMeasure 17 = .ok (.if_icmp .ge 23, 3) := by decide +kernel
theorem dX5_commonMeasure_20 : decode cX5_commonMeasure 20 = .ok (.iload_n 3, 1) := by decide +kernel
theorem dX5_commonMeasure_21 : decode cX5_commonMeasure 21 = .ok (.ifCond .le 19, 3) := by decide +kernel
theorem dX5_commonMeasure_24 : decode cX5_commonMeasure 24 = .ok (.iload_n 2, 1) := by decide +kernel
theorem dX5_commonMeasure_25 : decode cX5_commonMeasure 25 = .ok (.iload_n 3, 1) := by decide +kernel
theorem dX5_commonMeasure_26 : decode cX5_commonMeasure 26 = .ok (.irem, 1) := by decide +kernel
theorem dX5_commonMeasure_27 : decode cX5_commonMeasure 27 = .ok (.istore 5, 2) := by decide +kernel
theorem dX5_commonMeasure_29 : decode cX5_commonMeasure 29 = .ok (.iload_n 3, 1) := by decide +kernel
theorem dX5_commonMeasure_30 : decode cX5_commonMeasure 30 = .ok (.istore_n 2, 1) := by decide +kernel
theorem dX5_commonMeasure_31 : decode cX5_commonMeasure 31 = .ok (.iload 5, 2) := by decide +kernel
theorem dX5_commonMeasure_33 : decode cX5_commonMeasure 33 = .ok (.istore_n 3, 1) := by decide +kernel
theorem dX5_commonMeasure_34 : decode cX5_commonMeasure 34 = .ok (.iinc 4 1, 3) := by decide +kernel
theorem dX5_commonMeasure_37 : decode cX5_commonMeasure 37 = .ok (.goto (-24), 3) := by decide +kernel
theorem dX5_commonMeasure_40 : decode cX5_commonMeasure 40 = .ok (.iload_n 2, 1) := by decide +kernel
theorem dX5_commonMeasure_41 : decode cX5_commonMeasure 41 = .ok (.ireturn, 1) := by decide +kernel
theorem dX6_init_0 : decode cX6_init 0 = .ok (.aload_n 0, 1) := by decide +kernel
theorem dX6_init_1 : decode cX6_init 1 = .ok (.invokespecial 1, 3) := by decide +kernel
theorem dX6_init_4 : decode cX6_init 4 = .ok (.aload_n 0, 1) := by decide +kernel
theorem dX6_init_5 : decode cX6_init 5 = .ok (.sipush 132, 3) := by decide +kernel
theorem dX6_init_8 : decode cX6_init 8 = .ok (.newarray .int, 2) := by decide +kernel
theorem dX6_init_10 : decode cX6_init 10 = .ok (.putfield 7, 3) := by decide +kernel
theorem dX6_init_13 : decode cX6_init 13 = .ok (.aload_n 0, 1) := by decide +kernel
theorem dX6_init_14 : decode cX6_init 14 = .ok (.sipush 792, 3) := by decide +kernel
theorem dX6_init_17 : decode cX6_init 17 = .ok (.newarray .int, 2) := by decide +kernel
theorem dX6_init_19 : decode cX6_init 19 = .ok (.putfield 13, 3) := by decide +kernel
theorem dX6_init_22 : decode cX6_init 22 = .ok (.aload_n 0, 1) := by decide +kernel
theorem dX6_init_23 : decode cX6_init 23 = .ok (.sipush 264, 3) := by decide +kernel
theorem dX6_init_26 : decode cX6_init 26 = .ok (.newarray .int, 2) := by decide +kernel
theorem dX6_init_28 : decode cX6_init 28 = .ok (.putfield 16, 3) := by decide +kernel
theorem dX6_init_31 : decode cX6_init 31 = .ok (.aload_n 0, 1) := by decide +kernel
theorem dX6_init_32 : decode cX6_init 32 = .ok (.iconst 2, 1) := by decide +kernel
theorem dX6_init_33 : decode cX6_init 33 = .ok (.newarray .boolean, 2) := by decide +kernel
theorem dX6_init_35 : decode cX6_init 35 = .ok (.putfield 19, 3) := by decide +kernel
theorem dX6_init_38 : decode cX6_init 38 = .ok (.aload_n 0, 1) := by decide +kernel
theorem dX6_init_39 : decode cX6_init 39 = .ok (.sipush 150, 3) := by decide +kernel
theorem dX6_init_42 : decode cX6_init 42 = .ok (.newarray .int, 2) := by decide +kernel
theorem dX6_init_44 : decode cX6_init 44 = .ok (.putfield 23, 3) := by decide +kernel
theorem dX6_init_47 : decode cX6_init 47 = .ok (.aload_n 0, 1) := by decide +kernel
theorem dX6_init_48 : decode cX6_init 48 = .ok (.bipush 12, 2) := by decide +kernel
theorem dX6_init_50 : decode cX6_init 50 = .ok (.newarray .int, 2) := by decide +kernel
theorem dX6_init_52 : decode cX6_init 52 = .ok (.putfield 26, 3) := by decide +kernel
theorem dX6_init_55 : decode cX6_init 55 = .ok (.aload_n 0, 1) := by decide +kernel
theorem dX6_init_56 : decode cX6_init 56 = .ok (.bipush 33, 2) := by decide +kernel
theorem dX6_init_58 : decode cX6_init 58 = .ok (.newarray .int, 2) := by decide +kernel
theorem dX6_init_60 : decode cX6_init 60 = .ok (.putfield 29, 3) := by decide +kernel
theorem dX6_init_63 : decode cX6_init 63 = .ok (.aload_n 0, 1) := by decide +kernel
theorem dX6_init_64 : decode cX6_init 64 = .ok (.bipush 7, 2) := by decide +kernel
theorem dX6_init_66 : decode cX6_init 66 = .ok (.newarray .int, 2) := by decide +kernel
theorem dX6_init_68 : decode cX6_init 68 = .ok (.putfield 32, 3) := by decide +kernel
theorem dX6_init_71 : decode cX6_init 71 = .ok (.aload_n 0, 1) := by decide +kernel
theorem dX6_init_72 : decode cX6_init 72 = .ok (.bipush 7, 2) := by decide +kernel
theorem dX6_init_74 : decode cX6_init 74 = .ok (.newarray .int, 2) := by decide +kernel
theorem dX6_init_76 : decode cX6_init 76 = .ok (.putfield 35, 3) := by decide +kernel
theorem dX6_init_79 : decode cX6_init 79 = .ok (.aload_n 0, 1) := by decide +kernel
theorem dX6_init_80 : decode cX6_init 80 = .ok (.bipush 7, 2) := by decide +kernel
theorem dX6_init_82 : decode cX6_init 82 = .ok (.newarray .int, 2) := by decide +kernel
theorem dX6_init_84 : decode cX6_init 84 = .ok (.putfield 38, 3) := by decide +kernel
theorem dX6_init_87 : decode cX6_init 87 = .ok (.aload_n 0, 1) := by decide +kernel
theorem dX6_init_88 : decode cX6_init 88 = .ok (.bipush 7, 2) := by decide +kernel
theorem dX6_init_90 : decode cX6_init 90 = .ok (.newarray .int, 2) := by decide +kernel
theorem dX6_init_92 : decode cX6_init 92 = .ok (.putfield 41, 3) := by decide +kernel
theorem dX6_init_95 : decode cX6_init 95 = .ok (.aload_n 0, 1) := by decide +kernel
theorem dX6_init_96 : decode cX6_init 96 = .ok (.bipush 7, 2) := by decide +kernel
theorem dX6_init_98 : decode cX6_init 98 = .ok (.newarray .int, 2) := by decide +kernel
theorem dX6_init_100 : decode cX6_init 100 = .ok (.putfield 44, 3) := by decide +kernel
theorem dX6_init_103 : decode cX6_init 103 = .ok (.aload_n 0, 1) := by decide +kernel
theorem dX6_init_104 : decode cX6_init 104 = .ok (.bipush 7, 2) := by decide +kernel
theorem dX6_init_106 : decode cX6_init 106 = .ok (.newarray .long, 2) := by decide +kernel
theorem dX6_init_108 : decode cX6_init 108 = .ok (.putfield 47, 3) := by decide +kernel
theorem dX6_init_111 : decode cX6_init 111 = .ok (.aload_n 0, 1) := by decide +kernel
theorem dX6_init_112 : decode cX6_init 112 = .ok (.iconst 4, 1) := by decide +kernel
theorem dX6_init_113 : decode cX6_init 113 = .ok (.newarray .int, 2) := by decide +kernel
theorem dX6_init_115 : decode cX6_init 115 = .ok (.putfield 51, 3) := by decide +kernel
theorem dX6_init_118 : decode cX6_init 118 = .ok (.iconst 0, 1) := by decide +kernel
theorem dX6_init_119 : decode cX6_init 119 = .ok (.istore_n 1, 1) := by decide +kernel
theorem dX6_init_120 : decode cX6_init 120 = .ok (.iload_n 1, 1) := by decide +kernel
theorem dX6_init_121 : decode cX6_init 121 = .ok (.iconst 4, 1) := by decide +kernel
theorem dX6_init_122 : decode cX6_init 122 = .ok (.if_icmp .ge 20, 3) := by decide +kernel
theorem dX6_init_125 : decode cX6_init 125 = .ok (.aload_n 0, 1) := by decide +kernel
theorem dX6_init_126 : decode cX6_init 126 = .ok (.getfield 7, 3) := by decide +kernel
theorem dX6_init_129 : decode cX6_init 129 = .ok (.bipush 33, 2) := by decide +kernel
theorem dX6_init_131 : decode cX6_init 131 = .ok (.iload_n 1, 1) := by decide +kernel
theorem dX6_init_132 : decode cX6_init 132 = .ok (.imul, 1) := by decide +kernel
theorem dX6_init_133 : decode cX6_init 133 = .ok (.invokestatic 54, 3) := by decide +kernel
theorem dX6_init_136 : decode cX6_init 136 = .ok (.iinc 1 1, 3) := by decide +kernel
theorem dX6_init_139 : decode cX6_init 139 = .ok (.goto (-19), 3) := by decide +kernel
theorem dX6_init_142 : decode cX6_init 142 = .ok (.return_, 1) := by decide +kernel
theorem dX6_in_0 : decode cX6_in 0 = .ok (.iload_n 0, 1) := by decide +kernel
theorem dX6_in_1 : decode cX6_in 1 = .ok (.iload_n 1, 1) := by decide +kernel
theorem dX6_in_2 : decode cX6_in 2 = .ok (.if_icmp .lt 12, 3) := by decide +kernel
theorem dX6_in_5 : decode cX6_in 5 = .ok (.iload_n 0, 1) := by decide +kernel
theorem dX6_in_6 : decode cX6_in 6 = .ok (.iload_n 2, 1) := by decide +kernel
theorem dX6_in_7 : decode cX6_in 7 = .ok (.if_icmp .gt 7, 3) := by decide +kernel
theorem dX6_in_10 : decode cX6_in 10 = .ok (.iconst 1, 1) := by decide +kernel
theorem dX6_in_11 : decode cX6_in 11 = .ok (.goto 4, 3) := by decide +kernel
theorem dX6_in_14 : decode cX6_in 14 = .ok (.iconst 0, 1) := by decide +kernel
theorem dX6_in_15 : decode cX6_in 15 = .ok (.ireturn, 1) := by decide +kernel
theorem dX6_begins_0 : decode cX6_begins 0 = .ok (.iconst 0, 1) := by decide +kernel
theorem dX6_begins_1 : decode cX6_begins 1 = .ok (.istore_n 2, 1) := by decide +kernel
theorem dX6_begins_2 : decode cX6_begins 2 = .ok (.iload_n 2, 1) := by decide +kernel
theorem dX6_begins_3 : decode cX6_begins 3 = .ok (.bipush 33, 2) := by decide +kernel
theorem dX6_begins_5 : decode cX6_begins 5 = .ok (.if_icmp .ge 15, 3) := by decide +kernel
theorem dX6_begins_8 : decode cX6_begins 8 = .ok (.aload_n 0, 1) := by decide +kernel
theorem dX6_begins_9 : decode cX6_begins 9 = .ok (.iload_n 1, 1) := by decide +kernel
theorem dX6_begins_10 : decode cX6_begins 10 = .ok (.iload_n 2, 1) := by decide +kernel
theorem dX6_begins_11 : decode cX6_begins 11 = .ok (.iadd, 1) := by decide +kernel
theorem dX6_begins_12 : decode cX6_begins 12 = .ok (.iconst 0, 1) := by decide +kernel
theorem dX6_begins_13 : decode cX6_begins 13 = .ok (.iastore, 1) := by decide +kernel
theorem dX6_begins_14 : decode cX6_begins 14 = .ok (.iinc 2 1, 3) := by decide +kernel
theorem dX6_begins_17 : decode cX6_begins 17 = .ok (.goto (-15), 3) := by decide +kernel
theorem dX6_begins_20 : decode cX6_begins 20 = .ok (.aload_n 0, 1) := by decide +kernel
theorem dX6_begins_21 : decode cX6_begins 21 = .ok (.iload_n 1, 1) := by decide +kernel
theorem dX6_begins_22 : decode cX6_begins 22 = .ok (.iconst 1, 1) := by decide +kernel
theorem dX6_begins_23 : decode cX6_begins 23 = .ok (.iadd, 1) := by decide +kernel
theorem dX6_begins_24 : decode cX6_begins 24 = .ok (.bipush 20, 2) := by decide +kernel
theorem dX6_begins_26 : decode cX6_begins 26 = .ok (.iastore, 1) := by decide +kernel
theorem dX6_begins_27 : decode cX6_begins 27 = .ok (.aload_n 0, 1) := by decide +kernel
theorem dX6_begins_28 : decode cX6_begins 28 = .ok (.iload_n 1, 1) := by decide +kernel
theorem dX6_begins_29 : decode cX6_begins 29 = .ok (.iconst 5, 1) := by decide +kernel
theorem dX6_begins_30 : decode cX6_begins 30 = .ok (.iadd, 1) := by decide +kernel
theorem dX6_begins_31 : decode cX6_begins 31 = .ok (.iconst 1, 1) := by decide +kernel
theorem dX6_begins_32 : decode cX6_begins 32 = .ok (.iastore, 1) := by decide +kernel
theorem dX6_begins_33 : decode cX6_begins 33 = .ok (.aload_n 0, 1) := by decide +kernel
theorem dX6_begins_34 : decode cX6_begins 34 = .ok (.iload_n 1, 1) := by decide +kernel
theorem dX6_begins_35 : decode cX6_begins 35 = .ok (.iconst 5, 1) := by decide +kernel
theorem dX6_begins_36 : decode cX6_begins 36 = .ok (.iadd, 1) := by decide +kernel
theorem dX6_begins_37 : decode cX6_begins 37 = .ok (.iconst 1, 1) := by decide +kernel
theorem dX6_begins_38 : decode cX6_begins 38 = .ok (.iadd, 1) := by decide +kernel
theorem dX6_begins_39 : decode cX6_begins 39 = .ok (.iconst 2, 1) := by decide +kernel
theorem dX6_begins_40 : decode cX6_begins 40 = .ok (.iastore, 1) := by decide +kernel
theorem dX6_begins_41 : decode cX6_begins 41 = .ok (.aload_n 0, 1) := by decide +kernel
theorem dX6_begins_42 : decode cX6_begins 42 = .ok (.iload_n 1, 1) := by decide +kernel
theorem dX6_begins_43 : decode cX6_begins 43 = .ok (.iconst 5, 1) := by decide +kernel
theorem dX6_begins_44 : decode cX6_begins 44 = .ok (.iadd, 1) := by decide +kernel
theorem dX6_begins_45 : decode cX6_begins 45 = .ok (.iconst 2, 1) := by decide +kernel
theorem dX6_begins_46 : decode cX6_begins 46 = .ok (.iadd, 1) := by decide +kernel
theorem dX6_begins_47 : decode cX6_begins 47 = .ok (.iconst 4, 1) := by decide +kernel
theorem dX6_begins_48 : decode cX6_begins 48 = .ok (.iastore, 1) := by decide +kernel
theorem dX6_begins_49 : decode cX6_begins 49 = .ok (.aload_n 0, 1) := by decide +kernel
theorem dX6_begins_50 : decode cX6_begins 50 = .ok (.iload_n 1, 1) := by decide +kernel
theorem dX6_begins_51 : decode cX6_begins 51 = .ok (.iconst 5, 1) := by decide +kernel
theorem dX6_begins_52 : decode cX6_begins 52 = .ok (.iadd, 1) := by decide +kernel
theorem dX6_begins_53 : decode cX6_begins 53 = .ok (.iconst 3, 1) := by decide +kernel
theorem dX6_begins_54 : decode cX6_begins 54 = .ok (.iadd, 1) := by decide +kernel
theorem dX6_begins_55 : decode cX6_begins 55 = .ok (.bipush 8, 2) := by decide +kernel
theorem dX6_begins_57 : decode cX6_begins 57 = .ok (.iastore, 1) := by decide +kernel
theorem dX6_begins_58 : decode cX6_begins 58 = .ok (.return_, 1) := by decide +kernel
theorem dX6_remembers_0 : decode cX6_remembers 0 = .ok (.aload_n 0, 1) := by decide +kernel
theorem dX6_remembers_1 : decode cX6_remembers 1 = .ok (.getfield 58, 3) := by decide +kernel
theorem dX6_remembers_4 : decode cX6_remembers 4 = .ok (.bipush 6, 2) := by decide +kernel
theorem dX6_remembers_6 : decode cX6_remembers 6 = .ok (.if_icmp .ne 44, 3) := by decide +kernel
theorem dX6_remembers_9 : decode cX6_remembers 9 = .ok (.iconst 0, 1) := by decide +kernel
theorem dX6_remembers_10 : decode cX6_remembers 10 = .ok (.istore_n 1, 1) := by decide +kernel
theorem dX6_remembers_11 : decode cX6_remembers 11 = .ok (.iload_n 1, 1) := by decide +kernel
theorem dX6_remembers_12 : decode cX6_remembers 12 = .ok (.sipush 660, 3) := by decide +kernel
theorem dX6_remembers_15 : decode cX6_remembers 15 = .ok (.if_icmp .ge 25, 3) := by decide +kernel
theorem dX6_remembers_18 : decode cX6_remembers 18 = .ok (.aload_n 0, 1) := by decide +kernel
theorem dX6_remembers_19 : decode cX6_remembers 19 = .ok (.getfield 13, 3) := by decide +kernel
theorem dX6_remembers_22 : decode cX6_remembers 22 = .ok (.iload_n 1, 1) := by decide +kernel
theorem dX6_remembers_23 : decode cX6_remembers 23 = .ok (.aload_n 0, 1) := by decide +kernel
theorem dX6_remembers_24 : decode cX6_remembers 24 = .ok (.getfield 13, 3) := by decide +kernel
theorem dX6_remembers_27 : decode cX6_remembers 27 = .ok (.iload_n 1, 1) := by decide +kernel
theorem dX6_remembers_28 : decode cX6_remembers 28 = .ok (.sipush 132, 3) := by decide +kernel
theorem dX6_remembers_31 : decode cX6_remembers 31 = .ok (.iadd, 1) := by decide +kernel
theorem dX6_remembers_32 : decode cX6_remembers 32 = .ok (.iaload, 1) := by decide +kernel
theorem dX6_remembers_33 : decode cX6_remembers 33 = .ok (.iastore, 1) := by decide +kernel
theorem dX6_remembers_34 : decode cX6_remembers 34 = .ok (.iinc 1 1, 3) := by decide +kernel
theorem dX6_remembers_37 : decode cX6_remembers 37 = .ok (.goto (-26), 3) := by decide +kernel
theorem dX6_remembers_40 : decode cX6_remembers 40 = .ok (.aload_n 0, 1) := by decide +kernel
theorem dX6_remembers_41 : decode cX6_remembers 41 = .ok (.dup, 1) := by decide +kernel
theorem dX6_remembers_42 : decode cX6_remembers 42 = .ok (.getfield 58, 3) := by decide +kernel
theorem dX6_remembers_45 : decode cX6_remembers 45 = .ok (.iconst 1, 1) := by decide +kernel
theorem dX6_remembers_46 : decode cX6_remembers 46 = .ok (.isub, 1) := by decide +kernel
theorem dX6_remembers_47 : decode cX6_remembers 47 = .ok (.putfield 58, 3) := by decide +kernel
theorem dX6_remembers_50 : decode cX6_remembers 50 = .ok (.iconst 0, 1) := by decide +kernel
theorem dX6_remembers_51 : decode cX6_remembers 51 = .ok (.istore_n 1, 1) := by decide +kernel
theorem dX6_remembers_52 : decode cX6_remembers 52 = .ok (.iload_n 1, 1) := by decide +kernel
theorem dX6_remembers_53 : decode cX6_remembers 53 = .ok (.sipush 132, 3) := by decide +kernel
theorem dX6_remembers_56 : decode cX6_remembers 56 = .ok (.if_icmp .ge 30, 3) := by decide +kernel
theorem dX6_remembers_59 : decode cX6_remembers 59 = .ok (.aload_n 0, 1) := by decide +kernel
theorem dX6_remembers_60 : decode cX6_remembers 60 = .ok (.getfield 13, 3) := by decide +kernel
theorem dX6_remembers_63 : decode cX6_remembers 63 = .ok (.sipush 132, 3) := by decide +kernel
theorem dX6_remembers_66 : decode cX6_remembers 66 = .ok (.aload_n 0, 1) := by decide +kernel
theorem dX6_remembers_67 : decode cX6_remembers 67 = .ok (.getfield 58, 3) := by decide +kernel
theorem dX6_remembers_70 : decode cX6_remembers 70 = .ok (.imul, 1) := by decide +kernel
theorem dX6_remembers_71 : decode cX6_remembers 71 = .ok (.iload_n 1, 1) := by decide +kernel
theorem dX6_remembers_72 : decode cX6_remembers 72 = .ok (.iadd, 1) := by decide +kernel
theorem dX6_remembers_73 : decode cX6_remembers 73 = .ok (.aload_n 0, 1) := by decide +kernel
theorem dX6_remembers_74 : decode cX6_remembers 74 = .ok (.getfield 7, 3) := by decide +kernel
theorem dX6_remembers_77 : decode cX6_remembers 77 = .ok (.iload_n 1, 1) := by decide +kernel
theorem dX6_remembers_78 : decode cX6_remembers 78 = .ok (.iaload, 1) := by decide +kernel
theorem dX6_remembers_79 : decode cX6_remembers 79 = .ok (.iastore, 1) := by decide +kernel
theorem dX6_remembers_80 : decode cX6_remembers 80 = .ok (.iinc 1 1, 3) := by decide +kernel
theorem dX6_remembers_83 : decode cX6_remembers 83 = .ok (.goto (-31), 3) := by decide +kernel
theorem dX6_remembers_86 : decode cX6_remembers 86 = .ok (.aload_n 0, 1) := by decide +kernel
theorem dX6_remembers_87 : decode cX6_remembers 87 = .ok (.dup, 1) := by decide +kernel
theorem dX6_remembers_88 : decode cX6_remembers 88 = .ok (.getfield 58, 3) := by decide +kernel
theorem dX6_remembers_91 : decode cX6_remembers 91 = .ok (.iconst 1, 1) := by decide +kernel
theorem dX6_remembers_92 : decode cX6_remembers 92 = .ok (.iadd, 1) := by decide +kernel
theorem dX6_remembers_93 : decode cX6_remembers 93 = .ok (.putfield 58, 3) := by decide +kernel
theorem dX6_remembers_96 : decode cX6_remembers 96 = .ok (.return_, 1) := by decide +kernel
theorem dX6_undo_0 : decode cX6_undo 0 = .ok (.aload_n 0, 1) := by decide +kernel
theorem dX6_undo_1 : decode cX6_undo 1 = .ok (.getfield 58, 3) := by decide +kernel
theorem dX6_undo_4 : decode cX6_undo 4 = .ok (.ifCond .ne 6, 3) := by decide +kernel
theorem dX6_undo_7 : decode cX6_undo 7 = .ok (.bipush (-2), 2) := by decide +kernel
theorem dX6_undo_9 : decode cX6_undo 9 = .ok (.ireturn, 1) := by decide +kernel
theorem dX6_undo_10 : decode cX6_undo 10 = .ok (.aload_n 0, 1) := by decide +kernel
theorem dX6_undo_11 : decode cX6_undo 11 = .ok (.dup, 1) := by decide +kernel
theorem dX6_undo_12 : decode cX6_undo 12 = .ok (.getfield 58, 3) := by decide +kernel
theorem dX6_undo_15 : decode cX6_undo 15 = .ok (.iconst 1, 1) := by decide +kernel
theorem dX6_undo_16 : decode cX6_undo 16 = .ok (.isub, 1) := by decide +kernel
theorem dX6_undo_17 : decode cX6_undo 17 = .ok (.putfield 58, 3) := by decide +kernel
theorem dX6_undo_20 : decode cX6_undo 20 = .ok (.iconst 0, 1) := by decide +kernel
theorem dX6_undo_21 : decode cX6_undo 21 = .ok (.istore_n 1, 1) := by decide +kernel
theorem dX6_undo_22 : decode cX6_undo 22 = .ok (.iload_n 1, 1) := by decide +kernel
theorem dX6_undo_23 : decode cX6_undo 23 = .ok (.sipush 132, 3) := by decide +kernel
theorem dX6_undo_26 : decode cX6_undo 26 = .ok (.if_icmp .ge 30, 3) := by decide +kernel
theorem dX6_undo_29 : decode cX6_undo 29 = .ok (.aload_n 0, 1) := by decide +kernel
theorem dX6_undo_30 : decode cX6_undo 30 = .ok (.getfield 7, 3) := by decide +kernel
theorem dX6_undo_33 : decode cX6_undo 33 = .ok (.iload_n 1, 1) := by decide +kernel
theorem dX6_undo_34 : decode cX6_undo 34 = .ok (.aload_n 0, 1) := by decide +kernel
theorem dX6_undo_35 : decode cX6_undo 35 = .ok (.getfield 13, 3) := by decide +kernel
theorem dX6_undo_38 : decode cX6_undo 38 = .ok (.sipush 132, 3) := by decide +kernel
theorem dX6_undo_41 : decode cX6_undo 41 = .ok (.aload_n 0, 1) := by decide +kernel
theorem dX6_undo_42 : decode cX6_undo 42 = .ok (.getfield 58, 3) := by decide +kernel
theorem dX6_undo_45 : decode cX6_undo 45 = .ok (.imul, 1) := by decide +kernel
theorem dX6_undo_46 : decode cX6_undo 46 = .ok (.iload_n 1, 1) := by decide +kernel
theorem dX6_undo_47 : decode cX6_undo 47 = .ok (.iadd, 1) := by decide +kernel
theorem dX6_undo_48 : decode cX6_undo 48 = .ok (.iaload, 1) := by decide +kernel
theorem dX6_undo_49 : decode cX6_undo 49 = .ok (.iastore, 1) := by decide +kernel
theorem dX6_undo_50 : decode cX6_undo 50 = .ok (.iinc 1 1, 3) := by decide +kernel
theorem dX6_undo_53 : decode cX6_undo 53 = .ok (.goto (-31), 3) := by decide +kernel
theorem dX6_undo_56 : decode cX6_undo 56 = .ok (.aload_n 0, 1) := by decide +kernel
theorem dX6_undo_57 : decode cX6_undo 57 = .ok (.getfield 58, 3) := by decide +kernel
theorem dX6_undo_60 : decode cX6_undo 60 = .ok (.ireturn, 1) := by decide +kernel
theorem dX6_isShip_0 : decode cX6_isShip 0 = .ok (.iload_n 0, 1) := by decide +kernel
theorem dX6_isShip_1 : decode cX6_isShip 1 = .ok (.iconst 0, 1) := by decide +kernel
theorem dX6_isShip_2 : decode cX6_isShip 2 = .ok (.iconst 3, 1) := by decide +kernel
theorem dX6_isShip_3 : decode cX6_isShip 3 = .ok (.invokestatic 62, 3) := by decide +kernel
theorem dX6_isShip_6 : decode cX6_isShip 6 = .ok (.ireturn, 1) := by decide +kernel
theorem dX6_of_0 : decode cX6_of 0 = .ok (.aload_n 0, 1) := by decide +kernel
theorem dX6_of_1 : decode cX6_of 1 = .ok (.getfield 7, 3) := by decide +kernel
theorem dX6_of_4 : decode cX6_of 4 = .ok (.bipush 33, 2) := by decide +kernel
theorem dX6_of_6 : decode cX6_of 6 = .ok (.iload_n 1, 1) := by decide +kernel
theorem dX6_of_7 : decode cX6_of 7 = .ok (.imul, 1) := by decide +kernel
theorem dX6_of_8 : decode cX6_of 8 = .ok (.iload_n 2, 1) := by decide +kernel
theorem dX6_of_9 : decode cX6_of 9 = .ok (.iadd, 1) := by decide +kernel
theorem dX6_of_10 : decode cX6_of 10 = .ok (.iaload, 1) := by decide +kernel
theorem dX6_of_11 : decode cX6_of 11 = .ok (.ireturn, 1) := by decide +kernel
theorem dX6_legPlace_0 : decode cX6_legPlace 0 = .ok (.bipush 9, 2) := by decide +kernel
theorem dX6_legPlace_2 : decode cX6_legPlace 2 = .ok (.iconst 4, 1) := by decide +kernel
theorem dX6_legPlace_3 : decode cX6_legPlace 3 = .ok (.iload_n 0, 1) := by decide +kernel
theorem dX6_legPlace_4 : decode cX6_legPlace 4 = .ok (.imul, 1) := by decide +kernel
theorem dX6_legPlace_5 : decode cX6_legPlace 5 = .ok (.iadd, 1) := by decide +kernel
theorem dX6_legPlace_6 : decode cX6_legPlace 6 = .ok (.iload_n 1, 1) := by decide +kernel
theorem dX6_legPlace_7 : decode cX6_legPlace 7 = .ok (.iadd, 1) := by decide +kernel
theorem dX6_legPlace_8 : decode cX6_legPlace 8 = .ok (.ireturn, 1) := by decide +kernel
theorem dX6_ofLeg_0 : decode cX6_ofLeg 0 = .ok (.aload_n 0, 1) := by decide +kernel
theorem dX6_ofLeg_1 : decode cX6_ofLeg 1 = .ok (.iload_n 1, 1) := by decide +kernel
theorem dX6_ofLeg_2 : decode cX6_ofLeg 2 = .ok (.iload_n 2, 1) := by decide +kernel
theorem dX6_ofLeg_3 : decode cX6_ofLeg 3 = .ok (.iload_n 3, 1) := by decide +kernel
theorem dX6_ofLeg_4 : decode cX6_ofLeg 4 = .ok (.invokestatic 66, 3) := by decide +kernel
theorem dX6_ofLeg_7 : decode cX6_ofLeg 7 = .ok (.invokevirtual 70, 3) := by decide +kernel
theorem dX6_ofLeg_10 : decode cX6_ofLeg 10 = .ok (.ireturn, 1) := by decide +kernel
theorem dX6_type_0 : decode cX6_type 0 = .ok (.iload_n 1, 1) := by decide +kernel
theorem dX6_type_1 : decode cX6_type 1 = .ok (.iconst 0, 1) := by decide +kernel
theorem dX6_type_2 : decode cX6_type 2 = .ok (.sipush 255, 3) := by decide +kernel
theorem dX6_type_5 : decode cX6_type 5 = .ok (.invokestatic 62, 3) := by decide +kernel
theorem dX6_type_8 : decode cX6_type 8 = .ok (.ifCond .ne 5, 3) := by decide +kernel
theorem dX6_type_11 : decode cX6_type 11 = .ok (.iconst (-1), 1) := by decide +kernel
theorem dX6_type_12 : decode cX6_type 12 = .ok (.ireturn, 1) := by decide +kernel
theorem dX6_type_13 : decode cX6_type 13 = .ok (.aload_n 0, 1) := by decide +kernel
theorem dX6_type_14 : decode cX6_type 14 = .ok (.getfield 73, 3) := by decide +kernel
theorem dX6_type_17 : decode cX6_type 17 = .ok (.sipush 150, 3) := by decide +kernel
theorem dX6_type_20 : decode cX6_type 20 = .ok (.if_icmp .ne 6, 3) := by decide +kernel
theorem dX6_type_23 : decode cX6_type 23 = .ok (.bipush (-3), 2) := by decide +kernel
theorem dX6_type_25 : decode cX6_type 25 = .ok (.ireturn, 1) := by decide +kernel
theorem dX6_type_26 : decode cX6_type 26 = .ok (.aload_n 0, 1) := by decide +kernel
theorem dX6_type_27 : decode cX6_type 27 = .ok (.getfield 23, 3) := by decide +kernel
theorem dX6_type_30 : decode cX6_type 30 = .ok (.aload_n 0, 1) := by decide +kernel
theorem dX6_type_31 : decode cX6_type 31 = .ok (.getfield 73, 3) := by decide +kernel
theorem dX6_type_34 : decode cX6_type 34 = .ok (.iload_n 1, 1) := by decide +kernel
theorem dX6_type_35 : decode cX6_type 35 = .ok (.iastore, 1) := by decide +kernel
theorem dX6_type_36 : decode cX6_type 36 = .ok (.aload_n 0, 1) := by decide +kernel
theorem dX6_type_37 : decode cX6_type 37 = .ok (.dup, 1) := by decide +kernel
theorem dX6_type_38 : decode cX6_type 38 = .ok (.getfield 73, 3) := by decide +kernel
theorem dX6_type_41 : decode cX6_type 41 = .ok (.iconst 1, 1) := by decide +kernel
theorem dX6_type_42 : decode cX6_type 42 = .ok (.iadd, 1) := by decide +kernel
theorem dX6_type_43 : decode cX6_type 43 = .ok (.putfield 73, 3) := by decide +kernel
theorem dX6_type_46 : decode cX6_type 46 = .ok (.aload_n 0, 1) := by decide +kernel
theorem dX6_type_47 : decode cX6_type 47 = .ok (.getfield 73, 3) := by decide +kernel
theorem dX6_type_50 : decode cX6_type 50 = .ok (.ireturn, 1) := by decide +kernel
theorem dX6_clear_0 : decode cX6_clear 0 = .ok (.aload_n 0, 1) := by decide +kernel
theorem dX6_clear_1 : decode cX6_clear 1 = .ok (.getfield 73, 3) := by decide +kernel
theorem dX6_clear_4 : decode cX6_clear 4 = .ok (.istore_n 1, 1) := by decide +kernel
theorem dX6_clear_5 : decode cX6_clear 5 = .ok (.aload_n 0, 1) := by decide +kernel
theorem dX6_clear_6 : decode cX6_clear 6 = .ok (.iconst 0, 1) := by decide +kernel
theorem dX6_clear_7 : decode cX6_clear 7 = .ok (.putfield 73, 3) := by decide +kernel
theorem dX6_clear_10 : decode cX6_clear 10 = .ok (.iload_n 1, 1) := by decide +kernel
theorem dX6_clear_11 : decode cX6_clear 11 = .ok (.ireturn, 1) := by decide +kernel
theorem dX6_blanks_0 : decode cX6_blanks 0 = .ok (.aload_n 0, 1) := by decide +kernel
theorem dX6_blanks_1 : decode cX6_blanks 1 = .ok (.getfield 76, 3) := by decide +kernel
theorem dX6_blanks_4 : decode cX6_blanks 4 = .ok (.aload_n 0, 1) := by decide +kernel
theorem dX6_blanks_5 : decode cX6_blanks 5 = .ok (.getfield 73, 3) := by decide +kernel
theorem dX6_blanks_8 : decode cX6_blanks 8 = .ok (.if_icmp .ge 30, 3) := by decide +kernel
theorem dX6_blanks_11 : decode cX6_blanks 11 = .ok (.aload_n 0, 1) := by decide +kernel
theorem dX6_blanks_12 : decode cX6_blanks 12 = .ok (.getfield 23, 3) := by decide +kernel
theorem dX6_blanks_15 : decode cX6_blanks 15 = .ok (.aload_n 0, 1) := by decide +kernel
theorem dX6_blanks_16 : decode cX6_blanks 16 = .ok (.getfield 76, 3) := by decide +kernel
theorem dX6_blanks_19 : decode cX6_blanks 19 = .ok (.iaload, 1) := by decide +kernel
end
section
theorem dX6_blanks_20 : decode cX6_blanks 20 = .ok (.bipush 32, 2) := by decide +kernel
theorem dX6_blanks_22 : decode cX6_blanks 22 = .ok (.if_icmp .ne 16, 3) := by decide +kernel
theorem dX6_blanks_25 : decode cX6_blanks 25 = .ok (.aload_n 0, 1) := by decide +kernel
theorem dX6_blanks_26 : decode cX6_blanks 26 = .ok (.dup, 1) := by decide +kernel
theorem dX6_blanks_27 : decode cX6_blanks 27 = .ok (.getfield 76, 3) := by decide +kernel
theorem dX6_blanks_30 : decode cX6_blanks 30 = .ok (.iconst 1, 1) := by decide +kernel
theorem dX6_blanks_31 : decode cX6_blanks 31 = .ok (.iadd, 1) := by decide +kernel
theorem dX6_blanks_32 : decode cX6_blanks 32 = .ok (.putfield 76, 3) := by decide +kernel
theorem dX6_blanks_35 : decode cX6_blanks 35 = .ok (.goto (-35), 3) := by decide +kernel
theorem dX6_blanks_38 : decode cX6_blanks 38 = .ok (.aload_n 0, 1) := by decide +kernel
theorem dX6_blanks_39 : decode cX6_blanks 39 = .ok (.aload_n 0, 1) := by decide +kernel
theorem dX6_blanks_40 : decode cX6_blanks 40 = .ok (.getfield 76, 3) := by decide +kernel
theorem dX6_blanks_43 : decode cX6_blanks 43 = .ok (.putfield 79, 3) := by decide +kernel
theorem dX6_blanks_46 : decode cX6_blanks 46 = .ok (.return_, 1) := by decide +kernel
theorem dX6_isAt_0 : decode cX6_isAt 0 = .ok (.aload_n 0, 1) := by decide +kernel
theorem dX6_isAt_1 : decode cX6_isAt 1 = .ok (.getfield 76, 3) := by decide +kernel
theorem dX6_isAt_4 : decode cX6_isAt 4 = .ok (.aload_n 0, 1) := by decide +kernel
theorem dX6_isAt_5 : decode cX6_isAt 5 = .ok (.getfield 73, 3) := by decide +kernel
theorem dX6_isAt_8 : decode cX6_isAt 8 = .ok (.if_icmp .ge 24, 3) := by decide +kernel
theorem dX6_isAt_11 : decode cX6_isAt 11 = .ok (.aload_n 0, 1) := by decide +kernel
theorem dX6_isAt_12 : decode cX6_isAt 12 = .ok (.getfield 23, 3) := by decide +kernel
theorem dX6_isAt_15 : decode cX6_isAt 15 = .ok (.aload_n 0, 1) := by decide +kernel
theorem dX6_isAt_16 : decode cX6_isAt 16 = .ok (.getfield 76, 3) := by decide +kernel
theorem dX6_isAt_19 : decode cX6_isAt 19 = .ok (.iaload, 1) := by decide +kernel
theorem dX6_isAt_20 : decode cX6_isAt 20 = .ok (.iload_n 1, 1) := by decide +kernel
theorem dX6_isAt_21 : decode cX6_isAt 21 = .ok (.iload_n 2, 1) := by decide +kernel
theorem dX6_isAt_22 : decode cX6_isAt 22 = .ok (.invokestatic 62, 3) := by decide +kernel
theorem dX6_isAt_25 : decode cX6_isAt 25 = .ok (.ifCond .eq 7, 3) := by decide +kernel
theorem dX6_isAt_28 : decode cX6_isAt 28 = .ok (.iconst 1, 1) := by decide +kernel
theorem dX6_isAt_29 : decode cX6_isAt 29 = .ok (.goto 4, 3) := by decide +kernel
theorem dX6_isAt_32 : decode cX6_isAt 32 = .ok (.iconst 0, 1) := by decide +kernel
theorem dX6_isAt_33 : decode cX6_isAt 33 = .ok (.ireturn, 1) := by decide +kernel
theorem dX6_takesNumber_0 : decode cX6_takesNumber 0 = .ok (.aload_n 0, 1) := by decide +kernel
theorem dX6_takesNumber_1 : decode cX6_takesNumber 1 = .ok (.invokevirtual 82, 3) := by decide +kernel
theorem dX6_takesNumber_4 : decode cX6_takesNumber 4 = .ok (.aload_n 0, 1) := by decide +kernel
theorem dX6_takesNumber_5 : decode cX6_takesNumber 5 = .ok (.iconst 0, 1) := by decide +kernel
theorem dX6_takesNumber_6 : decode cX6_takesNumber 6 = .ok (.putfield 85, 3) := by decide +kernel
theorem dX6_takesNumber_9 : decode cX6_takesNumber 9 = .ok (.aload_n 0, 1) := by decide +kernel
theorem dX6_takesNumber_10 : decode cX6_takesNumber 10 = .ok (.bipush 48, 2) := by decide +kernel
theorem dX6_takesNumber_12 : decode cX6_takesNumber 12 = .ok (.bipush 57, 2) := by decide +kernel
theorem dX6_takesNumber_14 : decode cX6_takesNumber 14 = .ok (.invokevirtual 88, 3) := by decide +kernel
theorem dX6_takesNumber_17 : decode cX6_takesNumber 17 = .ok (.ifCond .eq 56, 3) := by decide +kernel
theorem dX6_takesNumber_20 : decode cX6_takesNumber 20 = .ok (.aload_n 0, 1) := by decide +kernel
theorem dX6_takesNumber_21 : decode cX6_takesNumber 21 = .ok (.aload_n 0, 1) := by decide +kernel
theorem dX6_takesNumber_22 : decode cX6_takesNumber 22 = .ok (.getfield 85, 3) := by decide +kernel
theorem dX6_takesNumber_25 : decode cX6_takesNumber 25 = .ok (.sipush 999, 3) := by decide +kernel
theorem dX6_takesNumber_28 : decode cX6_takesNumber 28 = .ok (.if_icmp .le 9, 3) := by decide +kernel
theorem dX6_takesNumber_31 : decode cX6_takesNumber 31 = .ok (.sipush 1000, 3) := by decide +kernel
theorem dX6_takesNumber_34 : decode cX6_takesNumber 34 = .ok (.goto 23, 3) := by decide +kernel
theorem dX6_takesNumber_37 : decode cX6_takesNumber 37 = .ok (.bipush 10, 2) := by decide +kernel
theorem dX6_takesNumber_39 : decode cX6_takesNumber 39 = .ok (.aload_n 0, 1) := by decide +kernel
theorem dX6_takesNumber_40 : decode cX6_takesNumber 40 = .ok (.getfield 85, 3) := by decide +kernel
theorem dX6_takesNumber_43 : decode cX6_takesNumber 43 = .ok (.imul, 1) := by decide +kernel
theorem dX6_takesNumber_44 : decode cX6_takesNumber 44 = .ok (.aload_n 0, 1) := by decide +kernel
theorem dX6_takesNumber_45 : decode cX6_takesNumber 45 = .ok (.getfield 23, 3) := by decide +kernel
theorem dX6_takesNumber_48 : decode cX6_takesNumber 48 = .ok (.aload_n 0, 1) := by decide +kernel
theorem dX6_takesNumber_49 : decode cX6_takesNumber 49 = .ok (.getfield 76, 3) := by decide +kernel
theorem dX6_takesNumber_52 : decode cX6_takesNumber 52 = .ok (.iaload, 1) := by decide +kernel
theorem dX6_takesNumber_53 : decode cX6_takesNumber 53 = .ok (.iadd, 1) := by decide +kernel
theorem dX6_takesNumber_54 : decode cX6_takesNumber 54 = .ok (.bipush 48, 2) := by decide +kernel
theorem dX6_takesNumber_56 : decode cX6_takesNumber 56 = .ok (.isub, 1) := by decide +kernel
theorem dX6_takesNumber_57 : decode cX6_takesNumber 57 = .ok (.putfield 85, 3) := by decide +kernel
theorem dX6_takesNumber_60 : decode cX6_takesNumber 60 = .ok (.aload_n 0, 1) := by decide +kernel
theorem dX6_takesNumber_61 : decode cX6_takesNumber 61 = .ok (.dup, 1) := by decide +kernel
theorem dX6_takesNumber_62 : decode cX6_takesNumber 62 = .ok (.getfield 76, 3) := by decide +kernel
theorem dX6_takesNumber_65 : decode cX6_takesNumber 65 = .ok (.iconst 1, 1) := by decide +kernel
theorem dX6_takesNumber_66 : decode cX6_takesNumber 66 = .ok (.iadd, 1) := by decide +kernel
theorem dX6_takesNumber_67 : decode cX6_takesNumber 67 = .ok (.putfield 76, 3) := by decide +kernel
theorem dX6_takesNumber_70 : decode cX6_takesNumber 70 = .ok (.goto (-61), 3) := by decide +kernel
theorem dX6_takesNumber_73 : decode cX6_takesNumber 73 = .ok (.aload_n 0, 1) := by decide +kernel
theorem dX6_takesNumber_74 : decode cX6_takesNumber 74 = .ok (.getfield 76, 3) := by decide +kernel
theorem dX6_takesNumber_77 : decode cX6_takesNumber 77 = .ok (.aload_n 0, 1) := by decide +kernel
theorem dX6_takesNumber_78 : decode cX6_takesNumber 78 = .ok (.getfield 79, 3) := by decide +kernel
theorem dX6_takesNumber_81 : decode cX6_takesNumber 81 = .ok (.iconst 1, 1) := by decide +kernel
theorem dX6_takesNumber_82 : decode cX6_takesNumber 82 = .ok (.iadd, 1) := by decide +kernel
theorem dX6_takesNumber_83 : decode cX6_takesNumber 83 = .ok (.if_icmp .eq 28, 3) := by decide +kernel
theorem dX6_takesNumber_86 : decode cX6_takesNumber 86 = .ok (.aload_n 0, 1) := by decide +kernel
theorem dX6_takesNumber_87 : decode cX6_takesNumber 87 = .ok (.getfield 76, 3) := by decide +kernel
theorem dX6_takesNumber_90 : decode cX6_takesNumber 90 = .ok (.aload_n 0, 1) := by decide +kernel
theorem dX6_takesNumber_91 : decode cX6_takesNumber 91 = .ok (.getfield 79, 3) := by decide +kernel
theorem dX6_takesNumber_94 : decode cX6_takesNumber 94 = .ok (.if_icmp .le 21, 3) := by decide +kernel
theorem dX6_takesNumber_97 : decode cX6_takesNumber 97 = .ok (.aload_n 0, 1) := by decide +kernel
theorem dX6_takesNumber_98 : decode cX6_takesNumber 98 = .ok (.getfield 23, 3) := by decide +kernel
theorem dX6_takesNumber_101 : decode cX6_takesNumber 101 = .ok (.aload_n 0, 1) := by decide +kernel
theorem dX6_takesNumber_102 : decode cX6_takesNumber 102 = .ok (.getfield 79, 3) := by decide +kernel
theorem dX6_takesNumber_105 : decode cX6_takesNumber 105 = .ok (.iaload, 1) := by decide +kernel
theorem dX6_takesNumber_106 : decode cX6_takesNumber 106 = .ok (.bipush 48, 2) := by decide +kernel
theorem dX6_takesNumber_108 : decode cX6_takesNumber 108 = .ok (.if_icmp .eq 7, 3) := by decide +kernel
theorem dX6_takesNumber_111 : decode cX6_takesNumber 111 = .ok (.iconst 1, 1) := by decide +kernel
theorem dX6_takesNumber_112 : decode cX6_takesNumber 112 = .ok (.goto 4, 3) := by decide +kernel
theorem dX6_takesNumber_115 : decode cX6_takesNumber 115 = .ok (.iconst 0, 1) := by decide +kernel
theorem dX6_takesNumber_116 : decode cX6_takesNumber 116 = .ok (.istore_n 3, 1) := by decide +kernel
theorem dX6_takesNumber_117 : decode cX6_takesNumber 117 = .ok (.iload_n 3, 1) := by decide +kernel
theorem dX6_takesNumber_118 : decode cX6_takesNumber 118 = .ok (.ifCond .eq 29, 3) := by decide +kernel
theorem dX6_takesNumber_121 : decode cX6_takesNumber 121 = .ok (.aload_n 0, 1) := by decide +kernel
theorem dX6_takesNumber_122 : decode cX6_takesNumber 122 = .ok (.getfield 85, 3) := by decide +kernel
theorem dX6_takesNumber_125 : decode cX6_takesNumber 125 = .ok (.iload_n 1, 1) := by decide +kernel
theorem dX6_takesNumber_126 : decode cX6_takesNumber 126 = .ok (.iload_n 2, 1) := by decide +kernel
theorem dX6_takesNumber_127 : decode cX6_takesNumber 127 = .ok (.invokestatic 62, 3) := by decide +kernel
theorem dX6_takesNumber_130 : decode cX6_takesNumber 130 = .ok (.ifCond .eq 17, 3) := by decide +kernel
theorem dX6_takesNumber_133 : decode cX6_takesNumber 133 = .ok (.aload_n 0, 1) := by decide +kernel
theorem dX6_takesNumber_134 : decode cX6_takesNumber 134 = .ok (.getfield 85, 3) := by decide +kernel
theorem dX6_takesNumber_137 : decode cX6_takesNumber 137 = .ok (.sipush 999, 3) := by decide +kernel
theorem dX6_takesNumber_140 : decode cX6_takesNumber 140 = .ok (.if_icmp .gt 7, 3) := by decide +kernel
theorem dX6_takesNumber_143 : decode cX6_takesNumber 143 = .ok (.iconst 1, 1) := by decide +kernel
theorem dX6_takesNumber_144 : decode cX6_takesNumber 144 = .ok (.goto 4, 3) := by decide +kernel
theorem dX6_takesNumber_147 : decode cX6_takesNumber 147 = .ok (.iconst 0, 1) := by decide +kernel
theorem dX6_takesNumber_148 : decode cX6_takesNumber 148 = .ok (.ireturn, 1) := by decide +kernel
theorem dX6_takesStop_0 : decode cX6_takesStop 0 = .ok (.aload_n 0, 1) := by decide +kernel
theorem dX6_takesStop_1 : decode cX6_takesStop 1 = .ok (.invokevirtual 82, 3) := by decide +kernel
theorem dX6_takesStop_4 : decode cX6_takesStop 4 = .ok (.aload_n 0, 1) := by decide +kernel
theorem dX6_takesStop_5 : decode cX6_takesStop 5 = .ok (.bipush 59, 2) := by decide +kernel
theorem dX6_takesStop_7 : decode cX6_takesStop 7 = .ok (.bipush 59, 2) := by decide +kernel
theorem dX6_takesStop_9 : decode cX6_takesStop 9 = .ok (.invokevirtual 88, 3) := by decide +kernel
theorem dX6_takesStop_12 : decode cX6_takesStop 12 = .ok (.istore_n 1, 1) := by decide +kernel
theorem dX6_takesStop_13 : decode cX6_takesStop 13 = .ok (.aload_n 0, 1) := by decide +kernel
theorem dX6_takesStop_14 : decode cX6_takesStop 14 = .ok (.dup, 1) := by decide +kernel
theorem dX6_takesStop_15 : decode cX6_takesStop 15 = .ok (.getfield 76, 3) := by decide +kernel
theorem dX6_takesStop_18 : decode cX6_takesStop 18 = .ok (.iload_n 1, 1) := by decide +kernel
theorem dX6_takesStop_19 : decode cX6_takesStop 19 = .ok (.ifCond .eq 7, 3) := by decide +kernel
theorem dX6_takesStop_22 : decode cX6_takesStop 22 = .ok (.iconst 1, 1) := by decide +kernel
theorem dX6_takesStop_23 : decode cX6_takesStop 23 = .ok (.goto 4, 3) := by decide +kernel
theorem dX6_takesStop_26 : decode cX6_takesStop 26 = .ok (.iconst 0, 1) := by decide +kernel
theorem dX6_takesStop_27 : decode cX6_takesStop 27 = .ok (.iadd, 1) := by decide +kernel
theorem dX6_takesStop_28 : decode cX6_takesStop 28 = .ok (.putfield 76, 3) := by decide +kernel
theorem dX6_takesStop_31 : decode cX6_takesStop 31 = .ok (.iload_n 1, 1) := by decide +kernel
theorem dX6_takesStop_32 : decode cX6_takesStop 32 = .ok (.ireturn, 1) := by decide +kernel
theorem dX6_takesLeg_0 : decode cX6_takesLeg 0 = .ok (.aload_n 0, 1) := by decide +kernel
theorem dX6_takesLeg_1 : decode cX6_takesLeg 1 = .ok (.getfield 29, 3) := by decide +kernel
theorem dX6_takesLeg_4 : decode cX6_takesLeg 4 = .ok (.iconst 0, 1) := by decide +kernel
theorem dX6_takesLeg_5 : decode cX6_takesLeg 5 = .ok (.iaload, 1) := by decide +kernel
theorem dX6_takesLeg_6 : decode cX6_takesLeg 6 = .ok (.istore_n 1, 1) := by decide +kernel
theorem dX6_takesLeg_7 : decode cX6_takesLeg 7 = .ok (.iload_n 1, 1) := by decide +kernel
theorem dX6_takesLeg_8 : decode cX6_takesLeg 8 = .ok (.bipush 6, 2) := by decide +kernel
theorem dX6_takesLeg_10 : decode cX6_takesLeg 10 = .ok (.if_icmp .ne 5, 3) := by decide +kernel
theorem dX6_takesLeg_13 : decode cX6_takesLeg 13 = .ok (.iconst 0, 1) := by decide +kernel
theorem dX6_takesLeg_14 : decode cX6_takesLeg 14 = .ok (.ireturn, 1) := by decide +kernel
theorem dX6_takesLeg_15 : decode cX6_takesLeg 15 = .ok (.aload_n 0, 1) := by decide +kernel
theorem dX6_takesLeg_16 : decode cX6_takesLeg 16 = .ok (.dup, 1) := by decide +kernel
theorem dX6_takesLeg_17 : decode cX6_takesLeg 17 = .ok (.getfield 76, 3) := by decide +kernel
theorem dX6_takesLeg_20 : decode cX6_takesLeg 20 = .ok (.iconst 1, 1) := by decide +kernel
theorem dX6_takesLeg_21 : decode cX6_takesLeg 21 = .ok (.iadd, 1) := by decide +kernel
theorem dX6_takesLeg_22 : decode cX6_takesLeg 22 = .ok (.putfield 76, 3) := by decide +kernel
theorem dX6_takesLeg_25 : decode cX6_takesLeg 25 = .ok (.iconst 0, 1) := by decide +kernel
theorem dX6_takesLeg_26 : decode cX6_takesLeg 26 = .ok (.istore_n 2, 1) := by decide +kernel
theorem dX6_takesLeg_27 : decode cX6_takesLeg 27 = .ok (.iload_n 2, 1) := by decide +kernel
theorem dX6_takesLeg_28 : decode cX6_takesLeg 28 = .ok (.iconst 4, 1) := by decide +kernel
theorem dX6_takesLeg_29 : decode cX6_takesLeg 29 = .ok (.if_icmp .ge 83, 3) := by decide +kernel
theorem dX6_takesLeg_32 : decode cX6_takesLeg 32 = .ok (.iload_n 2, 1) := by decide +kernel
theorem dX6_takesLeg_33 : decode cX6_takesLeg 33 = .ok (.ifCond .ne 7, 3) := by decide +kernel
theorem dX6_takesLeg_36 : decode cX6_takesLeg 36 = .ok (.iconst 1, 1) := by decide +kernel
theorem dX6_takesLeg_37 : decode cX6_takesLeg 37 = .ok (.goto 22, 3) := by decide +kernel
theorem dX6_takesLeg_40 : decode cX6_takesLeg 40 = .ok (.iload_n 2, 1) := by decide +kernel
theorem dX6_takesLeg_41 : decode cX6_takesLeg 41 = .ok (.iconst 3, 1) := by decide +kernel
theorem dX6_takesLeg_42 : decode cX6_takesLeg 42 = .ok (.if_icmp .ne 16, 3) := by decide +kernel
theorem dX6_takesLeg_45 : decode cX6_takesLeg 45 = .ok (.aload_n 0, 1) := by decide +kernel
theorem dX6_takesLeg_46 : decode cX6_takesLeg 46 = .ok (.getfield 29, 3) := by decide +kernel
theorem dX6_takesLeg_49 : decode cX6_takesLeg 49 = .ok (.iload_n 1, 1) := by decide +kernel
theorem dX6_takesLeg_50 : decode cX6_takesLeg 50 = .ok (.iconst 2, 1) := by decide +kernel
theorem dX6_takesLeg_51 : decode cX6_takesLeg 51 = .ok (.invokestatic 66, 3) := by decide +kernel
theorem dX6_takesLeg_54 : decode cX6_takesLeg 54 = .ok (.iaload, 1) := by decide +kernel
theorem dX6_takesLeg_55 : decode cX6_takesLeg 55 = .ok (.goto 4, 3) := by decide +kernel
theorem dX6_takesLeg_58 : decode cX6_takesLeg 58 = .ok (.iconst 0, 1) := by decide +kernel
theorem dX6_takesLeg_59 : decode cX6_takesLeg 59 = .ok (.istore_n 3, 1) := by decide +kernel
theorem dX6_takesLeg_60 : decode cX6_takesLeg 60 = .ok (.aload_n 0, 1) := by decide +kernel
theorem dX6_takesLeg_61 : decode cX6_takesLeg 61 = .ok (.iload_n 3, 1) := by decide +kernel
theorem dX6_takesLeg_62 : decode cX6_takesLeg 62 = .ok (.iload_n 2, 1) := by decide +kernel
theorem dX6_takesLeg_63 : decode cX6_takesLeg 63 = .ok (.ifCond .ne 8, 3) := by decide +kernel
theorem dX6_takesLeg_66 : decode cX6_takesLeg 66 = .ok (.bipush 99, 2) := by decide +kernel
theorem dX6_takesLeg_68 : decode cX6_takesLeg 68 = .ok (.goto 16, 3) := by decide +kernel
theorem dX6_takesLeg_71 : decode cX6_takesLeg 71 = .ok (.iload_n 2, 1) := by decide +kernel
theorem dX6_takesLeg_72 : decode cX6_takesLeg 72 = .ok (.iconst 1, 1) := by decide +kernel
theorem dX6_takesLeg_73 : decode cX6_takesLeg 73 = .ok (.if_icmp .ne 8, 3) := by decide +kernel
theorem dX6_takesLeg_76 : decode cX6_takesLeg 76 = .ok (.bipush 9, 2) := by decide +kernel
theorem dX6_takesLeg_78 : decode cX6_takesLeg 78 = .ok (.goto 6, 3) := by decide +kernel
theorem dX6_takesLeg_81 : decode cX6_takesLeg 81 = .ok (.sipush 999, 3) := by decide +kernel
theorem dX6_takesLeg_84 : decode cX6_takesLeg 84 = .ok (.invokevirtual 92, 3) := by decide +kernel
theorem dX6_takesLeg_87 : decode cX6_takesLeg 87 = .ok (.ifCond .ne 5, 3) := by decide +kernel
theorem dX6_takesLeg_90 : decode cX6_takesLeg 90 = .ok (.iconst 0, 1) := by decide +kernel
theorem dX6_takesLeg_91 : decode cX6_takesLeg 91 = .ok (.ireturn, 1) := by decide +kernel
theorem dX6_takesLeg_92 : decode cX6_takesLeg 92 = .ok (.aload_n 0, 1) := by decide +kernel
theorem dX6_takesLeg_93 : decode cX6_takesLeg 93 = .ok (.getfield 29, 3) := by decide +kernel
theorem dX6_takesLeg_96 : decode cX6_takesLeg 96 = .ok (.iload_n 1, 1) := by decide +kernel
theorem dX6_takesLeg_97 : decode cX6_takesLeg 97 = .ok (.iload_n 2, 1) := by decide +kernel
theorem dX6_takesLeg_98 : decode cX6_takesLeg 98 = .ok (.invokestatic 66, 3) := by decide +kernel
theorem dX6_takesLeg_101 : decode cX6_takesLeg 101 = .ok (.aload_n 0, 1) := by decide +kernel
theorem dX6_takesLeg_102 : decode cX6_takesLeg 102 = .ok (.getfield 85, 3) := by decide +kernel
theorem dX6_takesLeg_105 : decode cX6_takesLeg 105 = .ok (.iastore, 1) := by decide +kernel
theorem dX6_takesLeg_106 : decode cX6_takesLeg 106 = .ok (.iinc 2 1, 3) := by decide +kernel
theorem dX6_takesLeg_109 : decode cX6_takesLeg 109 = .ok (.goto (-82), 3) := by decide +kernel
theorem dX6_takesLeg_112 : decode cX6_takesLeg 112 = .ok (.aload_n 0, 1) := by decide +kernel
theorem dX6_takesLeg_113 : decode cX6_takesLeg 113 = .ok (.getfield 29, 3) := by decide +kernel
theorem dX6_takesLeg_116 : decode cX6_takesLeg 116 = .ok (.iconst 0, 1) := by decide +kernel
theorem dX6_takesLeg_117 : decode cX6_takesLeg 117 = .ok (.dup2, 1) := by decide +kernel
theorem dX6_takesLeg_118 : decode cX6_takesLeg 118 = .ok (.iaload, 1) := by decide +kernel
theorem dX6_takesLeg_119 : decode cX6_takesLeg 119 = .ok (.iconst 1, 1) := by decide +kernel
theorem dX6_takesLeg_120 : decode cX6_takesLeg 120 = .ok (.iadd, 1) := by decide +kernel
theorem dX6_takesLeg_121 : decode cX6_takesLeg 121 = .ok (.iastore, 1) := by decide +kernel
theorem dX6_takesLeg_122 : decode cX6_takesLeg 122 = .ok (.aload_n 0, 1) := by decide +kernel
theorem dX6_takesLeg_123 : decode cX6_takesLeg 123 = .ok (.invokevirtual 95, 3) := by decide +kernel
theorem dX6_takesLeg_126 : decode cX6_takesLeg 126 = .ok (.ireturn, 1) := by decide +kernel
theorem dX6_takesFastest_0 : decode cX6_takesFastest 0 = .ok (.aload_n 0, 1) := by decide +kernel
theorem dX6_takesFastest_1 : decode cX6_takesFastest 1 = .ok (.getfield 99, 3) := by decide +kernel
theorem dX6_takesFastest_4 : decode cX6_takesFastest 4 = .ok (.ifCond .eq 5, 3) := by decide +kernel
theorem dX6_takesFastest_7 : decode cX6_takesFastest 7 = .ok (.iconst 0, 1) := by decide +kernel
theorem dX6_takesFastest_8 : decode cX6_takesFastest 8 = .ok (.ireturn, 1) := by decide +kernel
theorem dX6_takesFastest_9 : decode cX6_takesFastest 9 = .ok (.aload_n 0, 1) := by decide +kernel
theorem dX6_takesFastest_10 : decode cX6_takesFastest 10 = .ok (.iconst 1, 1) := by decide +kernel
theorem dX6_takesFastest_11 : decode cX6_takesFastest 11 = .ok (.putfield 99, 3) := by decide +kernel
theorem dX6_takesFastest_14 : decode cX6_takesFastest 14 = .ok (.aload_n 0, 1) := by decide +kernel
theorem dX6_takesFastest_15 : decode cX6_takesFastest 15 = .ok (.dup, 1) := by decide +kernel
theorem dX6_takesFastest_16 : decode cX6_takesFastest 16 = .ok (.getfield 76, 3) := by decide +kernel
theorem dX6_takesFastest_19 : decode cX6_takesFastest 19 = .ok (.iconst 1, 1) := by decide +kernel
theorem dX6_takesFastest_20 : decode cX6_takesFastest 20 = .ok (.iadd, 1) := by decide +kernel
theorem dX6_takesFastest_21 : decode cX6_takesFastest 21 = .ok (.putfield 76, 3) := by decide +kernel
theorem dX6_takesFastest_24 : decode cX6_takesFastest 24 = .ok (.aload_n 0, 1) := by decide +kernel
theorem dX6_takesFastest_25 : decode cX6_takesFastest 25 = .ok (.iconst 1, 1) := by decide +kernel
theorem dX6_takesFastest_26 : decode cX6_takesFastest 26 = .ok (.bipush 60, 2) := by decide +kernel
theorem dX6_takesFastest_28 : decode cX6_takesFastest 28 = .ok (.invokevirtual 92, 3) := by decide +kernel
theorem dX6_takesFastest_31 : decode cX6_takesFastest 31 = .ok (.ifCond .ne 5, 3) := by decide +kernel
theorem dX6_takesFastest_34 : decode cX6_takesFastest 34 = .ok (.iconst 0, 1) := by decide +kernel
theorem dX6_takesFastest_35 : decode cX6_takesFastest 35 = .ok (.ireturn, 1) := by decide +kernel
theorem dX6_takesFastest_36 : decode cX6_takesFastest 36 = .ok (.aload_n 0, 1) := by decide +kernel
theorem dX6_takesFastest_37 : decode cX6_takesFastest 37 = .ok (.getfield 29, 3) := by decide +kernel
theorem dX6_takesFastest_40 : decode cX6_takesFastest 40 = .ok (.iconst 1, 1) := by decide +kernel
theorem dX6_takesFastest_41 : decode cX6_takesFastest 41 = .ok (.aload_n 0, 1) := by decide +kernel
theorem dX6_takesFastest_42 : decode cX6_takesFastest 42 = .ok (.getfield 85, 3) := by decide +kernel
theorem dX6_takesFastest_45 : decode cX6_takesFastest 45 = .ok (.iastore, 1) := by decide +kernel
theorem dX6_takesFastest_46 : decode cX6_takesFastest 46 = .ok (.aload_n 0, 1) := by decide +kernel
theorem dX6_takesFastest_47 : decode cX6_takesFastest 47 = .ok (.invokevirtual 95, 3) := by decide +kernel
theorem dX6_takesFastest_50 : decode cX6_takesFastest 50 = .ok (.ireturn, 1) := by decide +kernel
theorem dX6_takesTable_0 : decode cX6_takesTable 0 = .ok (.aload_n 0, 1) := by decide +kernel
theorem dX6_takesTable_1 : decode cX6_takesTable 1 = .ok (.getfield 103, 3) := by decide +kernel
theorem dX6_takesTable_4 : decode cX6_takesTable 4 = .ok (.ifCond .eq 5, 3) := by decide +kernel
theorem dX6_takesTable_7 : decode cX6_takesTable 7 = .ok (.iconst 0, 1) := by decide +kernel
theorem dX6_takesTable_8 : decode cX6_takesTable 8 = .ok (.ireturn, 1) := by decide +kernel
theorem dX6_takesTable_9 : decode cX6_takesTable 9 = .ok (.aload_n 0, 1) := by decide +kernel
theorem dX6_takesTable_10 : decode cX6_takesTable 10 = .ok (.iconst 1, 1) := by decide +kernel
theorem dX6_takesTable_11 : decode cX6_takesTable 11 = .ok (.putfield 103, 3) := by decide +kernel
theorem dX6_takesTable_14 : decode cX6_takesTable 14 = .ok (.aload_n 0, 1) := by decide +kernel
theorem dX6_takesTable_15 : decode cX6_takesTable 15 = .ok (.dup, 1) := by decide +kernel
theorem dX6_takesTable_16 : decode cX6_takesTable 16 = .ok (.getfield 76, 3) := by decide +kernel
theorem dX6_takesTable_19 : decode cX6_takesTable 19 = .ok (.iconst 1, 1) := by decide +kernel
theorem dX6_takesTable_20 : decode cX6_takesTable 20 = .ok (.iadd, 1) := by decide +kernel
theorem dX6_takesTable_21 : decode cX6_takesTable 21 = .ok (.putfield 76, 3) := by decide +kernel
theorem dX6_takesTable_24 : decode cX6_takesTable 24 = .ok (.iconst 0, 1) := by decide +kernel
theorem dX6_takesTable_25 : decode cX6_takesTable 25 = .ok (.istore_n 1, 1) := by decide +kernel
theorem dX6_takesTable_26 : decode cX6_takesTable 26 = .ok (.iload_n 1, 1) := by decide +kernel
theorem dX6_takesTable_27 : decode cX6_takesTable 27 = .ok (.iconst 4, 1) := by decide +kernel
theorem dX6_takesTable_28 : decode cX6_takesTable 28 = .ok (.if_icmp .ge 77, 3) := by decide +kernel
theorem dX6_takesTable_31 : decode cX6_takesTable 31 = .ok (.iload_n 1, 1) := by decide +kernel
theorem dX6_takesTable_32 : decode cX6_takesTable 32 = .ok (.ifCond .ne 7, 3) := by decide +kernel
theorem dX6_takesTable_35 : decode cX6_takesTable 35 = .ok (.iconst 0, 1) := by decide +kernel
theorem dX6_takesTable_36 : decode cX6_takesTable 36 = .ok (.goto 13, 3) := by decide +kernel
theorem dX6_takesTable_39 : decode cX6_takesTable 39 = .ok (.aload_n 0, 1) := by decide +kernel
theorem dX6_takesTable_40 : decode cX6_takesTable 40 = .ok (.getfield 29, 3) := by decide +kernel
theorem dX6_takesTable_43 : decode cX6_takesTable 43 = .ok (.iconst 5, 1) := by decide +kernel
theorem dX6_takesTable_44 : decode cX6_takesTable 44 = .ok (.iload_n 1, 1) := by decide +kernel
theorem dX6_takesTable_45 : decode cX6_takesTable 45 = .ok (.iadd, 1) := by decide +kernel
theorem dX6_takesTable_46 : decode cX6_takesTable 46 = .ok (.iconst 1, 1) := by decide +kernel
theorem dX6_takesTable_47 : decode cX6_takesTable 47 = .ok (.isub, 1) := by decide +kernel
theorem dX6_takesTable_48 : decode cX6_takesTable 48 = .ok (.iaload, 1) := by decide +kernel
theorem dX6_takesTable_49 : decode cX6_takesTable 49 = .ok (.istore_n 2, 1) := by decide +kernel
theorem dX6_takesTable_50 : decode cX6_takesTable 50 = .ok (.iload_n 1, 1) := by decide +kernel
theorem dX6_takesTable_51 : decode cX6_takesTable 51 = .ok (.iconst 2, 1) := by decide +kernel
theorem dX6_takesTable_52 : decode cX6_takesTable 52 = .ok (.if_icmp .ge 7, 3) := by decide +kernel
theorem dX6_takesTable_55 : decode cX6_takesTable 55 = .ok (.iload_n 2, 1) := by decide +kernel
theorem dX6_takesTable_56 : decode cX6_takesTable 56 = .ok (.goto 17, 3) := by decide +kernel
theorem dX6_takesTable_59 : decode cX6_takesTable 59 = .ok (.iconst 2, 1) := by decide +kernel
theorem dX6_takesTable_60 : decode cX6_takesTable 60 = .ok (.iload_n 2, 1) := by decide +kernel
theorem dX6_takesTable_61 : decode cX6_takesTable 61 = .ok (.imul, 1) := by decide +kernel
theorem dX6_takesTable_62 : decode cX6_takesTable 62 = .ok (.aload_n 0, 1) := by decide +kernel
theorem dX6_takesTable_63 : decode cX6_takesTable 63 = .ok (.getfield 29, 3) := by decide +kernel
theorem dX6_takesTable_66 : decode cX6_takesTable 66 = .ok (.iconst 5, 1) := by decide +kernel
theorem dX6_takesTable_67 : decode cX6_takesTable 67 = .ok (.iload_n 1, 1) := by decide +kernel
theorem dX6_takesTable_68 : decode cX6_takesTable 68 = .ok (.iadd, 1) := by decide +kernel
theorem dX6_takesTable_69 : decode cX6_takesTable 69 = .ok (.iconst 2, 1) := by decide +kernel
theorem dX6_takesTable_70 : decode cX6_takesTable 70 = .ok (.isub, 1) := by decide +kernel
theorem dX6_takesTable_71 : decode cX6_takesTable 71 = .ok (.iaload, 1) := by decide +kernel
theorem dX6_takesTable_72 : decode cX6_takesTable 72 = .ok (.isub, 1) := by decide +kernel
theorem dX6_takesTable_73 : decode cX6_takesTable 73 = .ok (.istore_n 3, 1) := by decide +kernel
theorem dX6_takesTable_74 : decode cX6_takesTable 74 = .ok (.aload_n 0, 1) := by decide +kernel
theorem dX6_takesTable_75 : decode cX6_takesTable 75 = .ok (.iload_n 3, 1) := by decide +kernel
theorem dX6_takesTable_76 : decode cX6_takesTable 76 = .ok (.sipush 999, 3) := by decide +kernel
theorem dX6_takesTable_79 : decode cX6_takesTable 79 = .ok (.invokevirtual 92, 3) := by decide +kernel
theorem dX6_takesTable_82 : decode cX6_takesTable 82 = .ok (.ifCond .ne 5, 3) := by decide +kernel
theorem dX6_takesTable_85 : decode cX6_takesTable 85 = .ok (.iconst 0, 1) := by decide +kernel
theorem dX6_takesTable_86 : decode cX6_takesTable 86 = .ok (.ireturn, 1) := by decide +kernel
theorem dX6_takesTable_87 : decode cX6_takesTable 87 = .ok (.aload_n 0, 1) := by decide +kernel
theorem dX6_takesTable_88 : decode cX6_takesTable 88 = .ok (.getfield 29, 3) := by decide +kernel
theorem dX6_takesTable_91 : decode cX6_takesTable 91 = .ok (.iconst 5, 1) := by decide +kernel
theorem dX6_takesTable_92 : decode cX6_takesTable 92 = .ok (.iload_n 1, 1) := by decide +kernel
theorem dX6_takesTable_93 : decode cX6_takesTable 93 = .ok (.iadd, 1) := by decide +kernel
theorem dX6_takesTable_94 : decode cX6_takesTable 94 = .ok (.aload_n 0, 1) := by decide +kernel
theorem dX6_takesTable_95 : decode cX6_takesTable 95 = .ok (.getfield 85, 3) := by decide +kernel
theorem dX6_takesTable_98 : decode cX6_takesTable 98 = .ok (.iastore, 1) := by decide +kernel
theorem dX6_takesTable_99 : decode cX6_takesTable 99 = .ok (.iinc 1 1, 3) := by decide +kernel
theorem dX6_takesTable_102 : decode cX6_takesTable 102 = .ok (.goto (-76), 3) := by decide +kernel
theorem dX6_takesTable_105 : decode cX6_takesTable 105 = .ok (.aload_n 0, 1) := by decide +kernel
theorem dX6_takesTable_106 : decode cX6_takesTable 106 = .ok (.invokevirtual 95, 3) := by decide +kernel
theorem dX6_takesTable_109 : decode cX6_takesTable 109 = .ok (.ireturn, 1) := by decide +kernel
theorem dX6_reads_0 : decode cX6_reads 0 = .ok (.aload_n 0, 1) := by decide +kernel
theorem dX6_reads_1 : decode cX6_reads 1 = .ok (.getfield 29, 3) := by decide +kernel
theorem dX6_reads_4 : decode cX6_reads 4 = .ok (.iconst 0, 1) := by decide +kernel
theorem dX6_reads_5 : decode cX6_reads 5 = .ok (.invokestatic 54, 3) := by decide +kernel
theorem dX6_reads_8 : decode cX6_reads 8 = .ok (.aload_n 0, 1) := by decide +kernel
theorem dX6_reads_9 : decode cX6_reads 9 = .ok (.iconst 0, 1) := by decide +kernel
theorem dX6_reads_10 : decode cX6_reads 10 = .ok (.putfield 99, 3) := by decide +kernel
theorem dX6_reads_13 : decode cX6_reads 13 = .ok (.aload_n 0, 1) := by decide +kernel
theorem dX6_reads_14 : decode cX6_reads 14 = .ok (.iconst 0, 1) := by decide +kernel
theorem dX6_reads_15 : decode cX6_reads 15 = .ok (.putfield 103, 3) := by decide +kernel
theorem dX6_reads_18 : decode cX6_reads 18 = .ok (.aload_n 0, 1) := by decide +kernel
theorem dX6_reads_19 : decode cX6_reads 19 = .ok (.iconst 0, 1) := by decide +kernel
theorem dX6_reads_20 : decode cX6_reads 20 = .ok (.putfield 76, 3) := by decide +kernel
theorem dX6_reads_23 : decode cX6_reads 23 = .ok (.iconst 0, 1) := by decide +kernel
theorem dX6_reads_24 : decode cX6_reads 24 = .ok (.istore_n 1, 1) := by decide +kernel
theorem dX6_reads_25 : decode cX6_reads 25 = .ok (.aload_n 0, 1) := by decide +kernel
theorem dX6_reads_26 : decode cX6_reads 26 = .ok (.invokevirtual 82, 3) := by decide +kernel
theorem dX6_reads_29 : decode cX6_reads 29 = .ok (.aload_n 0, 1) := by decide +kernel
theorem dX6_reads_30 : decode cX6_reads 30 = .ok (.getfield 76, 3) := by decide +kernel
theorem dX6_reads_33 : decode cX6_reads 33 = .ok (.aload_n 0, 1) := by decide +kernel
theorem dX6_reads_34 : decode cX6_reads 34 = .ok (.getfield 73, 3) := by decide +kernel
theorem dX6_reads_37 : decode cX6_reads 37 = .ok (.if_icmp .ge 80, 3) := by decide +kernel
theorem dX6_reads_40 : decode cX6_reads 40 = .ok (.aload_n 0, 1) := by decide +kernel
theorem dX6_reads_41 : decode cX6_reads 41 = .ok (.getfield 23, 3) := by decide +kernel
theorem dX6_reads_44 : decode cX6_reads 44 = .ok (.aload_n 0, 1) := by decide +kernel
theorem dX6_reads_45 : decode cX6_reads 45 = .ok (.getfield 76, 3) := by decide +kernel
theorem dX6_reads_48 : decode cX6_reads 48 = .ok (.iaload, 1) := by decide +kernel
theorem dX6_reads_49 : decode cX6_reads 49 = .ok (.istore_n 2, 1) := by decide +kernel
theorem dX6_reads_50 : decode cX6_reads 50 = .ok (.iload_n 2, 1) := by decide +kernel
theorem dX6_reads_51 : decode cX6_reads 51 = .ok (.bipush 108, 2) := by decide +kernel
theorem dX6_reads_53 : decode cX6_reads 53 = .ok (.if_icmp .ne 10, 3) := by decide +kernel
theorem dX6_reads_56 : decode cX6_reads 56 = .ok (.aload_n 0, 1) := by decide +kernel
theorem dX6_reads_57 : decode cX6_reads 57 = .ok (.invokevirtual 106, 3) := by decide +kernel
theorem dX6_reads_60 : decode cX6_reads 60 = .ok (.goto 34, 3) := by decide +kernel
theorem dX6_reads_63 : decode cX6_reads 63 = .ok (.iload_n 2, 1) := by decide +kernel
theorem dX6_reads_64 : decode cX6_reads 64 = .ok (.bipush 118, 2) := by decide +kernel
theorem dX6_reads_66 : decode cX6_reads 66 = .ok (.if_icmp .ne 10, 3) := by decide +kernel
theorem dX6_reads_69 : decode cX6_reads 69 = .ok (.aload_n 0, 1) := by decide +kernel
theorem dX6_reads_70 : decode cX6_reads 70 = .ok (.invokevirtual 109, 3) := by decide +kernel
theorem dX6_reads_73 : decode cX6_reads 73 = .ok (.goto 21, 3) := by decide +kernel
theorem dX6_reads_76 : decode cX6_reads 76 = .ok (.iload_n 2, 1) := by decide +kernel
theorem dX6_reads_77 : decode cX6_reads 77 = .ok (.bipush 102, 2) := by decide +kernel
theorem dX6_reads_79 : decode cX6_reads 79 = .ok (.if_icmp .ne 14, 3) := by decide +kernel
theorem dX6_reads_82 : decode cX6_reads 82 = .ok (.aload_n 0, 1) := by decide +kernel
theorem dX6_reads_83 : decode cX6_reads 83 = .ok (.invokevirtual 112, 3) := by decide +kernel
theorem dX6_reads_86 : decode cX6_reads 86 = .ok (.ifCond .eq 7, 3) := by decide +kernel
theorem dX6_reads_89 : decode cX6_reads 89 = .ok (.iconst 1, 1) := by decide +kernel
theorem dX6_reads_90 : decode cX6_reads 90 = .ok (.goto 4, 3) := by decide +kernel
theorem dX6_reads_93 : decode cX6_reads 93 = .ok (.iconst 0, 1) := by decide +kernel
theorem dX6_reads_94 : decode cX6_reads 94 = .ok (.istore_n 3, 1) := by decide +kernel
theorem dX6_reads_95 : decode cX6_reads 95 = .ok (.iload_n 3, 1) := by decide +kernel
theorem dX6_reads_96 : decode cX6_reads 96 = .ok (.ifCond .ne 11, 3) := by decide +kernel
theorem dX6_reads_99 : decode cX6_reads 99 = .ok (.bipush (-10), 2) := by decide +kernel
theorem dX6_reads_101 : decode cX6_reads 101 = .ok (.aload_n 0, 1) := by decide +kernel
theorem dX6_reads_102 : decode cX6_reads 102 = .ok (.getfield 79, 3) := by decide +kernel
theorem dX6_reads_105 : decode cX6_reads 105 = .ok (.isub, 1) := by decide +kernel
theorem dX6_reads_106 : decode cX6_reads 106 = .ok (.ireturn, 1) := by decide +kernel
theorem dX6_reads_107 : decode cX6_reads 107 = .ok (.iinc 1 1, 3) := by decide +kernel
theorem dX6_reads_110 : decode cX6_reads 110 = .ok (.aload_n 0, 1) := by decide +kernel
theorem dX6_reads_111 : decode cX6_reads 111 = .ok (.invokevirtual 82, 3) := by decide +kernel
theorem dX6_reads_114 : decode cX6_reads 114 = .ok (.goto (-85), 3) := by decide +kernel
theorem dX6_reads_117 : decode cX6_reads 117 = .ok (.iload_n 1, 1) := by decide +kernel
theorem dX6_reads_118 : decode cX6_reads 118 = .ok (.ireturn, 1) := by decide +kernel
theorem dX6_tells_0 : decode cX6_tells 0 = .ok (.iload_n 1, 1) := by decide +kernel
theorem dX6_tells_1 : decode cX6_tells 1 = .ok (.invokestatic 115, 3) := by decide +kernel
theorem dX6_tells_4 : decode cX6_tells 4 = .ok (.ifCond .ne 5, 3) := by decide +kernel
theorem dX6_tells_7 : decode cX6_tells 7 = .ok (.iconst (-1), 1) := by decide +kernel
theorem dX6_tells_8 : decode cX6_tells 8 = .ok (.ireturn, 1) := by decide +kernel
theorem dX6_tells_9 : decode cX6_tells 9 = .ok (.aload_n 0, 1) := by decide +kernel
theorem dX6_tells_10 : decode cX6_tells 10 = .ok (.invokevirtual 119, 3) := by decide +kernel
theorem dX6_tells_13 : decode cX6_tells 13 = .ok (.istore_n 2, 1) := by decide +kernel
theorem dX6_tells_14 : decode cX6_tells 14 = .ok (.iload_n 2, 1) := by decide +kernel
theorem dX6_tells_15 : decode cX6_tells 15 = .ok (.ifCond .ge 5, 3) := by decide +kernel
theorem dX6_tells_18 : decode cX6_tells 18 = .ok (.iload_n 2, 1) := by decide +kernel
theorem dX6_tells_19 : decode cX6_tells 19 = .ok (.ireturn, 1) := by decide +kernel
theorem dX6_tells_20 : decode cX6_tells 20 = .ok (.aload_n 0, 1) := by decide +kernel
theorem dX6_tells_21 : decode cX6_tells 21 = .ok (.invokevirtual 123, 3) := by decide +kernel
theorem dX6_tells_24 : decode cX6_tells 24 = .ok (.iconst 0, 1) := by decide +kernel
theorem dX6_tells_25 : decode cX6_tells 25 = .ok (.istore_n 3, 1) := by decide +kernel
theorem dX6_tells_26 : decode cX6_tells 26 = .ok (.iload_n 3, 1) := by decide +kernel
theorem dX6_tells_27 : decode cX6_tells 27 = .ok (.bipush 33, 2) := by decide +kernel
theorem dX6_tells_29 : decode cX6_tells 29 = .ok (.if_icmp .ge 26, 3) := by decide +kernel
theorem dX6_tells_32 : decode cX6_tells 32 = .ok (.aload_n 0, 1) := by decide +kernel
theorem dX6_tells_33 : decode cX6_tells 33 = .ok (.getfield 7, 3) := by decide +kernel
theorem dX6_tells_36 : decode cX6_tells 36 = .ok (.bipush 33, 2) := by decide +kernel
theorem dX6_tells_38 : decode cX6_tells 38 = .ok (.iload_n 1, 1) := by decide +kernel
theorem dX6_tells_39 : decode cX6_tells 39 = .ok (.imul, 1) := by decide +kernel
theorem dX6_tells_40 : decode cX6_tells 40 = .ok (.iload_n 3, 1) := by decide +kernel
theorem dX6_tells_41 : decode cX6_tells 41 = .ok (.iadd, 1) := by decide +kernel
theorem dX6_tells_42 : decode cX6_tells 42 = .ok (.aload_n 0, 1) := by decide +kernel
theorem dX6_tells_43 : decode cX6_tells 43 = .ok (.getfield 29, 3) := by decide +kernel
theorem dX6_tells_46 : decode cX6_tells 46 = .ok (.iload_n 3, 1) := by decide +kernel
theorem dX6_tells_47 : decode cX6_tells 47 = .ok (.iaload, 1) := by decide +kernel
theorem dX6_tells_48 : decode cX6_tells 48 = .ok (.iastore, 1) := by decide +kernel
theorem dX6_tells_49 : decode cX6_tells 49 = .ok (.iinc 3 1, 3) := by decide +kernel
theorem dX6_tells_52 : decode cX6_tells 52 = .ok (.goto (-26), 3) := by decide +kernel
theorem dX6_tells_55 : decode cX6_tells 55 = .ok (.aload_n 0, 1) := by decide +kernel
theorem dX6_tells_56 : decode cX6_tells 56 = .ok (.iconst 0, 1) := by decide +kernel
theorem dX6_tells_57 : decode cX6_tells 57 = .ok (.putfield 73, 3) := by decide +kernel
theorem dX6_tells_60 : decode cX6_tells 60 = .ok (.iload_n 2, 1) := by decide +kernel
theorem dX6_tells_61 : decode cX6_tells 61 = .ok (.ireturn, 1) := by decide +kernel
theorem dX6_lays_0 : decode cX6_lays 0 = .ok (.aload_n 0, 1) := by decide +kernel
theorem dX6_lays_1 : decode cX6_lays 1 = .ok (.iload_n 1, 1) := by decide +kernel
theorem dX6_lays_2 : decode cX6_lays 2 = .ok (.putfield 126, 3) := by decide +kernel
theorem dX6_lays_5 : decode cX6_lays 5 = .ok (.aload_n 0, 1) := by decide +kernel
theorem dX6_lays_6 : decode cX6_lays 6 = .ok (.aload_n 0, 1) := by decide +kernel
theorem dX6_lays_7 : decode cX6_lays 7 = .ok (.iload_n 1, 1) := by decide +kernel
theorem dX6_lays_8 : decode cX6_lays 8 = .ok (.iconst 2, 1) := by decide +kernel
theorem dX6_lays_9 : decode cX6_lays 9 = .ok (.invokevirtual 70, 3) := by decide +kernel
theorem dX6_lays_12 : decode cX6_lays 12 = .ok (.putfield 129, 3) := by decide +kernel
theorem dX6_lays_15 : decode cX6_lays 15 = .ok (.aload_n 0, 1) := by decide +kernel
theorem dX6_lays_16 : decode cX6_lays 16 = .ok (.aload_n 0, 1) := by decide +kernel
theorem dX6_lays_17 : decode cX6_lays 17 = .ok (.iload_n 1, 1) := by decide +kernel
theorem dX6_lays_18 : decode cX6_lays 18 = .ok (.iconst 0, 1) := by decide +kernel
theorem dX6_lays_19 : decode cX6_lays 19 = .ok (.invokevirtual 70, 3) := by decide +kernel
theorem dX6_lays_22 : decode cX6_lays 22 = .ok (.putfield 132, 3) := by decide +kernel
theorem dX6_lays_25 : decode cX6_lays 25 = .ok (.aload_n 0, 1) := by decide +kernel
theorem dX6_lays_26 : decode cX6_lays 26 = .ok (.getfield 32, 3) := by decide +kernel
theorem dX6_lays_29 : decode cX6_lays 29 = .ok (.iconst 0, 1) := by decide +kernel
theorem dX6_lays_30 : decode cX6_lays 30 = .ok (.iconst 0, 1) := by decide +kernel
theorem dX6_lays_31 : decode cX6_lays 31 = .ok (.iastore, 1) := by decide +kernel
theorem dX6_lays_32 : decode cX6_lays 32 = .ok (.iconst 0, 1) := by decide +kernel
theorem dX6_lays_33 : decode cX6_lays 33 = .ok (.istore 5, 2) := by decide +kernel
theorem dX6_lays_35 : decode cX6_lays 35 = .ok (.iconst 1, 1) := by decide +kernel
theorem dX6_lays_36 : decode cX6_lays 36 = .ok (.istore 6, 2) := by decide +kernel
theorem dX6_lays_38 : decode cX6_lays 38 = .ok (.iload 6, 2) := by decide +kernel
theorem dX6_lays_40 : decode cX6_lays 40 = .ok (.aload_n 0, 1) := by decide +kernel
theorem dX6_lays_41 : decode cX6_lays 41 = .ok (.getfield 132, 3) := by decide +kernel
theorem dX6_lays_44 : decode cX6_lays 44 = .ok (.if_icmp .gt 152, 3) := by decide +kernel
theorem dX6_lays_47 : decode cX6_lays 47 = .ok (.iload 6, 2) := by decide +kernel
theorem dX6_lays_49 : decode cX6_lays 49 = .ok (.iconst 1, 1) := by decide +kernel
theorem dX6_lays_50 : decode cX6_lays 50 = .ok (.isub, 1) := by decide +kernel
theorem dX6_lays_51 : decode cX6_lays 51 = .ok (.istore 7, 2) := by decide +kernel
theorem dX6_lays_53 : decode cX6_lays 53 = .ok (.aload_n 0, 1) := by decide +kernel
theorem dX6_lays_54 : decode cX6_lays 54 = .ok (.getfield 32, 3) := by decide +kernel
theorem dX6_lays_57 : decode cX6_lays 57 = .ok (.iload 6, 2) := by decide +kernel
theorem dX6_lays_59 : decode cX6_lays 59 = .ok (.aload_n 0, 1) := by decide +kernel
theorem dX6_lays_60 : decode cX6_lays 60 = .ok (.getfield 32, 3) := by decide +kernel
theorem dX6_lays_63 : decode cX6_lays 63 = .ok (.iload 7, 2) := by decide +kernel
theorem dX6_lays_65 : decode cX6_lays 65 = .ok (.iaload, 1) := by decide +kernel
theorem dX6_lays_66 : decode cX6_lays 66 = .ok (.aload_n 0, 1) := by decide +kernel
theorem dX6_lays_67 : decode cX6_lays 67 = .ok (.iload_n 1, 1) := by decide +kernel
theorem dX6_lays_68 : decode cX6_lays 68 = .ok (.iload 7, 2) := by decide +kernel
theorem dX6_lays_70 : decode cX6_lays 70 = .ok (.iconst 0, 1) := by decide +kernel
theorem dX6_lays_71 : decode cX6_lays 71 = .ok (.invokevirtual 135, 3) := by decide +kernel
theorem dX6_lays_74 : decode cX6_lays 74 = .ok (.iadd, 1) := by decide +kernel
theorem dX6_lays_75 : decode cX6_lays 75 = .ok (.iastore, 1) := by decide +kernel
theorem dX6_lays_76 : decode cX6_lays 76 = .ok (.aload_n 0, 1) := by decide +kernel
theorem dX6_lays_77 : decode cX6_lays 77 = .ok (.getfield 35, 3) := by decide +kernel
theorem dX6_lays_80 : decode cX6_lays 80 = .ok (.iload 6, 2) := by decide +kernel
theorem dX6_lays_82 : decode cX6_lays 82 = .ok (.iload 5, 2) := by decide +kernel
theorem dX6_lays_84 : decode cX6_lays 84 = .ok (.iastore, 1) := by decide +kernel
theorem dX6_lays_85 : decode cX6_lays 85 = .ok (.aload_n 0, 1) := by decide +kernel
theorem dX6_lays_86 : decode cX6_lays 86 = .ok (.getfield 38, 3) := by decide +kernel
theorem dX6_lays_89 : decode cX6_lays 89 = .ok (.iload 6, 2) := by decide +kernel
theorem dX6_lays_91 : decode cX6_lays 91 = .ok (.aload_n 0, 1) := by decide +kernel
theorem dX6_lays_92 : decode cX6_lays 92 = .ok (.iload_n 1, 1) := by decide +kernel
theorem dX6_lays_93 : decode cX6_lays 93 = .ok (.iload 7, 2) := by decide +kernel
theorem dX6_lays_95 : decode cX6_lays 95 = .ok (.iconst 2, 1) := by decide +kernel
theorem dX6_lays_96 : decode cX6_lays 96 = .ok (.invokevirtual 135, 3) := by decide +kernel
theorem dX6_lays_99 : decode cX6_lays 99 = .ok (.iload 5, 2) := by decide +kernel
theorem dX6_lays_101 : decode cX6_lays 101 = .ok (.isub, 1) := by decide +kernel
theorem dX6_lays_102 : decode cX6_lays 102 = .ok (.iload 6, 2) := by decide +kernel
theorem dX6_lays_104 : decode cX6_lays 104 = .ok (.iload_n 3, 1) := by decide +kernel
theorem dX6_lays_105 : decode cX6_lays 105 = .ok (.if_icmp .ne 12, 3) := by decide +kernel
theorem dX6_lays_108 : decode cX6_lays 108 = .ok (.iload 4, 2) := by decide +kernel
theorem dX6_lays_110 : decode cX6_lays 110 = .ok (.ifCond .ne 7, 3) := by decide +kernel
theorem dX6_lays_113 : decode cX6_lays 113 = .ok (.iconst 1, 1) := by decide +kernel
theorem dX6_lays_114 : decode cX6_lays 114 = .ok (.goto 4, 3) := by decide +kernel
theorem dX6_lays_117 : decode cX6_lays 117 = .ok (.iconst 0, 1) := by decide +kernel
theorem dX6_lays_118 : decode cX6_lays 118 = .ok (.isub, 1) := by decide +kernel
theorem dX6_lays_119 : decode cX6_lays 119 = .ok (.iastore, 1) := by decide +kernel
theorem dX6_lays_120 : decode cX6_lays 120 = .ok (.aload_n 0, 1) := by decide +kernel
theorem dX6_lays_121 : decode cX6_lays 121 = .ok (.getfield 41, 3) := by decide +kernel
theorem dX6_lays_124 : decode cX6_lays 124 = .ok (.iload 6, 2) := by decide +kernel
theorem dX6_lays_126 : decode cX6_lays 126 = .ok (.aload_n 0, 1) := by decide +kernel
theorem dX6_lays_127 : decode cX6_lays 127 = .ok (.iload_n 1, 1) := by decide +kernel
theorem dX6_lays_128 : decode cX6_lays 128 = .ok (.iload 7, 2) := by decide +kernel
theorem dX6_lays_130 : decode cX6_lays 130 = .ok (.iconst 3, 1) := by decide +kernel
theorem dX6_lays_131 : decode cX6_lays 131 = .ok (.invokevirtual 135, 3) := by decide +kernel
theorem dX6_lays_134 : decode cX6_lays 134 = .ok (.iload 5, 2) := by decide +kernel
theorem dX6_lays_136 : decode cX6_lays 136 = .ok (.isub, 1) := by decide +kernel
theorem dX6_lays_137 : decode cX6_lays 137 = .ok (.iload 6, 2) := by decide +kernel
theorem dX6_lays_139 : decode cX6_lays 139 = .ok (.iload_n 3, 1) := by decide +kernel
theorem dX6_lays_140 : decode cX6_lays 140 = .ok (.if_icmp .ne 13, 3) := by decide +kernel
theorem dX6_lays_143 : decode cX6_lays 143 = .ok (.iload 4, 2) := by decide +kernel
theorem dX6_lays_145 : decode cX6_lays 145 = .ok (.iconst 1, 1) := by decide +kernel
theorem dX6_lays_146 : decode cX6_lays 146 = .ok (.if_icmp .ne 7, 3) := by decide +kernel
theorem dX6_lays_149 : decode cX6_lays 149 = .ok (.iconst 1, 1) := by decide +kernel
theorem dX6_lays_150 : decode cX6_lays 150 = .ok (.goto 4, 3) := by decide +kernel
theorem dX6_lays_153 : decode cX6_lays 153 = .ok (.iconst 0, 1) := by decide +kernel
theorem dX6_lays_154 : decode cX6_lays 154 = .ok (.iadd, 1) := by decide +kernel
theorem dX6_lays_155 : decode cX6_lays 155 = .ok (.iastore, 1) := by decide +kernel
theorem dX6_lays_156 : decode cX6_lays 156 = .ok (.iload 5, 2) := by decide +kernel
theorem dX6_lays_158 : decode cX6_lays 158 = .ok (.iload 6, 2) := by decide +kernel
theorem dX6_lays_160 : decode cX6_lays 160 = .ok (.aload_n 0, 1) := by decide +kernel
theorem dX6_lays_161 : decode cX6_lays 161 = .ok (.getfield 129, 3) := by decide +kernel
theorem dX6_lays_164 : decode cX6_lays 164 = .ok (.if_icmp .le 14, 3) := by decide +kernel
theorem dX6_lays_167 : decode cX6_lays 167 = .ok (.aload_n 0, 1) := by decide +kernel
theorem dX6_lays_168 : decode cX6_lays 168 = .ok (.iload_n 1, 1) := by decide +kernel
theorem dX6_lays_169 : decode cX6_lays 169 = .ok (.iload 7, 2) := by decide +kernel
theorem dX6_lays_171 : decode cX6_lays 171 = .ok (.iconst 1, 1) := by decide +kernel
theorem dX6_lays_172 : decode cX6_lays 172 = .ok (.invokevirtual 135, 3) := by decide +kernel
theorem dX6_lays_175 : decode cX6_lays 175 = .ok (.goto 4, 3) := by decide +kernel
theorem dX6_lays_178 : decode cX6_lays 178 = .ok (.iconst 0, 1) := by decide +kernel
theorem dX6_lays_179 : decode cX6_lays 179 = .ok (.iadd, 1) := by decide +kernel
theorem dX6_lays_180 : decode cX6_lays 180 = .ok (.istore 5, 2) := by decide +kernel
theorem dX6_lays_182 : decode cX6_lays 182 = .ok (.aload_n 0, 1) := by decide +kernel
theorem dX6_lays_183 : decode cX6_lays 183 = .ok (.getfield 44, 3) := by decide +kernel
theorem dX6_lays_186 : decode cX6_lays 186 = .ok (.iload 6, 2) := by decide +kernel
theorem dX6_lays_188 : decode cX6_lays 188 = .ok (.iconst 0, 1) := by decide +kernel
theorem dX6_lays_189 : decode cX6_lays 189 = .ok (.iastore, 1) := by decide +kernel
theorem dX6_lays_190 : decode cX6_lays 190 = .ok (.iinc 6 1, 3) := by decide +kernel
theorem dX6_lays_193 : decode cX6_lays 193 = .ok (.goto (-155), 3) := by decide +kernel
theorem dX6_lays_196 : decode cX6_lays 196 = .ok (.aload_n 0, 1) := by decide +kernel
theorem dX6_lays_197 : decode cX6_lays 197 = .ok (.getfield 35, 3) := by decide +kernel
theorem dX6_lays_200 : decode cX6_lays 200 = .ok (.aload_n 0, 1) := by decide +kernel
theorem dX6_lays_201 : decode cX6_lays 201 = .ok (.getfield 129, 3) := by decide +kernel
theorem dX6_lays_204 : decode cX6_lays 204 = .ok (.iconst 0, 1) := by decide +kernel
theorem dX6_lays_205 : decode cX6_lays 205 = .ok (.iastore, 1) := by decide +kernel
theorem dX6_lays_206 : decode cX6_lays 206 = .ok (.aload_n 0, 1) := by decide +kernel
theorem dX6_lays_207 : decode cX6_lays 207 = .ok (.getfield 44, 3) := by decide +kernel
theorem dX6_lays_210 : decode cX6_lays 210 = .ok (.aload_n 0, 1) := by decide +kernel
theorem dX6_lays_211 : decode cX6_lays 211 = .ok (.getfield 129, 3) := by decide +kernel
theorem dX6_lays_214 : decode cX6_lays 214 = .ok (.iconst 3, 1) := by decide +kernel
theorem dX6_lays_215 : decode cX6_lays 215 = .ok (.iastore, 1) := by decide +kernel
theorem dX6_lays_216 : decode cX6_lays 216 = .ok (.aload_n 0, 1) := by decide +kernel
theorem dX6_lays_217 : decode cX6_lays 217 = .ok (.getfield 47, 3) := by decide +kernel
theorem dX6_lays_220 : decode cX6_lays 220 = .ok (.aload_n 0, 1) := by decide +kernel
theorem dX6_lays_221 : decode cX6_lays 221 = .ok (.getfield 129, 3) := by decide +kernel
theorem dX6_lays_224 : decode cX6_lays 224 = .ok (.aload_n 0, 1) := by decide +kernel
theorem dX6_lays_225 : decode cX6_lays 225 = .ok (.iload_n 1, 1) := by decide +kernel
theorem dX6_lays_226 : decode cX6_lays 226 = .ok (.iconst 3, 1) := by decide +kernel
theorem dX6_lays_227 : decode cX6_lays 227 = .ok (.invokevirtual 70, 3) := by decide +kernel
theorem dX6_lays_230 : decode cX6_lays 230 = .ok (.iload_n 2, 1) := by decide +kernel
theorem dX6_lays_231 : decode cX6_lays 231 = .ok (.iadd, 1) := by decide +kernel
theorem dX6_lays_232 : decode cX6_lays 232 = .ok (.i2l, 1) := by decide +kernel
theorem dX6_lays_233 : decode cX6_lays 233 = .ok (.lastore, 1) := by decide +kernel
theorem dX6_lays_234 : decode cX6_lays 234 = .ok (.aload_n 0, 1) := by decide +kernel
theorem dX6_lays_235 : decode cX6_lays 235 = .ok (.getfield 132, 3) := by decide +kernel
theorem dX6_lays_238 : decode cX6_lays 238 = .ok (.aload_n 0, 1) := by decide +kernel
theorem dX6_lays_239 : decode cX6_lays 239 = .ok (.getfield 129, 3) := by decide +kernel
theorem dX6_lays_242 : decode cX6_lays 242 = .ok (.if_icmp .le 36, 3) := by decide +kernel
theorem dX6_lays_245 : decode cX6_lays 245 = .ok (.aload_n 0, 1) := by decide +kernel
theorem dX6_lays_246 : decode cX6_lays 246 = .ok (.getfield 44, 3) := by decide +kernel
theorem dX6_lays_249 : decode cX6_lays 249 = .ok (.aload_n 0, 1) := by decide +kernel
theorem dX6_lays_250 : decode cX6_lays 250 = .ok (.getfield 132, 3) := by decide +kernel
theorem dX6_lays_253 : decode cX6_lays 253 = .ok (.iconst 3, 1) := by decide +kernel
theorem dX6_lays_254 : decode cX6_lays 254 = .ok (.iastore, 1) := by decide +kernel
theorem dX6_lays_255 : decode cX6_lays 255 = .ok (.aload_n 0, 1) := by decide +kernel
theorem dX6_lays_256 : decode cX6_lays 256 = .ok (.getfield 47, 3) := by decide +kernel
theorem dX6_lays_259 : decode cX6_lays 259 = .ok (.aload_n 0, 1) := by decide +kernel
theorem dX6_lays_260 : decode cX6_lays 260 = .ok (.getfield 132, 3) := by decide +kernel
theorem dX6_lays_263 : decode cX6_lays 263 = .ok (.aload_n 0, 1) := by decide +kernel
theorem dX6_lays_264 : decode cX6_lays 264 = .ok (.getfield 41, 3) := by decide +kernel
theorem dX6_lays_267 : decode cX6_lays 267 = .ok (.aload_n 0, 1) := by decide +kernel
theorem dX6_lays_268 : decode cX6_lays 268 = .ok (.getfield 132, 3) := by decide +kernel
theorem dX6_lays_271 : decode cX6_lays 271 = .ok (.iaload, 1) := by decide +kernel
theorem dX6_lays_272 : decode cX6_lays 272 = .ok (.i2l, 1) := by decide +kernel
theorem dX6_lays_273 : decode cX6_lays 273 = .ok (.lastore, 1) := by decide +kernel
theorem dX6_lays_274 : decode cX6_lays 274 = .ok (.aload_n 0, 1) := by decide +kernel
theorem dX6_lays_275 : decode cX6_lays 275 = .ok (.invokevirtual 139, 3) := by decide +kernel
theorem dX6_lays_278 : decode cX6_lays 278 = .ok (.return_, 1) := by decide +kernel
theorem dX6_markBehind_0 : decode cX6_markBehind 0 = .ok (.iload_n 1, 1) := by decide +kernel
theorem dX6_markBehind_1 : decode cX6_markBehind 1 = .ok (.iconst 1, 1) := by decide +kernel
theorem dX6_markBehind_2 : decode cX6_markBehind 2 = .ok (.iadd, 1) := by decide +kernel
theorem dX6_markBehind_3 : decode cX6_markBehind 3 = .ok (.istore_n 2, 1) := by decide +kernel
theorem dX6_markBehind_4 : decode cX6_markBehind 4 = .ok (.aload_n 0, 1) := by decide +kernel
theorem dX6_markBehind_5 : decode cX6_markBehind 5 = .ok (.getfield 44, 3) := by decide +kernel
theorem dX6_markBehind_8 : decode cX6_markBehind 8 = .ok (.iload_n 2, 1) := by decide +kernel
theorem dX6_markBehind_9 : decode cX6_markBehind 9 = .ok (.iaload, 1) := by decide +kernel
theorem dX6_markBehind_10 : decode cX6_markBehind 10 = .ok (.ifCond .ne 9, 3) := by decide +kernel
theorem dX6_markBehind_13 : decode cX6_markBehind 13 = .ok (.iinc 2 1, 3) := by decide +kernel
theorem dX6_markBehind_16 : decode cX6_markBehind 16 = .ok (.goto (-12), 3) := by decide +kernel
theorem dX6_markBehind_19 : decode cX6_markBehind 19 = .ok (.iload_n 2, 1) := by decide +kernel
theorem dX6_markBehind_20 : decode cX6_markBehind 20 = .ok (.ireturn, 1) := by decide +kernel
theorem dX6_markAhead_0 : decode cX6_markAhead 0 = .ok (.iload_n 1, 1) := by decide +kernel
theorem dX6_markAhead_1 : decode cX6_markAhead 1 = .ok (.istore_n 2, 1) := by decide +kernel
theorem dX6_markAhead_2 : decode cX6_markAhead 2 = .ok (.aload_n 0, 1) := by decide +kernel
theorem dX6_markAhead_3 : decode cX6_markAhead 3 = .ok (.getfield 44, 3) := by decide +kernel
theorem dX6_markAhead_6 : decode cX6_markAhead 6 = .ok (.iload_n 2, 1) := by decide +kernel
theorem dX6_markAhead_7 : decode cX6_markAhead 7 = .ok (.iaload, 1) := by decide +kernel
theorem dX6_markAhead_8 : decode cX6_markAhead 8 = .ok (.ifCond .ne 9, 3) := by decide +kernel
theorem dX6_markAhead_11 : decode cX6_markAhead 11 = .ok (.iinc 2 (-1), 3) := by decide +kernel
theorem dX6_markAhead_14 : decode cX6_markAhead 14 = .ok (.goto (-12), 3) := by decide +kernel
theorem dX6_markAhead_17 : decode cX6_markAhead 17 = .ok (.iload_n 2, 1) := by decide +kernel
theorem dX6_markAhead_18 : decode cX6_markAhead 18 = .ok (.ireturn, 1) := by decide +kernel
theorem dX6_evenTimes_0 : decode cX6_evenTimes 0 = .ok (.aload_n 0, 1) := by decide +kernel
theorem dX6_evenTimes_1 : decode cX6_evenTimes 1 = .ok (.getfield 47, 3) := by decide +kernel
theorem dX6_evenTimes_4 : decode cX6_evenTimes 4 = .ok (.iload_n 1, 1) := by decide +kernel
theorem dX6_evenTimes_5 : decode cX6_evenTimes 5 = .ok (.laload, 1) := by decide +kernel
theorem dX6_evenTimes_6 : decode cX6_evenTimes 6 = .ok (.aload_n 0, 1) := by decide +kernel
theorem dX6_evenTimes_7 : decode cX6_evenTimes 7 = .ok (.getfield 32, 3) := by decide +kernel
theorem dX6_evenTimes_10 : decode cX6_evenTimes 10 = .ok (.iload_n 2, 1) := by decide +kernel
theorem dX6_evenTimes_11 : decode cX6_evenTimes 11 = .ok (.iaload, 1) := by decide +kernel
theorem dX6_evenTimes_12 : decode cX6_evenTimes 12 = .ok (.aload_n 0, 1) := by decide +kernel
theorem dX6_evenTimes_13 : decode cX6_evenTimes 13 = .ok (.getfield 32, 3) := by decide +kernel
theorem dX6_evenTimes_16 : decode cX6_evenTimes 16 = .ok (.iload_n 1, 1) := by decide +kernel
theorem dX6_evenTimes_17 : decode cX6_evenTimes 17 = .ok (.iaload, 1) := by decide +kernel
theorem dX6_evenTimes_18 : decode cX6_evenTimes 18 = .ok (.isub, 1) := by decide +kernel
theorem dX6_evenTimes_19 : decode cX6_evenTimes 19 = .ok (.i2l, 1) := by decide +kernel
theorem dX6_evenTimes_20 : decode cX6_evenTimes 20 = .ok (.lmul, 1) := by decide +kernel
theorem dX6_evenTimes_21 : decode cX6_evenTimes 21 = .ok (.aload_n 0, 1) := by decide +kernel
theorem dX6_evenTimes_22 : decode cX6_evenTimes 22 = .ok (.getfield 47, 3) := by decide +kernel
theorem dX6_evenTimes_25 : decode cX6_evenTimes 25 = .ok (.iload_n 2, 1) := by decide +kernel
theorem dX6_evenTimes_26 : decode cX6_evenTimes 26 = .ok (.laload, 1) := by decide +kernel
theorem dX6_evenTimes_27 : decode cX6_evenTimes 27 = .ok (.aload_n 0, 1) := by decide +kernel
theorem dX6_evenTimes_28 : decode cX6_evenTimes 28 = .ok (.getfield 47, 3) := by decide +kernel
theorem dX6_evenTimes_31 : decode cX6_evenTimes 31 = .ok (.iload_n 1, 1) := by decide +kernel
theorem dX6_evenTimes_32 : decode cX6_evenTimes 32 = .ok (.laload, 1) := by decide +kernel
theorem dX6_evenTimes_33 : decode cX6_evenTimes 33 = .ok (.lsub, 1) := by decide +kernel
theorem dX6_evenTimes_34 : decode cX6_evenTimes 34 = .ok (.aload_n 0, 1) := by decide +kernel
theorem dX6_evenTimes_35 : decode cX6_evenTimes 35 = .ok (.getfield 32, 3) := by decide +kernel
theorem dX6_evenTimes_38 : decode cX6_evenTimes 38 = .ok (.iload_n 3, 1) := by decide +kernel
theorem dX6_evenTimes_39 : decode cX6_evenTimes 39 = .ok (.iaload, 1) := by decide +kernel
theorem dX6_evenTimes_40 : decode cX6_evenTimes 40 = .ok (.aload_n 0, 1) := by decide +kernel
theorem dX6_evenTimes_41 : decode cX6_evenTimes 41 = .ok (.getfield 32, 3) := by decide +kernel
theorem dX6_evenTimes_44 : decode cX6_evenTimes 44 = .ok (.iload_n 1, 1) := by decide +kernel
theorem dX6_evenTimes_45 : decode cX6_evenTimes 45 = .ok (.iaload, 1) := by decide +kernel
theorem dX6_evenTimes_46 : decode cX6_evenTimes 46 = .ok (.isub, 1) := by decide +kernel
theorem dX6_evenTimes_47 : decode cX6_evenTimes 47 = .ok (.i2l, 1) := by decide +kernel
theorem dX6_evenTimes_48 : decode cX6_evenTimes 48 = .ok (.lmul, 1) := by decide +kernel
theorem dX6_evenTimes_49 : decode cX6_evenTimes 49 = .ok (.ladd, 1) := by decide +kernel
theorem dX6_evenTimes_50 : decode cX6_evenTimes 50 = .ok (.lreturn, 1) := by decide +kernel
theorem dX6_missedTimes_0 : decode cX6_missedTimes 0 = .ok (.aload_n 0, 1) := by decide +kernel
theorem dX6_missedTimes_1 : decode cX6_missedTimes 1 = .ok (.iload_n 1, 1) := by decide +kernel
theorem dX6_missedTimes_2 : decode cX6_missedTimes 2 = .ok (.iload_n 2, 1) := by decide +kernel
theorem dX6_missedTimes_3 : decode cX6_missedTimes 3 = .ok (.iload_n 3, 1) := by decide +kernel
theorem dX6_missedTimes_4 : decode cX6_missedTimes 4 = .ok (.invokevirtual 142, 3) := by decide +kernel
theorem dX6_missedTimes_7 : decode cX6_missedTimes 7 = .ok (.lstore 4, 2) := by decide +kernel
theorem dX6_missedTimes_9 : decode cX6_missedTimes 9 = .ok (.aload_n 0, 1) := by decide +kernel
theorem dX6_missedTimes_10 : decode cX6_missedTimes 10 = .ok (.getfield 32, 3) := by decide +kernel
theorem dX6_missedTimes_13 : decode cX6_missedTimes 13 = .ok (.iload_n 2, 1) := by decide +kernel
theorem dX6_missedTimes_14 : decode cX6_missedTimes 14 = .ok (.iaload, 1) := by decide +kernel
theorem dX6_missedTimes_15 : decode cX6_missedTimes 15 = .ok (.aload_n 0, 1) := by decide +kernel
theorem dX6_missedTimes_16 : decode cX6_missedTimes 16 = .ok (.getfield 32, 3) := by decide +kernel
theorem dX6_missedTimes_19 : decode cX6_missedTimes 19 = .ok (.iload_n 1, 1) := by decide +kernel
theorem dX6_missedTimes_20 : decode cX6_missedTimes 20 = .ok (.iaload, 1) := by decide +kernel
theorem dX6_missedTimes_21 : decode cX6_missedTimes 21 = .ok (.isub, 1) := by decide +kernel
theorem dX6_missedTimes_22 : decode cX6_missedTimes 22 = .ok (.i2l, 1) := by decide +kernel
theorem dX6_missedTimes_23 : decode cX6_missedTimes 23 = .ok (.lstore 6, 2) := by decide +kernel
theorem dX6_missedTimes_25 : decode cX6_missedTimes 25 = .ok (.aload_n 0, 1) := by decide +kernel
theorem dX6_missedTimes_26 : decode cX6_missedTimes 26 = .ok (.getfield 38, 3) := by decide +kernel
theorem dX6_missedTimes_29 : decode cX6_missedTimes 29 = .ok (.iload_n 3, 1) := by decide +kernel
theorem dX6_missedTimes_30 : decode cX6_missedTimes 30 = .ok (.iaload, 1) := by decide +kernel
theorem dX6_missedTimes_31 : decode cX6_missedTimes 31 = .ok (.i2l, 1) := by decide +kernel
theorem dX6_missedTimes_32 : decode cX6_missedTimes 32 = .ok (.lload 6, 2) := by decide +kernel
theorem dX6_missedTimes_34 : decode cX6_missedTimes 34 = .ok (.lmul, 1) := by decide +kernel
theorem dX6_missedTimes_35 : decode cX6_missedTimes 35 = .ok (.lload 4, 2) := by decide +kernel
theorem dX6_missedTimes_37 : decode cX6_missedTimes 37 = .ok (.lsub, 1) := by decide +kernel
theorem dX6_missedTimes_38 : decode cX6_missedTimes 38 = .ok (.lstore 8, 2) := by decide +kernel
theorem dX6_missedTimes_40 : decode cX6_missedTimes 40 = .ok (.lload 4, 2) := by decide +kernel
theorem dX6_missedTimes_42 : decode cX6_missedTimes 42 = .ok (.aload_n 0, 1) := by decide +kernel
theorem dX6_missedTimes_43 : decode cX6_missedTimes 43 = .ok (.getfield 41, 3) := by decide +kernel
theorem dX6_missedTimes_46 : decode cX6_missedTimes 46 = .ok (.iload_n 3, 1) := by decide +kernel
theorem dX6_missedTimes_47 : decode cX6_missedTimes 47 = .ok (.iaload, 1) := by decide +kernel
theorem dX6_missedTimes_48 : decode cX6_missedTimes 48 = .ok (.i2l, 1) := by decide +kernel
theorem dX6_missedTimes_49 : decode cX6_missedTimes 49 = .ok (.lload 6, 2) := by decide +kernel
theorem dX6_missedTimes_51 : decode cX6_missedTimes 51 = .ok (.lmul, 1) := by decide +kernel
theorem dX6_missedTimes_52 : decode cX6_missedTimes 52 = .ok (.lsub, 1) := by decide +kernel
theorem dX6_missedTimes_53 : decode cX6_missedTimes 53 = .ok (.lstore 10, 2) := by decide +kernel
theorem dX6_missedTimes_55 : decode cX6_missedTimes 55 = .ok (.lload 8, 2) := by decide +kernel
theorem dX6_missedTimes_57 : decode cX6_missedTimes 57 = .ok (.lconst 0, 1) := by decide +kernel
theorem dX6_missedTimes_58 : decode cX6_missedTimes 58 = .ok (.lcmp, 1) := by decide +kernel
theorem dX6_missedTimes_59 : decode cX6_missedTimes 59 = .ok (.ifCond .le 8, 3) := by decide +kernel
theorem dX6_missedTimes_62 : decode cX6_missedTimes 62 = .ok (.lload 8, 2) := by decide +kernel
theorem dX6_missedTimes_64 : decode cX6_missedTimes 64 = .ok (.goto 16, 3) := by decide +kernel
theorem dX6_missedTimes_67 : decode cX6_missedTimes 67 = .ok (.lload 10, 2) := by decide +kernel
theorem dX6_missedTimes_69 : decode cX6_missedTimes 69 = .ok (.lconst 0, 1) := by decide +kernel
theorem dX6_missedTimes_70 : decode cX6_missedTimes 70 = .ok (.lcmp, 1) := by decide +kernel
theorem dX6_missedTimes_71 : decode cX6_missedTimes 71 = .ok (.ifCond .le 8, 3) := by decide +kernel
theorem dX6_missedTimes_74 : decode cX6_missedTimes 74 = .ok (.lload 10, 2) := by decide +kernel
theorem dX6_missedTimes_76 : decode cX6_missedTimes 76 = .ok (.goto 4, 3) := by decide +kernel
theorem dX6_missedTimes_79 : decode cX6_missedTimes 79 = .ok (.lconst 0, 1) := by decide +kernel
theorem dX6_missedTimes_80 : decode cX6_missedTimes 80 = .ok (.lreturn, 1) := by decide +kernel
theorem dX6_marksOne_0 : decode cX6_marksOne 0 = .ok (.bipush (-9), 2) := by decide +kernel
theorem dX6_marksOne_2 : decode cX6_marksOne 2 = .ok (.istore_n 3, 1) := by decide +kernel
theorem dX6_marksOne_3 : decode cX6_marksOne 3 = .ok (.iload_n 1, 1) := by decide +kernel
theorem dX6_marksOne_4 : decode cX6_marksOne 4 = .ok (.iconst 1, 1) := by decide +kernel
theorem dX6_marksOne_5 : decode cX6_marksOne 5 = .ok (.iadd, 1) := by decide +kernel
theorem dX6_marksOne_6 : decode cX6_marksOne 6 = .ok (.istore 4, 2) := by decide +kernel
theorem dX6_marksOne_8 : decode cX6_marksOne 8 = .ok (.iload 4, 2) := by decide +kernel
theorem dX6_marksOne_10 : decode cX6_marksOne 10 = .ok (.iload_n 2, 1) := by decide +kernel
theorem dX6_marksOne_11 : decode cX6_marksOne 11 = .ok (.if_icmp .ge 52, 3) := by decide +kernel
theorem dX6_marksOne_14 : decode cX6_marksOne 14 = .ok (.aload_n 0, 1) := by decide +kernel
theorem dX6_marksOne_15 : decode cX6_marksOne 15 = .ok (.iload_n 1, 1) := by decide +kernel
theorem dX6_marksOne_16 : decode cX6_marksOne 16 = .ok (.iload_n 2, 1) := by decide +kernel
theorem dX6_marksOne_17 : decode cX6_marksOne 17 = .ok (.iload 4, 2) := by decide +kernel
theorem dX6_marksOne_19 : decode cX6_marksOne 19 = .ok (.invokevirtual 146, 3) := by decide +kernel
theorem dX6_marksOne_22 : decode cX6_marksOne 22 = .ok (.lstore 5, 2) := by decide +kernel
theorem dX6_marksOne_24 : decode cX6_marksOne 24 = .ok (.lload 5, 2) := by decide +kernel
theorem dX6_marksOne_26 : decode cX6_marksOne 26 = .ok (.lconst 0, 1) := by decide +kernel
theorem dX6_marksOne_27 : decode cX6_marksOne 27 = .ok (.lcmp, 1) := by decide +kernel
theorem dX6_marksOne_28 : decode cX6_marksOne 28 = .ok (.ifCond .le 27, 3) := by decide +kernel
theorem dX6_marksOne_31 : decode cX6_marksOne 31 = .ok (.iload_n 3, 1) := by decide +kernel
theorem dX6_marksOne_32 : decode cX6_marksOne 32 = .ok (.bipush (-9), 2) := by decide +kernel
theorem dX6_marksOne_34 : decode cX6_marksOne 34 = .ok (.if_icmp .eq 16, 3) := by decide +kernel
theorem dX6_marksOne_37 : decode cX6_marksOne 37 = .ok (.lload 5, 2) := by decide +kernel
theorem dX6_marksOne_39 : decode cX6_marksOne 39 = .ok (.aload_n 0, 1) := by decide +kernel
theorem dX6_marksOne_40 : decode cX6_marksOne 40 = .ok (.iload_n 1, 1) := by decide +kernel
theorem dX6_marksOne_41 : decode cX6_marksOne 41 = .ok (.iload_n 2, 1) := by decide +kernel
theorem dX6_marksOne_42 : decode cX6_marksOne 42 = .ok (.iload_n 3, 1) := by decide +kernel
theorem dX6_marksOne_43 : decode cX6_marksOne 43 = .ok (.invokevirtual 146, 3) := by decide +kernel
theorem dX6_marksOne_46 : decode cX6_marksOne 46 = .ok (.lcmp, 1) := by decide +kernel
theorem dX6_marksOne_47 : decode cX6_marksOne 47 = .ok (.ifCond .le 8, 3) := by decide +kernel
theorem dX6_marksOne_50 : decode cX6_marksOne 50 = .ok (.iload 4, 2) := by decide +kernel
theorem dX6_marksOne_52 : decode cX6_marksOne 52 = .ok (.goto 4, 3) := by decide +kernel
theorem dX6_marksOne_55 : decode cX6_marksOne 55 = .ok (.iload_n 3, 1) := by decide +kernel
theorem dX6_marksOne_56 : decode cX6_marksOne 56 = .ok (.istore_n 3, 1) := by decide +kernel
theorem dX6_marksOne_57 : decode cX6_marksOne 57 = .ok (.iinc 4 1, 3) := by decide +kernel
theorem dX6_marksOne_60 : decode cX6_marksOne 60 = .ok (.goto (-52), 3) := by decide +kernel
theorem dX6_marksOne_63 : decode cX6_marksOne 63 = .ok (.iload_n 3, 1) := by decide +kernel
theorem dX6_marksOne_64 : decode cX6_marksOne 64 = .ok (.bipush (-9), 2) := by decide +kernel
theorem dX6_marksOne_66 : decode cX6_marksOne 66 = .ok (.if_icmp .ne 5, 3) := by decide +kernel
theorem dX6_marksOne_69 : decode cX6_marksOne 69 = .ok (.iconst 0, 1) := by decide +kernel
theorem dX6_marksOne_70 : decode cX6_marksOne 70 = .ok (.ireturn, 1) := by decide +kernel
theorem dX6_marksOne_71 : decode cX6_marksOne 71 = .ok (.aload_n 0, 1) := by decide +kernel
theorem dX6_marksOne_72 : decode cX6_marksOne 72 = .ok (.iload_n 1, 1) := by decide +kernel
theorem dX6_marksOne_73 : decode cX6_marksOne 73 = .ok (.iload_n 2, 1) := by decide +kernel
theorem dX6_marksOne_74 : decode cX6_marksOne 74 = .ok (.iload_n 3, 1) := by decide +kernel
theorem dX6_marksOne_75 : decode cX6_marksOne 75 = .ok (.invokevirtual 142, 3) := by decide +kernel
theorem dX6_marksOne_78 : decode cX6_marksOne 78 = .ok (.aload_n 0, 1) := by decide +kernel
theorem dX6_marksOne_79 : decode cX6_marksOne 79 = .ok (.getfield 38, 3) := by decide +kernel
theorem dX6_marksOne_82 : decode cX6_marksOne 82 = .ok (.iload_n 3, 1) := by decide +kernel
theorem dX6_marksOne_83 : decode cX6_marksOne 83 = .ok (.iaload, 1) := by decide +kernel
theorem dX6_marksOne_84 : decode cX6_marksOne 84 = .ok (.i2l, 1) := by decide +kernel
theorem dX6_marksOne_85 : decode cX6_marksOne 85 = .ok (.aload_n 0, 1) := by decide +kernel
theorem dX6_marksOne_86 : decode cX6_marksOne 86 = .ok (.getfield 32, 3) := by decide +kernel
theorem dX6_marksOne_89 : decode cX6_marksOne 89 = .ok (.iload_n 2, 1) := by decide +kernel
theorem dX6_marksOne_90 : decode cX6_marksOne 90 = .ok (.iaload, 1) := by decide +kernel
theorem dX6_marksOne_91 : decode cX6_marksOne 91 = .ok (.aload_n 0, 1) := by decide +kernel
theorem dX6_marksOne_92 : decode cX6_marksOne 92 = .ok (.getfield 32, 3) := by decide +kernel
theorem dX6_marksOne_95 : decode cX6_marksOne 95 = .ok (.iload_n 1, 1) := by decide +kernel
theorem dX6_marksOne_96 : decode cX6_marksOne 96 = .ok (.iaload, 1) := by decide +kernel
theorem dX6_marksOne_97 : decode cX6_marksOne 97 = .ok (.isub, 1) := by decide +kernel
theorem dX6_marksOne_98 : decode cX6_marksOne 98 = .ok (.i2l, 1) := by decide +kernel
theorem dX6_marksOne_99 : decode cX6_marksOne 99 = .ok (.lmul, 1) := by decide +kernel
theorem dX6_marksOne_100 : decode cX6_marksOne 100 = .ok (.lcmp, 1) := by decide +kernel
theorem dX6_marksOne_101 : decode cX6_marksOne 101 = .ok (.ifCond .ge 7, 3) := by decide +kernel
theorem dX6_marksOne_104 : decode cX6_marksOne 104 = .ok (.iconst 1, 1) := by decide +kernel
theorem dX6_marksOne_105 : decode cX6_marksOne 105 = .ok (.goto 4, 3) := by decide +kernel
theorem dX6_marksOne_108 : decode cX6_marksOne 108 = .ok (.iconst 0, 1) := by decide +kernel
theorem dX6_marksOne_109 : decode cX6_marksOne 109 = .ok (.istore 4, 2) := by decide +kernel
theorem dX6_marksOne_111 : decode cX6_marksOne 111 = .ok (.aload_n 0, 1) := by decide +kernel
theorem dX6_marksOne_112 : decode cX6_marksOne 112 = .ok (.getfield 44, 3) := by decide +kernel
theorem dX6_marksOne_115 : decode cX6_marksOne 115 = .ok (.iload_n 3, 1) := by decide +kernel
theorem dX6_marksOne_116 : decode cX6_marksOne 116 = .ok (.iload 4, 2) := by decide +kernel
theorem dX6_marksOne_118 : decode cX6_marksOne 118 = .ok (.ifCond .eq 7, 3) := by decide +kernel
theorem dX6_marksOne_121 : decode cX6_marksOne 121 = .ok (.iconst 1, 1) := by decide +kernel
theorem dX6_marksOne_122 : decode cX6_marksOne 122 = .ok (.goto 4, 3) := by decide +kernel
theorem dX6_marksOne_125 : decode cX6_marksOne 125 = .ok (.iconst 2, 1) := by decide +kernel
theorem dX6_marksOne_126 : decode cX6_marksOne 126 = .ok (.iastore, 1) := by decide +kernel
theorem dX6_marksOne_127 : decode cX6_marksOne 127 = .ok (.aload_n 0, 1) := by decide +kernel
theorem dX6_marksOne_128 : decode cX6_marksOne 128 = .ok (.getfield 47, 3) := by decide +kernel
theorem dX6_marksOne_131 : decode cX6_marksOne 131 = .ok (.iload_n 3, 1) := by decide +kernel
theorem dX6_marksOne_132 : decode cX6_marksOne 132 = .ok (.iload 4, 2) := by decide +kernel
theorem dX6_marksOne_134 : decode cX6_marksOne 134 = .ok (.ifCond .eq 13, 3) := by decide +kernel
theorem dX6_marksOne_137 : decode cX6_marksOne 137 = .ok (.aload_n 0, 1) := by decide +kernel
theorem dX6_marksOne_138 : decode cX6_marksOne 138 = .ok (.getfield 38, 3) := by decide +kernel
theorem dX6_marksOne_141 : decode cX6_marksOne 141 = .ok (.iload_n 3, 1) := by decide +kernel
theorem dX6_marksOne_142 : decode cX6_marksOne 142 = .ok (.iaload, 1) := by decide +kernel
theorem dX6_marksOne_143 : decode cX6_marksOne 143 = .ok (.i2l, 1) := by decide +kernel
theorem dX6_marksOne_144 : decode cX6_marksOne 144 = .ok (.goto 10, 3) := by decide +kernel
theorem dX6_marksOne_147 : decode cX6_marksOne 147 = .ok (.aload_n 0, 1) := by decide +kernel
theorem dX6_marksOne_148 : decode cX6_marksOne 148 = .ok (.getfield 41, 3) := by decide +kernel
theorem dX6_marksOne_151 : decode cX6_marksOne 151 = .ok (.iload_n 3, 1) := by decide +kernel
theorem dX6_marksOne_152 : decode cX6_marksOne 152 = .ok (.iaload, 1) := by decide +kernel
theorem dX6_marksOne_153 : decode cX6_marksOne 153 = .ok (.i2l, 1) := by decide +kernel
theorem dX6_marksOne_154 : decode cX6_marksOne 154 = .ok (.lastore, 1) := by decide +kernel
theorem dX6_marksOne_155 : decode cX6_marksOne 155 = .ok (.iconst 1, 1) := by decide +kernel
theorem dX6_marksOne_156 : decode cX6_marksOne 156 = .ok (.ireturn, 1) := by decide +kernel
theorem dX6_marksAll_0 : decode cX6_marksAll 0 = .ok (.aload_n 0, 1) := by decide +kernel
theorem dX6_marksAll_1 : decode cX6_marksAll 1 = .ok (.getfield 129, 3) := by decide +kernel
theorem dX6_marksAll_4 : decode cX6_marksAll 4 = .ok (.istore_n 1, 1) := by decide +kernel
theorem dX6_marksAll_5 : decode cX6_marksAll 5 = .ok (.iload_n 1, 1) := by decide +kernel
theorem dX6_marksAll_6 : decode cX6_marksAll 6 = .ok (.aload_n 0, 1) := by decide +kernel
theorem dX6_marksAll_7 : decode cX6_marksAll 7 = .ok (.getfield 132, 3) := by decide +kernel
theorem dX6_marksAll_10 : decode cX6_marksAll 10 = .ok (.if_icmp .ge 23, 3) := by decide +kernel
theorem dX6_marksAll_13 : decode cX6_marksAll 13 = .ok (.aload_n 0, 1) := by decide +kernel
theorem dX6_marksAll_14 : decode cX6_marksAll 14 = .ok (.iload_n 1, 1) := by decide +kernel
theorem dX6_marksAll_15 : decode cX6_marksAll 15 = .ok (.invokevirtual 149, 3) := by decide +kernel
theorem dX6_marksAll_18 : decode cX6_marksAll 18 = .ok (.istore_n 2, 1) := by decide +kernel
theorem dX6_marksAll_19 : decode cX6_marksAll 19 = .ok (.aload_n 0, 1) := by decide +kernel
theorem dX6_marksAll_20 : decode cX6_marksAll 20 = .ok (.iload_n 1, 1) := by decide +kernel
theorem dX6_marksAll_21 : decode cX6_marksAll 21 = .ok (.iload_n 2, 1) := by decide +kernel
theorem dX6_marksAll_22 : decode cX6_marksAll 22 = .ok (.invokevirtual 153, 3) := by decide +kernel
theorem dX6_marksAll_25 : decode cX6_marksAll 25 = .ok (.ifCond .ne 5, 3) := by decide +kernel
theorem dX6_marksAll_28 : decode cX6_marksAll 28 = .ok (.iload_n 2, 1) := by decide +kernel
theorem dX6_marksAll_29 : decode cX6_marksAll 29 = .ok (.istore_n 1, 1) := by decide +kernel
theorem dX6_marksAll_30 : decode cX6_marksAll 30 = .ok (.goto (-25), 3) := by decide +kernel
theorem dX6_marksAll_33 : decode cX6_marksAll 33 = .ok (.return_, 1) := by decide +kernel
theorem dX6_fastNeeded_0 : decode cX6_fastNeeded 0 = .ok (.aload_n 0, 1) := by decide +kernel
theorem dX6_fastNeeded_1 : decode cX6_fastNeeded 1 = .ok (.getfield 132, 3) := by decide +kernel
theorem dX6_fastNeeded_4 : decode cX6_fastNeeded 4 = .ok (.aload_n 0, 1) := by decide +kernel
theorem dX6_fastNeeded_5 : decode cX6_fastNeeded 5 = .ok (.getfield 129, 3) := by decide +kernel
theorem dX6_fastNeeded_8 : decode cX6_fastNeeded 8 = .ok (.if_icmp .gt 6, 3) := by decide +kernel
theorem dX6_fastNeeded_11 : decode cX6_fastNeeded 11 = .ok (.bipush (-9), 2) := by decide +kernel
theorem dX6_fastNeeded_13 : decode cX6_fastNeeded 13 = .ok (.ireturn, 1) := by decide +kernel
theorem dX6_fastNeeded_14 : decode cX6_fastNeeded 14 = .ok (.lconst 1, 1) := by decide +kernel
theorem dX6_fastNeeded_15 : decode cX6_fastNeeded 15 = .ok (.lstore_n 1, 1) := by decide +kernel
theorem dX6_fastNeeded_16 : decode cX6_fastNeeded 16 = .ok (.aload_n 0, 1) := by decide +kernel
theorem dX6_fastNeeded_17 : decode cX6_fastNeeded 17 = .ok (.getfield 129, 3) := by decide +kernel
theorem dX6_fastNeeded_20 : decode cX6_fastNeeded 20 = .ok (.istore_n 3, 1) := by decide +kernel
theorem dX6_fastNeeded_21 : decode cX6_fastNeeded 21 = .ok (.iload_n 3, 1) := by decide +kernel
theorem dX6_fastNeeded_22 : decode cX6_fastNeeded 22 = .ok (.aload_n 0, 1) := by decide +kernel
theorem dX6_fastNeeded_23 : decode cX6_fastNeeded 23 = .ok (.getfield 132, 3) := by decide +kernel
theorem dX6_fastNeeded_26 : decode cX6_fastNeeded 26 = .ok (.if_icmp .ge 81, 3) := by decide +kernel
theorem dX6_fastNeeded_29 : decode cX6_fastNeeded 29 = .ok (.aload_n 0, 1) := by decide +kernel
theorem dX6_fastNeeded_30 : decode cX6_fastNeeded 30 = .ok (.iload_n 3, 1) := by decide +kernel
theorem dX6_fastNeeded_31 : decode cX6_fastNeeded 31 = .ok (.invokevirtual 149, 3) := by decide +kernel
theorem dX6_fastNeeded_34 : decode cX6_fastNeeded 34 = .ok (.istore 4, 2) := by decide +kernel
theorem dX6_fastNeeded_36 : decode cX6_fastNeeded 36 = .ok (.aload_n 0, 1) := by decide +kernel
theorem dX6_fastNeeded_37 : decode cX6_fastNeeded 37 = .ok (.getfield 47, 3) := by decide +kernel
theorem dX6_fastNeeded_40 : decode cX6_fastNeeded 40 = .ok (.iload 4, 2) := by decide +kernel
theorem dX6_fastNeeded_42 : decode cX6_fastNeeded 42 = .ok (.laload, 1) := by decide +kernel
theorem dX6_fastNeeded_43 : decode cX6_fastNeeded 43 = .ok (.aload_n 0, 1) := by decide +kernel
theorem dX6_fastNeeded_44 : decode cX6_fastNeeded 44 = .ok (.getfield 47, 3) := by decide +kernel
theorem dX6_fastNeeded_47 : decode cX6_fastNeeded 47 = .ok (.iload_n 3, 1) := by decide +kernel
theorem dX6_fastNeeded_48 : decode cX6_fastNeeded 48 = .ok (.laload, 1) := by decide +kernel
theorem dX6_fastNeeded_49 : decode cX6_fastNeeded 49 = .ok (.lsub, 1) := by decide +kernel
theorem dX6_fastNeeded_50 : decode cX6_fastNeeded 50 = .ok (.lstore 5, 2) := by decide +kernel
theorem dX6_fastNeeded_52 : decode cX6_fastNeeded 52 = .ok (.lload 5, 2) := by decide +kernel
theorem dX6_fastNeeded_54 : decode cX6_fastNeeded 54 = .ok (.lconst 0, 1) := by decide +kernel
theorem dX6_fastNeeded_55 : decode cX6_fastNeeded 55 = .ok (.lcmp, 1) := by decide +kernel
theorem dX6_fastNeeded_56 : decode cX6_fastNeeded 56 = .ok (.ifCond .gt 6, 3) := by decide +kernel
theorem dX6_fastNeeded_59 : decode cX6_fastNeeded 59 = .ok (.bipush (-9), 2) := by decide +kernel
theorem dX6_fastNeeded_61 : decode cX6_fastNeeded 61 = .ok (.ireturn, 1) := by decide +kernel
theorem dX6_fastNeeded_62 : decode cX6_fastNeeded 62 = .ok (.aload_n 0, 1) := by decide +kernel
theorem dX6_fastNeeded_63 : decode cX6_fastNeeded 63 = .ok (.getfield 32, 3) := by decide +kernel
theorem dX6_fastNeeded_66 : decode cX6_fastNeeded 66 = .ok (.iload 4, 2) := by decide +kernel
theorem dX6_fastNeeded_68 : decode cX6_fastNeeded 68 = .ok (.iaload, 1) := by decide +kernel
theorem dX6_fastNeeded_69 : decode cX6_fastNeeded 69 = .ok (.aload_n 0, 1) := by decide +kernel
theorem dX6_fastNeeded_70 : decode cX6_fastNeeded 70 = .ok (.getfield 32, 3) := by decide +kernel
theorem dX6_fastNeeded_73 : decode cX6_fastNeeded 73 = .ok (.iload_n 3, 1) := by decide +kernel
theorem dX6_fastNeeded_74 : decode cX6_fastNeeded 74 = .ok (.iaload, 1) := by decide +kernel
theorem dX6_fastNeeded_75 : decode cX6_fastNeeded 75 = .ok (.isub, 1) := by decide +kernel
theorem dX6_fastNeeded_76 : decode cX6_fastNeeded 76 = .ok (.i2l, 1) := by decide +kernel
theorem dX6_fastNeeded_77 : decode cX6_fastNeeded 77 = .ok (.lload 5, 2) := by decide +kernel
theorem dX6_fastNeeded_79 : decode cX6_fastNeeded 79 = .ok (.ladd, 1) := by decide +kernel
theorem dX6_fastNeeded_80 : decode cX6_fastNeeded 80 = .ok (.lconst 1, 1) := by decide +kernel
theorem dX6_fastNeeded_81 : decode cX6_fastNeeded 81 = .ok (.lsub, 1) := by decide +kernel
theorem dX6_fastNeeded_82 : decode cX6_fastNeeded 82 = .ok (.lload 5, 2) := by decide +kernel
theorem dX6_fastNeeded_84 : decode cX6_fastNeeded 84 = .ok (.ldiv, 1) := by decide +kernel
theorem dX6_fastNeeded_85 : decode cX6_fastNeeded 85 = .ok (.lstore 7, 2) := by decide +kernel
theorem dX6_fastNeeded_87 : decode cX6_fastNeeded 87 = .ok (.lload 7, 2) := by decide +kernel
theorem dX6_fastNeeded_89 : decode cX6_fastNeeded 89 = .ok (.lload_n 1, 1) := by decide +kernel
theorem dX6_fastNeeded_90 : decode cX6_fastNeeded 90 = .ok (.lcmp, 1) := by decide +kernel
theorem dX6_fastNeeded_91 : decode cX6_fastNeeded 91 = .ok (.ifCond .le 8, 3) := by decide +kernel
theorem dX6_fastNeeded_94 : decode cX6_fastNeeded 94 = .ok (.lload 7, 2) := by decide +kernel
theorem dX6_fastNeeded_96 : decode cX6_fastNeeded 96 = .ok (.goto 4, 3) := by decide +kernel
theorem dX6_fastNeeded_99 : decode cX6_fastNeeded 99 = .ok (.lload_n 1, 1) := by decide +kernel
theorem dX6_fastNeeded_100 : decode cX6_fastNeeded 100 = .ok (.lstore_n 1, 1) := by decide +kernel
theorem dX6_fastNeeded_101 : decode cX6_fastNeeded 101 = .ok (.iload 4, 2) := by decide +kernel
theorem dX6_fastNeeded_103 : decode cX6_fastNeeded 103 = .ok (.istore_n 3, 1) := by decide +kernel
theorem dX6_fastNeeded_104 : decode cX6_fastNeeded 104 = .ok (.goto (-83), 3) := by decide +kernel
theorem dX6_fastNeeded_107 : decode cX6_fastNeeded 107 = .ok (.lload_n 1, 1) := by decide +kernel
theorem dX6_fastNeeded_108 : decode cX6_fastNeeded 108 = .ok (.l2i, 1) := by decide +kernel
theorem dX6_fastNeeded_109 : decode cX6_fastNeeded 109 = .ok (.ireturn, 1) := by decide +kernel
theorem dX6_hasPlan_0 : decode cX6_hasPlan 0 = .ok (.aload_n 0, 1) := by decide +kernel
theorem dX6_hasPlan_1 : decode cX6_hasPlan 1 = .ok (.invokevirtual 156, 3) := by decide +kernel
theorem dX6_hasPlan_4 : decode cX6_hasPlan 4 = .ok (.istore_n 1, 1) := by decide +kernel
theorem dX6_hasPlan_5 : decode cX6_hasPlan 5 = .ok (.iload_n 1, 1) := by decide +kernel
theorem dX6_hasPlan_6 : decode cX6_hasPlan 6 = .ok (.bipush (-9), 2) := by decide +kernel
theorem dX6_hasPlan_8 : decode cX6_hasPlan 8 = .ok (.if_icmp .eq 20, 3) := by decide +kernel
theorem dX6_hasPlan_11 : decode cX6_hasPlan 11 = .ok (.iload_n 1, 1) := by decide +kernel
theorem dX6_hasPlan_12 : decode cX6_hasPlan 12 = .ok (.aload_n 0, 1) := by decide +kernel
theorem dX6_hasPlan_13 : decode cX6_hasPlan 13 = .ok (.aload_n 0, 1) := by decide +kernel
theorem dX6_hasPlan_14 : decode cX6_hasPlan 14 = .ok (.getfield 126, 3) := by decide +kernel
theorem dX6_hasPlan_17 : decode cX6_hasPlan 17 = .ok (.iconst 1, 1) := by decide +kernel
theorem dX6_hasPlan_18 : decode cX6_hasPlan 18 = .ok (.invokevirtual 70, 3) := by decide +kernel
theorem dX6_hasPlan_21 : decode cX6_hasPlan 21 = .ok (.if_icmp .gt 7, 3) := by decide +kernel
theorem dX6_hasPlan_24 : decode cX6_hasPlan 24 = .ok (.iconst 1, 1) := by decide +kernel
theorem dX6_hasPlan_25 : decode cX6_hasPlan 25 = .ok (.goto 4, 3) := by decide +kernel
theorem dX6_hasPlan_28 : decode cX6_hasPlan 28 = .ok (.iconst 0, 1) := by decide +kernel
theorem dX6_hasPlan_29 : decode cX6_hasPlan 29 = .ok (.ireturn, 1) := by decide +kernel
theorem dX6_plans_0 : decode cX6_plans 0 = .ok (.aload_n 0, 1) := by decide +kernel
theorem dX6_plans_1 : decode cX6_plans 1 = .ok (.iload_n 1, 1) := by decide +kernel
theorem dX6_plans_2 : decode cX6_plans 2 = .ok (.iconst 0, 1) := by decide +kernel
theorem dX6_plans_3 : decode cX6_plans 3 = .ok (.iconst 0, 1) := by decide +kernel
theorem dX6_plans_4 : decode cX6_plans 4 = .ok (.iconst 0, 1) := by decide +kernel
theorem dX6_plans_5 : decode cX6_plans 5 = .ok (.invokevirtual 159, 3) := by decide +kernel
theorem dX6_plans_8 : decode cX6_plans 8 = .ok (.aload_n 0, 1) := by decide +kernel
theorem dX6_plans_9 : decode cX6_plans 9 = .ok (.invokevirtual 163, 3) := by decide +kernel
theorem dX6_plans_12 : decode cX6_plans 12 = .ok (.ireturn, 1) := by decide +kernel
theorem dX6_isAhead_0 : decode cX6_isAhead 0 = .ok (.iload_n 1, 1) := by decide +kernel
theorem dX6_isAhead_1 : decode cX6_isAhead 1 = .ok (.invokestatic 115, 3) := by decide +kernel
theorem dX6_isAhead_4 : decode cX6_isAhead 4 = .ok (.ifCond .eq 28, 3) := by decide +kernel
theorem dX6_isAhead_7 : decode cX6_isAhead 7 = .ok (.iload_n 2, 1) := by decide +kernel
theorem dX6_isAhead_8 : decode cX6_isAhead 8 = .ok (.aload_n 0, 1) := by decide +kernel
theorem dX6_isAhead_9 : decode cX6_isAhead 9 = .ok (.iload_n 1, 1) := by decide +kernel
theorem dX6_isAhead_10 : decode cX6_isAhead 10 = .ok (.iconst 2, 1) := by decide +kernel
theorem dX6_isAhead_11 : decode cX6_isAhead 11 = .ok (.invokevirtual 70, 3) := by decide +kernel
theorem dX6_isAhead_14 : decode cX6_isAhead 14 = .ok (.iconst 1, 1) := by decide +kernel
theorem dX6_isAhead_15 : decode cX6_isAhead 15 = .ok (.iadd, 1) := by decide +kernel
theorem dX6_isAhead_16 : decode cX6_isAhead 16 = .ok (.aload_n 0, 1) := by decide +kernel
theorem dX6_isAhead_17 : decode cX6_isAhead 17 = .ok (.iload_n 1, 1) := by decide +kernel
theorem dX6_isAhead_18 : decode cX6_isAhead 18 = .ok (.iconst 0, 1) := by decide +kernel
theorem dX6_isAhead_19 : decode cX6_isAhead 19 = .ok (.invokevirtual 70, 3) := by decide +kernel
theorem dX6_isAhead_22 : decode cX6_isAhead 22 = .ok (.invokestatic 62, 3) := by decide +kernel
theorem dX6_isAhead_25 : decode cX6_isAhead 25 = .ok (.ifCond .eq 7, 3) := by decide +kernel
theorem dX6_isAhead_28 : decode cX6_isAhead 28 = .ok (.iconst 1, 1) := by decide +kernel
theorem dX6_isAhead_29 : decode cX6_isAhead 29 = .ok (.goto 4, 3) := by decide +kernel
theorem dX6_isAhead_32 : decode cX6_isAhead 32 = .ok (.iconst 0, 1) := by decide +kernel
theorem dX6_isAhead_33 : decode cX6_isAhead 33 = .ok (.ireturn, 1) := by decide +kernel
theorem dX6_common_0 : decode cX6_common 0 = .ok (.lload_n 0, 1) := by decide +kernel
theorem dX6_common_1 : decode cX6_common 1 = .ok (.lconst 0, 1) := by decide +kernel
theorem dX6_common_2 : decode cX6_common 2 = .ok (.lcmp, 1) := by decide +kernel
theorem dX6_common_3 : decode cX6_common 3 = .ok (.ifCond .ge 8, 3) := by decide +kernel
theorem dX6_common_6 : decode cX6_common 6 = .ok (.lload_n 0, 1) := by decide +kernel
theorem dX6_common_7 : decode cX6_common 7 = .ok (.lneg, 1) := by decide +kernel
theorem dX6_common_8 : decode cX6_common 8 = .ok (.goto 4, 3) := by decide +kernel
theorem dX6_common_11 : decode cX6_common 11 = .ok (.lload_n 0, 1) := by decide +kernel
theorem dX6_common_12 : decode cX6_common 12 = .ok (.lstore 4, 2) := by decide +kernel
theorem dX6_common_14 : decode cX6_common 14 = .ok (.lload_n 2, 1) := by decide +kernel
theorem dX6_common_15 : decode cX6_common 15 = .ok (.lstore 6, 2) := by decide +kernel
theorem dX6_common_17 : decode cX6_common 17 = .ok (.lload 6, 2) := by decide +kernel
theorem dX6_common_19 : decode cX6_common 19 = .ok (.lconst 0, 1) := by decide +kernel
theorem dX6_common_20 : decode cX6_common 20 = .ok (.lcmp, 1) := by decide +kernel
theorem dX6_common_21 : decode cX6_common 21 = .ok (.ifCond .eq 21, 3) := by decide +kernel
theorem dX6_common_24 : decode cX6_common 24 = .ok (.lload 4, 2) := by decide +kernel
theorem dX6_common_26 : decode cX6_common 26 = .ok (.lload 6, 2) := by decide +kernel
theorem dX6_common_28 : decode cX6_common 28 = .ok (.lrem, 1) := by decide +kernel
theorem dX6_common_29 : decode cX6_common 29 = .ok (.lstore 8, 2) := by decide +kernel
theorem dX6_common_31 : decode cX6_common 31 = .ok (.lload 6, 2) := by decide +kernel
theorem dX6_common_33 : decode cX6_common 33 = .ok (.lstore 4, 2) := by decide +kernel
theorem dX6_common_35 : decode cX6_common 35 = .ok (.lload 8, 2) := by decide +kernel
theorem dX6_common_37 : decode cX6_common 37 = .ok (.lstore 6, 2) := by decide +kernel
theorem dX6_common_39 : decode cX6_common 39 = .ok (.goto (-22), 3) := by decide +kernel
theorem dX6_common_42 : decode cX6_common 42 = .ok (.lload 4, 2) := by decide +kernel
theorem dX6_common_44 : decode cX6_common 44 = .ok (.lreturn, 1) := by decide +kernel
theorem dX6_lowest_0 : decode cX6_lowest 0 = .ok (.lload_n 0, 1) := by decide +kernel
theorem dX6_lowest_1 : decode cX6_lowest 1 = .ok (.lload_n 2, 1) := by decide +kernel
theorem dX6_lowest_2 : decode cX6_lowest 2 = .ok (.invokestatic 166, 3) := by decide +kernel
theorem dX6_lowest_5 : decode cX6_lowest 5 = .ok (.lstore 5, 2) := by decide +kernel
theorem dX6_lowest_7 : decode cX6_lowest 7 = .ok (.iload 4, 2) := by decide +kernel
theorem dX6_lowest_9 : decode cX6_lowest 9 = .ok (.ifCond .ne 7, 3) := by decide +kernel
theorem dX6_lowest_12 : decode cX6_lowest 12 = .ok (.lload_n 0, 1) := by decide +kernel
theorem dX6_lowest_13 : decode cX6_lowest 13 = .ok (.goto 4, 3) := by decide +kernel
theorem dX6_lowest_16 : decode cX6_lowest 16 = .ok (.lload_n 2, 1) := by decide +kernel
theorem dX6_lowest_17 : decode cX6_lowest 17 = .ok (.lload 5, 2) := by decide +kernel
theorem dX6_lowest_19 : decode cX6_lowest 19 = .ok (.ldiv, 1) := by decide +kernel
theorem dX6_lowest_20 : decode cX6_lowest 20 = .ok (.l2i, 1) := by decide +kernel
theorem dX6_lowest_21 : decode cX6_lowest 21 = .ok (.ireturn, 1) := by decide +kernel
theorem dX6_timeTimes_0 : decode cX6_timeTimes 0 = .ok (.aload_n 0, 1) := by decide +kernel
theorem dX6_timeTimes_1 : decode cX6_timeTimes 1 = .ok (.iload_n 1, 1) := by decide +kernel
theorem dX6_timeTimes_2 : decode cX6_timeTimes 2 = .ok (.iconst 1, 1) := by decide +kernel
theorem dX6_timeTimes_3 : decode cX6_timeTimes 3 = .ok (.isub, 1) := by decide +kernel
theorem dX6_timeTimes_4 : decode cX6_timeTimes 4 = .ok (.invokevirtual 170, 3) := by decide +kernel
theorem dX6_timeTimes_7 : decode cX6_timeTimes 7 = .ok (.istore_n 2, 1) := by decide +kernel
theorem dX6_timeTimes_8 : decode cX6_timeTimes 8 = .ok (.aload_n 0, 1) := by decide +kernel
theorem dX6_timeTimes_9 : decode cX6_timeTimes 9 = .ok (.iload_n 2, 1) := by decide +kernel
theorem dX6_timeTimes_10 : decode cX6_timeTimes 10 = .ok (.invokevirtual 149, 3) := by decide +kernel
theorem dX6_timeTimes_13 : decode cX6_timeTimes 13 = .ok (.istore_n 3, 1) := by decide +kernel
theorem dX6_timeTimes_14 : decode cX6_timeTimes 14 = .ok (.aload_n 0, 1) := by decide +kernel
theorem dX6_timeTimes_15 : decode cX6_timeTimes 15 = .ok (.iload_n 2, 1) := by decide +kernel
theorem dX6_timeTimes_16 : decode cX6_timeTimes 16 = .ok (.iload_n 3, 1) := by decide +kernel
theorem dX6_timeTimes_17 : decode cX6_timeTimes 17 = .ok (.iload_n 1, 1) := by decide +kernel
theorem dX6_timeTimes_18 : decode cX6_timeTimes 18 = .ok (.invokevirtual 142, 3) := by decide +kernel
theorem dX6_timeTimes_21 : decode cX6_timeTimes 21 = .ok (.aload_n 0, 1) := by decide +kernel
theorem dX6_timeTimes_22 : decode cX6_timeTimes 22 = .ok (.getfield 35, 3) := by decide +kernel
theorem dX6_timeTimes_25 : decode cX6_timeTimes 25 = .ok (.iload_n 1, 1) := by decide +kernel
theorem dX6_timeTimes_26 : decode cX6_timeTimes 26 = .ok (.iaload, 1) := by decide +kernel
theorem dX6_timeTimes_27 : decode cX6_timeTimes 27 = .ok (.i2l, 1) := by decide +kernel
theorem dX6_timeTimes_28 : decode cX6_timeTimes 28 = .ok (.aload_n 0, 1) := by decide +kernel
theorem dX6_timeTimes_29 : decode cX6_timeTimes 29 = .ok (.getfield 32, 3) := by decide +kernel
theorem dX6_timeTimes_32 : decode cX6_timeTimes 32 = .ok (.iload_n 3, 1) := by decide +kernel
theorem dX6_timeTimes_33 : decode cX6_timeTimes 33 = .ok (.iaload, 1) := by decide +kernel
theorem dX6_timeTimes_34 : decode cX6_timeTimes 34 = .ok (.aload_n 0, 1) := by decide +kernel
theorem dX6_timeTimes_35 : decode cX6_timeTimes 35 = .ok (.getfield 32, 3) := by decide +kernel
theorem dX6_timeTimes_38 : decode cX6_timeTimes 38 = .ok (.iload_n 2, 1) := by decide +kernel
theorem dX6_timeTimes_39 : decode cX6_timeTimes 39 = .ok (.iaload, 1) := by decide +kernel
theorem dX6_timeTimes_40 : decode cX6_timeTimes 40 = .ok (.isub, 1) := by decide +kernel
theorem dX6_timeTimes_41 : decode cX6_timeTimes 41 = .ok (.i2l, 1) := by decide +kernel
theorem dX6_timeTimes_42 : decode cX6_timeTimes 42 = .ok (.lmul, 1) := by decide +kernel
theorem dX6_timeTimes_43 : decode cX6_timeTimes 43 = .ok (.ladd, 1) := by decide +kernel
theorem dX6_timeTimes_44 : decode cX6_timeTimes 44 = .ok (.lreturn, 1) := by decide +kernel
theorem dX6_milesAt_0 : decode cX6_milesAt 0 = .ok (.aload_n 0, 1) := by decide +kernel
theorem dX6_milesAt_1 : decode cX6_milesAt 1 = .ok (.iload_n 1, 1) := by decide +kernel
theorem dX6_milesAt_2 : decode cX6_milesAt 2 = .ok (.iconst 1, 1) := by decide +kernel
theorem dX6_milesAt_3 : decode cX6_milesAt 3 = .ok (.isub, 1) := by decide +kernel
theorem dX6_milesAt_4 : decode cX6_milesAt 4 = .ok (.invokevirtual 170, 3) := by decide +kernel
theorem dX6_milesAt_7 : decode cX6_milesAt 7 = .ok (.istore_n 2, 1) := by decide +kernel
theorem dX6_milesAt_8 : decode cX6_milesAt 8 = .ok (.aload_n 0, 1) := by decide +kernel
theorem dX6_milesAt_9 : decode cX6_milesAt 9 = .ok (.getfield 32, 3) := by decide +kernel
theorem dX6_milesAt_12 : decode cX6_milesAt 12 = .ok (.aload_n 0, 1) := by decide +kernel
theorem dX6_milesAt_13 : decode cX6_milesAt 13 = .ok (.iload_n 2, 1) := by decide +kernel
theorem dX6_milesAt_14 : decode cX6_milesAt 14 = .ok (.invokevirtual 149, 3) := by decide +kernel
theorem dX6_milesAt_17 : decode cX6_milesAt 17 = .ok (.iaload, 1) := by decide +kernel
theorem dX6_milesAt_18 : decode cX6_milesAt 18 = .ok (.aload_n 0, 1) := by decide +kernel
theorem dX6_milesAt_19 : decode cX6_milesAt 19 = .ok (.getfield 32, 3) := by decide +kernel
theorem dX6_milesAt_22 : decode cX6_milesAt 22 = .ok (.iload_n 2, 1) := by decide +kernel
theorem dX6_milesAt_23 : decode cX6_milesAt 23 = .ok (.iaload, 1) := by decide +kernel
theorem dX6_milesAt_24 : decode cX6_milesAt 24 = .ok (.isub, 1) := by decide +kernel
theorem dX6_milesAt_25 : decode cX6_milesAt 25 = .ok (.i2l, 1) := by decide +kernel
theorem dX6_milesAt_26 : decode cX6_milesAt 26 = .ok (.lreturn, 1) := by decide +kernel
theorem dX6_costOf_0 : decode cX6_costOf 0 = .ok (.aload_n 0, 1) := by decide +kernel
theorem dX6_costOf_1 : decode cX6_costOf 1 = .ok (.iload_n 1, 1) := by decide +kernel
theorem dX6_costOf_2 : decode cX6_costOf 2 = .ok (.invokevirtual 170, 3) := by decide +kernel
theorem dX6_costOf_5 : decode cX6_costOf 5 = .ok (.istore_n 2, 1) := by decide +kernel
theorem dX6_costOf_6 : decode cX6_costOf 6 = .ok (.aload_n 0, 1) := by decide +kernel
theorem dX6_costOf_7 : decode cX6_costOf 7 = .ok (.iload_n 2, 1) := by decide +kernel
theorem dX6_costOf_8 : decode cX6_costOf 8 = .ok (.invokevirtual 149, 3) := by decide +kernel
theorem dX6_costOf_11 : decode cX6_costOf 11 = .ok (.istore_n 3, 1) := by decide +kernel
theorem dX6_costOf_12 : decode cX6_costOf 12 = .ok (.aload_n 0, 1) := by decide +kernel
theorem dX6_costOf_13 : decode cX6_costOf 13 = .ok (.getfield 47, 3) := by decide +kernel
theorem dX6_costOf_16 : decode cX6_costOf 16 = .ok (.iload_n 3, 1) := by decide +kernel
theorem dX6_costOf_17 : decode cX6_costOf 17 = .ok (.laload, 1) := by decide +kernel
theorem dX6_costOf_18 : decode cX6_costOf 18 = .ok (.aload_n 0, 1) := by decide +kernel
theorem dX6_costOf_19 : decode cX6_costOf 19 = .ok (.getfield 47, 3) := by decide +kernel
theorem dX6_costOf_22 : decode cX6_costOf 22 = .ok (.iload_n 2, 1) := by decide +kernel
theorem dX6_costOf_23 : decode cX6_costOf 23 = .ok (.laload, 1) := by decide +kernel
theorem dX6_costOf_24 : decode cX6_costOf 24 = .ok (.lsub, 1) := by decide +kernel
theorem dX6_costOf_25 : decode cX6_costOf 25 = .ok (.lstore 4, 2) := by decide +kernel
theorem dX6_costOf_27 : decode cX6_costOf 27 = .ok (.aload_n 0, 1) := by decide +kernel
theorem dX6_costOf_28 : decode cX6_costOf 28 = .ok (.getfield 32, 3) := by decide +kernel
theorem dX6_costOf_31 : decode cX6_costOf 31 = .ok (.iload_n 3, 1) := by decide +kernel
theorem dX6_costOf_32 : decode cX6_costOf 32 = .ok (.iaload, 1) := by decide +kernel
theorem dX6_costOf_33 : decode cX6_costOf 33 = .ok (.aload_n 0, 1) := by decide +kernel
theorem dX6_costOf_34 : decode cX6_costOf 34 = .ok (.getfield 32, 3) := by decide +kernel
theorem dX6_costOf_37 : decode cX6_costOf 37 = .ok (.iload_n 2, 1) := by decide +kernel
theorem dX6_costOf_38 : decode cX6_costOf 38 = .ok (.iaload, 1) := by decide +kernel
theorem dX6_costOf_39 : decode cX6_costOf 39 = .ok (.isub, 1) := by decide +kernel
theorem dX6_costOf_40 : decode cX6_costOf 40 = .ok (.i2l, 1) := by decide +kernel
theorem dX6_costOf_41 : decode cX6_costOf 41 = .ok (.lstore 6, 2) := by decide +kernel
theorem dX6_costOf_43 : decode cX6_costOf 43 = .ok (.lload 6, 2) := by decide +kernel
theorem dX6_costOf_45 : decode cX6_costOf 45 = .ok (.ldc2_w 173, 3) := by decide +kernel
theorem dX6_costOf_48 : decode cX6_costOf 48 = .ok (.lload 4, 2) := by decide +kernel
theorem dX6_costOf_50 : decode cX6_costOf 50 = .ok (.lmul, 1) := by decide +kernel
theorem dX6_costOf_51 : decode cX6_costOf 51 = .ok (.ldiv, 1) := by decide +kernel
theorem dX6_costOf_52 : decode cX6_costOf 52 = .ok (.lstore 8, 2) := by decide +kernel
theorem dX6_costOf_54 : decode cX6_costOf 54 = .ok (.lload 8, 2) := by decide +kernel
theorem dX6_costOf_56 : decode cX6_costOf 56 = .ok (.ldc2_w 175, 3) := by decide +kernel
theorem dX6_costOf_59 : decode cX6_costOf 59 = .ok (.lcmp, 1) := by decide +kernel
theorem dX6_costOf_60 : decode cX6_costOf 60 = .ok (.ifCond .le 7, 3) := by decide +kernel
theorem dX6_costOf_63 : decode cX6_costOf 63 = .ok (.iconst 2, 1) := by decide +kernel
theorem dX6_costOf_64 : decode cX6_costOf 64 = .ok (.goto 6, 3) := by decide +kernel
theorem dX6_costOf_67 : decode cX6_costOf 67 = .ok (.lload 8, 2) := by decide +kernel
theorem dX6_costOf_69 : decode cX6_costOf 69 = .ok (.l2i, 1) := by decide +kernel
theorem dX6_costOf_70 : decode cX6_costOf 70 = .ok (.istore 10, 2) := by decide +kernel
theorem dX6_costOf_72 : decode cX6_costOf 72 = .ok (.aload_n 0, 1) := by decide +kernel
theorem dX6_costOf_73 : decode cX6_costOf 73 = .ok (.aload_n 0, 1) := by decide +kernel
theorem dX6_costOf_74 : decode cX6_costOf 74 = .ok (.getfield 126, 3) := by decide +kernel
theorem dX6_costOf_77 : decode cX6_costOf 77 = .ok (.iconst 5, 1) := by decide +kernel
theorem dX6_costOf_78 : decode cX6_costOf 78 = .ok (.iload 10, 2) := by decide +kernel
theorem dX6_costOf_80 : decode cX6_costOf 80 = .ok (.iadd, 1) := by decide +kernel
theorem dX6_costOf_81 : decode cX6_costOf 81 = .ok (.invokevirtual 70, 3) := by decide +kernel
theorem dX6_costOf_84 : decode cX6_costOf 84 = .ok (.i2l, 1) := by decide +kernel
theorem dX6_costOf_85 : decode cX6_costOf 85 = .ok (.lstore 11, 2) := by decide +kernel
theorem dX6_costOf_87 : decode cX6_costOf 87 = .ok (.aload_n 0, 1) := by decide +kernel
theorem dX6_costOf_88 : decode cX6_costOf 88 = .ok (.aload_n 0, 1) := by decide +kernel
theorem dX6_costOf_89 : decode cX6_costOf 89 = .ok (.getfield 126, 3) := by decide +kernel
theorem dX6_costOf_92 : decode cX6_costOf 92 = .ok (.iconst 5, 1) := by decide +kernel
theorem dX6_costOf_93 : decode cX6_costOf 93 = .ok (.iload 10, 2) := by decide +kernel
theorem dX6_costOf_95 : decode cX6_costOf 95 = .ok (.iadd, 1) := by decide +kernel
theorem dX6_costOf_96 : decode cX6_costOf 96 = .ok (.iconst 1, 1) := by decide +kernel
theorem dX6_costOf_97 : decode cX6_costOf 97 = .ok (.iadd, 1) := by decide +kernel
theorem dX6_costOf_98 : decode cX6_costOf 98 = .ok (.invokevirtual 70, 3) := by decide +kernel
theorem dX6_costOf_101 : decode cX6_costOf 101 = .ok (.i2l, 1) := by decide +kernel
theorem dX6_costOf_102 : decode cX6_costOf 102 = .ok (.lstore 13, 2) := by decide +kernel
theorem dX6_costOf_104 : decode cX6_costOf 104 = .ok (.lload 11, 2) := by decide +kernel
theorem dX6_costOf_106 : decode cX6_costOf 106 = .ok (.ldc2_w 173, 3) := by decide +kernel
theorem dX6_costOf_109 : decode cX6_costOf 109 = .ok (.lmul, 1) := by decide +kernel
theorem dX6_costOf_110 : decode cX6_costOf 110 = .ok (.lload 4, 2) := by decide +kernel
theorem dX6_costOf_112 : decode cX6_costOf 112 = .ok (.lmul, 1) := by decide +kernel
theorem dX6_costOf_113 : decode cX6_costOf 113 = .ok (.lload 13, 2) := by decide +kernel
theorem dX6_costOf_115 : decode cX6_costOf 115 = .ok (.lload 11, 2) := by decide +kernel
theorem dX6_costOf_117 : decode cX6_costOf 117 = .ok (.lsub, 1) := by decide +kernel
theorem dX6_costOf_118 : decode cX6_costOf 118 = .ok (.lload 6, 2) := by decide +kernel
theorem dX6_costOf_120 : decode cX6_costOf 120 = .ok (.ldc2_w 173, 3) := by decide +kernel
theorem dX6_costOf_123 : decode cX6_costOf 123 = .ok (.iload 10, 2) := by decide +kernel
theorem dX6_costOf_125 : decode cX6_costOf 125 = .ok (.i2l, 1) := by decide +kernel
theorem dX6_costOf_126 : decode cX6_costOf 126 = .ok (.lmul, 1) := by decide +kernel
theorem dX6_costOf_127 : decode cX6_costOf 127 = .ok (.lload 4, 2) := by decide +kernel
theorem dX6_costOf_129 : decode cX6_costOf 129 = .ok (.lmul, 1) := by decide +kernel
theorem dX6_costOf_130 : decode cX6_costOf 130 = .ok (.lsub, 1) := by decide +kernel
theorem dX6_costOf_131 : decode cX6_costOf 131 = .ok (.lmul, 1) := by decide +kernel
theorem dX6_costOf_132 : decode cX6_costOf 132 = .ok (.ladd, 1) := by decide +kernel
theorem dX6_costOf_133 : decode cX6_costOf 133 = .ok (.lstore 15, 2) := by decide +kernel
theorem dX6_costOf_135 : decode cX6_costOf 135 = .ok (.aload_n 0, 1) := by decide +kernel
theorem dX6_costOf_136 : decode cX6_costOf 136 = .ok (.aload_n 0, 1) := by decide +kernel
theorem dX6_costOf_137 : decode cX6_costOf 137 = .ok (.getfield 126, 3) := by decide +kernel
theorem dX6_costOf_140 : decode cX6_costOf 140 = .ok (.iload_n 1, 1) := by decide +kernel
theorem dX6_costOf_141 : decode cX6_costOf 141 = .ok (.iconst 0, 1) := by decide +kernel
theorem dX6_costOf_142 : decode cX6_costOf 142 = .ok (.invokevirtual 135, 3) := by decide +kernel
theorem dX6_costOf_145 : decode cX6_costOf 145 = .ok (.i2l, 1) := by decide +kernel
theorem dX6_costOf_146 : decode cX6_costOf 146 = .ok (.lload 15, 2) := by decide +kernel
theorem dX6_costOf_148 : decode cX6_costOf 148 = .ok (.lmul, 1) := by decide +kernel
theorem dX6_costOf_149 : decode cX6_costOf 149 = .ok (.ldc2_w 173, 3) := by decide +kernel
theorem dX6_costOf_152 : decode cX6_costOf 152 = .ok (.lload 4, 2) := by decide +kernel
theorem dX6_costOf_154 : decode cX6_costOf 154 = .ok (.lmul, 1) := by decide +kernel
theorem dX6_costOf_155 : decode cX6_costOf 155 = .ok (.ldiv, 1) := by decide +kernel
theorem dX6_costOf_156 : decode cX6_costOf 156 = .ok (.l2i, 1) := by decide +kernel
theorem dX6_costOf_157 : decode cX6_costOf 157 = .ok (.ireturn, 1) := by decide +kernel
theorem dX6_costsAhead_0 : decode cX6_costsAhead 0 = .ok (.iconst 0, 1) := by decide +kernel
theorem dX6_costsAhead_1 : decode cX6_costsAhead 1 = .ok (.istore_n 1, 1) := by decide +kernel
theorem dX6_costsAhead_2 : decode cX6_costsAhead 2 = .ok (.aload_n 0, 1) := by decide +kernel
theorem dX6_costsAhead_3 : decode cX6_costsAhead 3 = .ok (.getfield 129, 3) := by decide +kernel
theorem dX6_costsAhead_6 : decode cX6_costsAhead 6 = .ok (.istore_n 2, 1) := by decide +kernel
theorem dX6_costsAhead_7 : decode cX6_costsAhead 7 = .ok (.iload_n 2, 1) := by decide +kernel
theorem dX6_costsAhead_8 : decode cX6_costsAhead 8 = .ok (.aload_n 0, 1) := by decide +kernel
theorem dX6_costsAhead_9 : decode cX6_costsAhead 9 = .ok (.getfield 132, 3) := by decide +kernel
theorem dX6_costsAhead_12 : decode cX6_costsAhead 12 = .ok (.if_icmp .ge 17, 3) := by decide +kernel
theorem dX6_costsAhead_15 : decode cX6_costsAhead 15 = .ok (.iload_n 1, 1) := by decide +kernel
theorem dX6_costsAhead_16 : decode cX6_costsAhead 16 = .ok (.aload_n 0, 1) := by decide +kernel
theorem dX6_costsAhead_17 : decode cX6_costsAhead 17 = .ok (.iload_n 2, 1) := by decide +kernel
theorem dX6_costsAhead_18 : decode cX6_costsAhead 18 = .ok (.invokevirtual 177, 3) := by decide +kernel
theorem dX6_costsAhead_21 : decode cX6_costsAhead 21 = .ok (.iadd, 1) := by decide +kernel
theorem dX6_costsAhead_22 : decode cX6_costsAhead 22 = .ok (.istore_n 1, 1) := by decide +kernel
theorem dX6_costsAhead_23 : decode cX6_costsAhead 23 = .ok (.iinc 2 1, 3) := by decide +kernel
theorem dX6_costsAhead_26 : decode cX6_costsAhead 26 = .ok (.goto (-19), 3) := by decide +kernel
theorem dX6_costsAhead_29 : decode cX6_costsAhead 29 = .ok (.iload_n 1, 1) := by decide +kernel
theorem dX6_costsAhead_30 : decode cX6_costsAhead 30 = .ok (.ireturn, 1) := by decide +kernel
theorem dX6_sails_0 : decode cX6_sails 0 = .ok (.iload_n 1, 1) := by decide +kernel
theorem dX6_sails_1 : decode cX6_sails 1 = .ok (.invokestatic 115, 3) := by decide +kernel
theorem dX6_sails_4 : decode cX6_sails 4 = .ok (.ifCond .ne 5, 3) := by decide +kernel
theorem dX6_sails_7 : decode cX6_sails 7 = .ok (.iconst (-1), 1) := by decide +kernel
theorem dX6_sails_8 : decode cX6_sails 8 = .ok (.ireturn, 1) := by decide +kernel
theorem dX6_sails_9 : decode cX6_sails 9 = .ok (.aload_n 0, 1) := by decide +kernel
theorem dX6_sails_10 : decode cX6_sails 10 = .ok (.iload_n 1, 1) := by decide +kernel
theorem dX6_sails_11 : decode cX6_sails 11 = .ok (.invokevirtual 180, 3) := by decide +kernel
theorem dX6_sails_14 : decode cX6_sails 14 = .ok (.ifCond .ne 6, 3) := by decide +kernel
theorem dX6_sails_17 : decode cX6_sails 17 = .ok (.bipush (-2), 2) := by decide +kernel
theorem dX6_sails_19 : decode cX6_sails 19 = .ok (.ireturn, 1) := by decide +kernel
theorem dX6_sails_20 : decode cX6_sails 20 = .ok (.aload_n 0, 1) := by decide +kernel
theorem dX6_sails_21 : decode cX6_sails 21 = .ok (.invokevirtual 123, 3) := by decide +kernel
theorem dX6_sails_24 : decode cX6_sails 24 = .ok (.aload_n 0, 1) := by decide +kernel
theorem dX6_sails_25 : decode cX6_sails 25 = .ok (.getfield 129, 3) := by decide +kernel
theorem dX6_sails_28 : decode cX6_sails 28 = .ok (.iconst 1, 1) := by decide +kernel
theorem dX6_sails_29 : decode cX6_sails 29 = .ok (.iadd, 1) := by decide +kernel
theorem dX6_sails_30 : decode cX6_sails 30 = .ok (.istore_n 2, 1) := by decide +kernel
theorem dX6_sails_31 : decode cX6_sails 31 = .ok (.aload_n 0, 1) := by decide +kernel
theorem dX6_sails_32 : decode cX6_sails 32 = .ok (.iload_n 2, 1) := by decide +kernel
theorem dX6_sails_33 : decode cX6_sails 33 = .ok (.invokevirtual 183, 3) := by decide +kernel
theorem dX6_sails_36 : decode cX6_sails 36 = .ok (.lstore_n 3, 1) := by decide +kernel
theorem dX6_sails_37 : decode cX6_sails 37 = .ok (.aload_n 0, 1) := by decide +kernel
theorem dX6_sails_38 : decode cX6_sails 38 = .ok (.iload_n 2, 1) := by decide +kernel
theorem dX6_sails_39 : decode cX6_sails 39 = .ok (.invokevirtual 187, 3) := by decide +kernel
theorem dX6_sails_42 : decode cX6_sails 42 = .ok (.lstore 5, 2) := by decide +kernel
theorem dX6_sails_44 : decode cX6_sails 44 = .ok (.lload 5, 2) := by decide +kernel
theorem dX6_sails_46 : decode cX6_sails 46 = .ok (.lload_n 3, 1) := by decide +kernel
theorem dX6_sails_47 : decode cX6_sails 47 = .ok (.ladd, 1) := by decide +kernel
theorem dX6_sails_48 : decode cX6_sails 48 = .ok (.lconst 1, 1) := by decide +kernel
theorem dX6_sails_49 : decode cX6_sails 49 = .ok (.lsub, 1) := by decide +kernel
theorem dX6_sails_50 : decode cX6_sails 50 = .ok (.lload_n 3, 1) := by decide +kernel
theorem dX6_sails_51 : decode cX6_sails 51 = .ok (.ldiv, 1) := by decide +kernel
theorem dX6_sails_52 : decode cX6_sails 52 = .ok (.l2i, 1) := by decide +kernel
theorem dX6_sails_53 : decode cX6_sails 53 = .ok (.istore 7, 2) := by decide +kernel
theorem dX6_sails_55 : decode cX6_sails 55 = .ok (.bipush 33, 2) := by decide +kernel
theorem dX6_sails_57 : decode cX6_sails 57 = .ok (.iload_n 1, 1) := by decide +kernel
theorem dX6_sails_58 : decode cX6_sails 58 = .ok (.imul, 1) := by decide +kernel
theorem dX6_sails_59 : decode cX6_sails 59 = .ok (.istore 8, 2) := by decide +kernel
theorem dX6_sails_61 : decode cX6_sails 61 = .ok (.aload_n 0, 1) := by decide +kernel
theorem dX6_sails_62 : decode cX6_sails 62 = .ok (.getfield 7, 3) := by decide +kernel
theorem dX6_sails_65 : decode cX6_sails 65 = .ok (.iload 8, 2) := by decide +kernel
theorem dX6_sails_67 : decode cX6_sails 67 = .ok (.iconst 4, 1) := by decide +kernel
theorem dX6_sails_68 : decode cX6_sails 68 = .ok (.iadd, 1) := by decide +kernel
theorem dX6_sails_69 : decode cX6_sails 69 = .ok (.dup2, 1) := by decide +kernel
theorem dX6_sails_70 : decode cX6_sails 70 = .ok (.iaload, 1) := by decide +kernel
theorem dX6_sails_71 : decode cX6_sails 71 = .ok (.aload_n 0, 1) := by decide +kernel
theorem dX6_sails_72 : decode cX6_sails 72 = .ok (.aload_n 0, 1) := by decide +kernel
theorem dX6_sails_73 : decode cX6_sails 73 = .ok (.getfield 129, 3) := by decide +kernel
theorem dX6_sails_76 : decode cX6_sails 76 = .ok (.invokevirtual 177, 3) := by decide +kernel
theorem dX6_sails_79 : decode cX6_sails 79 = .ok (.iadd, 1) := by decide +kernel
theorem dX6_sails_80 : decode cX6_sails 80 = .ok (.iastore, 1) := by decide +kernel
theorem dX6_sails_81 : decode cX6_sails 81 = .ok (.aload_n 0, 1) := by decide +kernel
theorem dX6_sails_82 : decode cX6_sails 82 = .ok (.getfield 7, 3) := by decide +kernel
theorem dX6_sails_85 : decode cX6_sails 85 = .ok (.iload 8, 2) := by decide +kernel
theorem dX6_sails_87 : decode cX6_sails 87 = .ok (.iconst 2, 1) := by decide +kernel
theorem dX6_sails_88 : decode cX6_sails 88 = .ok (.iadd, 1) := by decide +kernel
theorem dX6_sails_89 : decode cX6_sails 89 = .ok (.iload_n 2, 1) := by decide +kernel
theorem dX6_sails_90 : decode cX6_sails 90 = .ok (.iastore, 1) := by decide +kernel
theorem dX6_sails_91 : decode cX6_sails 91 = .ok (.aload_n 0, 1) := by decide +kernel
theorem dX6_sails_92 : decode cX6_sails 92 = .ok (.getfield 7, 3) := by decide +kernel
theorem dX6_sails_95 : decode cX6_sails 95 = .ok (.iload 8, 2) := by decide +kernel
theorem dX6_sails_97 : decode cX6_sails 97 = .ok (.iconst 3, 1) := by decide +kernel
theorem dX6_sails_98 : decode cX6_sails 98 = .ok (.iadd, 1) := by decide +kernel
theorem dX6_sails_99 : decode cX6_sails 99 = .ok (.iload 7, 2) := by decide +kernel
theorem dX6_sails_101 : decode cX6_sails 101 = .ok (.aload_n 0, 1) := by decide +kernel
theorem dX6_sails_102 : decode cX6_sails 102 = .ok (.iload_n 1, 1) := by decide +kernel
theorem dX6_sails_103 : decode cX6_sails 103 = .ok (.iload_n 2, 1) := by decide +kernel
theorem dX6_sails_104 : decode cX6_sails 104 = .ok (.iconst 1, 1) := by decide +kernel
theorem dX6_sails_105 : decode cX6_sails 105 = .ok (.isub, 1) := by decide +kernel
theorem dX6_sails_106 : decode cX6_sails 106 = .ok (.iconst 1, 1) := by decide +kernel
theorem dX6_sails_107 : decode cX6_sails 107 = .ok (.invokevirtual 135, 3) := by decide +kernel
theorem dX6_sails_110 : decode cX6_sails 110 = .ok (.iadd, 1) := by decide +kernel
theorem dX6_sails_111 : decode cX6_sails 111 = .ok (.iastore, 1) := by decide +kernel
theorem dX6_sails_112 : decode cX6_sails 112 = .ok (.aload_n 0, 1) := by decide +kernel
theorem dX6_sails_113 : decode cX6_sails 113 = .ok (.getfield 7, 3) := by decide +kernel
theorem dX6_sails_116 : decode cX6_sails 116 = .ok (.iload 8, 2) := by decide +kernel
theorem dX6_sails_118 : decode cX6_sails 118 = .ok (.iconst 3, 1) := by decide +kernel
theorem dX6_sails_119 : decode cX6_sails 119 = .ok (.iadd, 1) := by decide +kernel
theorem dX6_sails_120 : decode cX6_sails 120 = .ok (.iaload, 1) := by decide +kernel
theorem dX6_sails_121 : decode cX6_sails 121 = .ok (.ireturn, 1) := by decide +kernel
theorem dX6_holds_0 : decode cX6_holds 0 = .ok (.iload_n 1, 1) := by decide +kernel
theorem dX6_holds_1 : decode cX6_holds 1 = .ok (.invokestatic 115, 3) := by decide +kernel
theorem dX6_holds_4 : decode cX6_holds 4 = .ok (.ifCond .eq 13, 3) := by decide +kernel
theorem dX6_holds_7 : decode cX6_holds 7 = .ok (.iload_n 2, 1) := by decide +kernel
theorem dX6_holds_8 : decode cX6_holds 8 = .ok (.iconst 1, 1) := by decide +kernel
theorem dX6_holds_9 : decode cX6_holds 9 = .ok (.bipush 99, 2) := by decide +kernel
theorem dX6_holds_11 : decode cX6_holds 11 = .ok (.invokestatic 62, 3) := by decide +kernel
theorem dX6_holds_14 : decode cX6_holds 14 = .ok (.ifCond .ne 5, 3) := by decide +kernel
theorem dX6_holds_17 : decode cX6_holds 17 = .ok (.iconst (-1), 1) := by decide +kernel
theorem dX6_holds_18 : decode cX6_holds 18 = .ok (.ireturn, 1) := by decide +kernel
theorem dX6_holds_19 : decode cX6_holds 19 = .ok (.aload_n 0, 1) := by decide +kernel
theorem dX6_holds_20 : decode cX6_holds 20 = .ok (.iload_n 1, 1) := by decide +kernel
theorem dX6_holds_21 : decode cX6_holds 21 = .ok (.iconst 3, 1) := by decide +kernel
theorem dX6_holds_22 : decode cX6_holds 22 = .ok (.invokevirtual 70, 3) := by decide +kernel
theorem dX6_holds_25 : decode cX6_holds 25 = .ok (.iload_n 2, 1) := by decide +kernel
theorem dX6_holds_26 : decode cX6_holds 26 = .ok (.iadd, 1) := by decide +kernel
theorem dX6_holds_27 : decode cX6_holds 27 = .ok (.sipush 9999, 3) := by decide +kernel
theorem dX6_holds_30 : decode cX6_holds 30 = .ok (.if_icmp .le 6, 3) := by decide +kernel
theorem dX6_holds_33 : decode cX6_holds 33 = .ok (.bipush (-3), 2) := by decide +kernel
theorem dX6_holds_35 : decode cX6_holds 35 = .ok (.ireturn, 1) := by decide +kernel
theorem dX6_holds_36 : decode cX6_holds 36 = .ok (.aload_n 0, 1) := by decide +kernel
theorem dX6_holds_37 : decode cX6_holds 37 = .ok (.invokevirtual 123, 3) := by decide +kernel
theorem dX6_holds_40 : decode cX6_holds 40 = .ok (.aload_n 0, 1) := by decide +kernel
theorem dX6_holds_41 : decode cX6_holds 41 = .ok (.getfield 7, 3) := by decide +kernel
theorem dX6_holds_44 : decode cX6_holds 44 = .ok (.bipush 33, 2) := by decide +kernel
theorem dX6_holds_46 : decode cX6_holds 46 = .ok (.iload_n 1, 1) := by decide +kernel
theorem dX6_holds_47 : decode cX6_holds 47 = .ok (.imul, 1) := by decide +kernel
theorem dX6_holds_48 : decode cX6_holds 48 = .ok (.iconst 3, 1) := by decide +kernel
theorem dX6_holds_49 : decode cX6_holds 49 = .ok (.iadd, 1) := by decide +kernel
theorem dX6_holds_50 : decode cX6_holds 50 = .ok (.dup2, 1) := by decide +kernel
theorem dX6_holds_51 : decode cX6_holds 51 = .ok (.iaload, 1) := by decide +kernel
theorem dX6_holds_52 : decode cX6_holds 52 = .ok (.iload_n 2, 1) := by decide +kernel
theorem dX6_holds_53 : decode cX6_holds 53 = .ok (.iadd, 1) := by decide +kernel
theorem dX6_holds_54 : decode cX6_holds 54 = .ok (.iastore, 1) := by decide +kernel
theorem dX6_holds_55 : decode cX6_holds 55 = .ok (.aload_n 0, 1) := by decide +kernel
theorem dX6_holds_56 : decode cX6_holds 56 = .ok (.iload_n 1, 1) := by decide +kernel
theorem dX6_holds_57 : decode cX6_holds 57 = .ok (.iconst 3, 1) := by decide +kernel
theorem dX6_holds_58 : decode cX6_holds 58 = .ok (.invokevirtual 70, 3) := by decide +kernel
theorem dX6_holds_61 : decode cX6_holds 61 = .ok (.ireturn, 1) := by decide +kernel
theorem dX6_moves_0 : decode cX6_moves 0 = .ok (.aload_n 0, 1) := by decide +kernel
theorem dX6_moves_1 : decode cX6_moves 1 = .ok (.iload_n 1, 1) := by decide +kernel
theorem dX6_moves_2 : decode cX6_moves 2 = .ok (.iload_n 2, 1) := by decide +kernel
theorem dX6_moves_3 : decode cX6_moves 3 = .ok (.invokevirtual 190, 3) := by decide +kernel
theorem dX6_moves_6 : decode cX6_moves 6 = .ok (.ifCond .eq 26, 3) := by decide +kernel
theorem dX6_moves_9 : decode cX6_moves 9 = .ok (.iload_n 3, 1) := by decide +kernel
theorem dX6_moves_10 : decode cX6_moves 10 = .ok (.iconst 0, 1) := by decide +kernel
theorem dX6_moves_11 : decode cX6_moves 11 = .ok (.sipush 999, 3) := by decide +kernel
theorem dX6_moves_14 : decode cX6_moves 14 = .ok (.invokestatic 62, 3) := by decide +kernel
theorem dX6_moves_17 : decode cX6_moves 17 = .ok (.ifCond .eq 15, 3) := by decide +kernel
theorem dX6_moves_20 : decode cX6_moves 20 = .ok (.iload 4, 2) := by decide +kernel
theorem dX6_moves_22 : decode cX6_moves 22 = .ok (.iload_n 3, 1) := by decide +kernel
theorem dX6_moves_23 : decode cX6_moves 23 = .ok (.sipush 999, 3) := by decide +kernel
theorem dX6_moves_26 : decode cX6_moves 26 = .ok (.invokestatic 62, 3) := by decide +kernel
theorem dX6_moves_29 : decode cX6_moves 29 = .ok (.ifCond .ne 5, 3) := by decide +kernel
theorem dX6_moves_32 : decode cX6_moves 32 = .ok (.iconst (-1), 1) := by decide +kernel
theorem dX6_moves_33 : decode cX6_moves 33 = .ok (.ireturn, 1) := by decide +kernel
theorem dX6_moves_34 : decode cX6_moves 34 = .ok (.iload_n 2, 1) := by decide +kernel
theorem dX6_moves_35 : decode cX6_moves 35 = .ok (.iconst 1, 1) := by decide +kernel
theorem dX6_moves_36 : decode cX6_moves 36 = .ok (.isub, 1) := by decide +kernel
theorem dX6_moves_37 : decode cX6_moves 37 = .ok (.istore 5, 2) := by decide +kernel
theorem dX6_moves_39 : decode cX6_moves 39 = .ok (.aload_n 0, 1) := by decide +kernel
theorem dX6_moves_40 : decode cX6_moves 40 = .ok (.iload_n 1, 1) := by decide +kernel
theorem dX6_moves_41 : decode cX6_moves 41 = .ok (.iload 5, 2) := by decide +kernel
theorem dX6_moves_43 : decode cX6_moves 43 = .ok (.iconst 2, 1) := by decide +kernel
theorem dX6_moves_44 : decode cX6_moves 44 = .ok (.invokevirtual 135, 3) := by decide +kernel
theorem dX6_moves_47 : decode cX6_moves 47 = .ok (.iload_n 3, 1) := by decide +kernel
theorem dX6_moves_48 : decode cX6_moves 48 = .ok (.if_icmp .ne 19, 3) := by decide +kernel
theorem dX6_moves_51 : decode cX6_moves 51 = .ok (.aload_n 0, 1) := by decide +kernel
theorem dX6_moves_52 : decode cX6_moves 52 = .ok (.iload_n 1, 1) := by decide +kernel
theorem dX6_moves_53 : decode cX6_moves 53 = .ok (.iload 5, 2) := by decide +kernel
theorem dX6_moves_55 : decode cX6_moves 55 = .ok (.iconst 3, 1) := by decide +kernel
theorem dX6_moves_56 : decode cX6_moves 56 = .ok (.invokevirtual 135, 3) := by decide +kernel
theorem dX6_moves_59 : decode cX6_moves 59 = .ok (.iload 4, 2) := by decide +kernel
theorem dX6_moves_61 : decode cX6_moves 61 = .ok (.if_icmp .ne 6, 3) := by decide +kernel
theorem dX6_moves_64 : decode cX6_moves 64 = .ok (.bipush (-2), 2) := by decide +kernel
theorem dX6_moves_66 : decode cX6_moves 66 = .ok (.ireturn, 1) := by decide +kernel
theorem dX6_moves_67 : decode cX6_moves 67 = .ok (.aload_n 0, 1) := by decide +kernel
theorem dX6_moves_68 : decode cX6_moves 68 = .ok (.invokevirtual 123, 3) := by decide +kernel
theorem dX6_moves_71 : decode cX6_moves 71 = .ok (.aload_n 0, 1) := by decide +kernel
theorem dX6_moves_72 : decode cX6_moves 72 = .ok (.getfield 7, 3) := by decide +kernel
theorem dX6_moves_75 : decode cX6_moves 75 = .ok (.bipush 33, 2) := by decide +kernel
theorem dX6_moves_77 : decode cX6_moves 77 = .ok (.iload_n 1, 1) := by decide +kernel
theorem dX6_moves_78 : decode cX6_moves 78 = .ok (.imul, 1) := by decide +kernel
theorem dX6_moves_79 : decode cX6_moves 79 = .ok (.iload 5, 2) := by decide +kernel
theorem dX6_moves_81 : decode cX6_moves 81 = .ok (.iconst 2, 1) := by decide +kernel
theorem dX6_moves_82 : decode cX6_moves 82 = .ok (.invokestatic 66, 3) := by decide +kernel
theorem dX6_moves_85 : decode cX6_moves 85 = .ok (.iadd, 1) := by decide +kernel
theorem dX6_moves_86 : decode cX6_moves 86 = .ok (.iload_n 3, 1) := by decide +kernel
theorem dX6_moves_87 : decode cX6_moves 87 = .ok (.iastore, 1) := by decide +kernel
theorem dX6_moves_88 : decode cX6_moves 88 = .ok (.aload_n 0, 1) := by decide +kernel
theorem dX6_moves_89 : decode cX6_moves 89 = .ok (.getfield 7, 3) := by decide +kernel
theorem dX6_moves_92 : decode cX6_moves 92 = .ok (.bipush 33, 2) := by decide +kernel
theorem dX6_moves_94 : decode cX6_moves 94 = .ok (.iload_n 1, 1) := by decide +kernel
theorem dX6_moves_95 : decode cX6_moves 95 = .ok (.imul, 1) := by decide +kernel
theorem dX6_moves_96 : decode cX6_moves 96 = .ok (.iload 5, 2) := by decide +kernel
theorem dX6_moves_98 : decode cX6_moves 98 = .ok (.iconst 3, 1) := by decide +kernel
theorem dX6_moves_99 : decode cX6_moves 99 = .ok (.invokestatic 66, 3) := by decide +kernel
theorem dX6_moves_102 : decode cX6_moves 102 = .ok (.iadd, 1) := by decide +kernel
theorem dX6_moves_103 : decode cX6_moves 103 = .ok (.iload 4, 2) := by decide +kernel
theorem dX6_moves_105 : decode cX6_moves 105 = .ok (.iastore, 1) := by decide +kernel
theorem dX6_moves_106 : decode cX6_moves 106 = .ok (.iconst 1, 1) := by decide +kernel
theorem dX6_moves_107 : decode cX6_moves 107 = .ok (.ireturn, 1) := by decide +kernel
theorem dX6_fastens_0 : decode cX6_fastens 0 = .ok (.iload_n 1, 1) := by decide +kernel
theorem dX6_fastens_1 : decode cX6_fastens 1 = .ok (.invokestatic 115, 3) := by decide +kernel
theorem dX6_fastens_4 : decode cX6_fastens 4 = .ok (.ifCond .eq 13, 3) := by decide +kernel
theorem dX6_fastens_7 : decode cX6_fastens 7 = .ok (.iload_n 2, 1) := by decide +kernel
theorem dX6_fastens_8 : decode cX6_fastens 8 = .ok (.iconst 1, 1) := by decide +kernel
theorem dX6_fastens_9 : decode cX6_fastens 9 = .ok (.bipush 60, 2) := by decide +kernel
theorem dX6_fastens_11 : decode cX6_fastens 11 = .ok (.invokestatic 62, 3) := by decide +kernel
theorem dX6_fastens_14 : decode cX6_fastens 14 = .ok (.ifCond .ne 5, 3) := by decide +kernel
theorem dX6_fastens_17 : decode cX6_fastens 17 = .ok (.iconst (-1), 1) := by decide +kernel
theorem dX6_fastens_18 : decode cX6_fastens 18 = .ok (.ireturn, 1) := by decide +kernel
theorem dX6_fastens_19 : decode cX6_fastens 19 = .ok (.aload_n 0, 1) := by decide +kernel
theorem dX6_fastens_20 : decode cX6_fastens 20 = .ok (.iload_n 1, 1) := by decide +kernel
theorem dX6_fastens_21 : decode cX6_fastens 21 = .ok (.iconst 1, 1) := by decide +kernel
theorem dX6_fastens_22 : decode cX6_fastens 22 = .ok (.invokevirtual 70, 3) := by decide +kernel
theorem dX6_fastens_25 : decode cX6_fastens 25 = .ok (.istore_n 3, 1) := by decide +kernel
theorem dX6_fastens_26 : decode cX6_fastens 26 = .ok (.iload_n 3, 1) := by decide +kernel
theorem dX6_fastens_27 : decode cX6_fastens 27 = .ok (.iload_n 2, 1) := by decide +kernel
theorem dX6_fastens_28 : decode cX6_fastens 28 = .ok (.if_icmp .ne 6, 3) := by decide +kernel
theorem dX6_fastens_31 : decode cX6_fastens 31 = .ok (.bipush (-2), 2) := by decide +kernel
theorem dX6_fastens_33 : decode cX6_fastens 33 = .ok (.ireturn, 1) := by decide +kernel
theorem dX6_fastens_34 : decode cX6_fastens 34 = .ok (.aload_n 0, 1) := by decide +kernel
theorem dX6_fastens_35 : decode cX6_fastens 35 = .ok (.invokevirtual 123, 3) := by decide +kernel
theorem dX6_fastens_38 : decode cX6_fastens 38 = .ok (.aload_n 0, 1) := by decide +kernel
theorem dX6_fastens_39 : decode cX6_fastens 39 = .ok (.getfield 7, 3) := by decide +kernel
theorem dX6_fastens_42 : decode cX6_fastens 42 = .ok (.bipush 33, 2) := by decide +kernel
theorem dX6_fastens_44 : decode cX6_fastens 44 = .ok (.iload_n 1, 1) := by decide +kernel
theorem dX6_fastens_45 : decode cX6_fastens 45 = .ok (.imul, 1) := by decide +kernel
theorem dX6_fastens_46 : decode cX6_fastens 46 = .ok (.iconst 1, 1) := by decide +kernel
theorem dX6_fastens_47 : decode cX6_fastens 47 = .ok (.iadd, 1) := by decide +kernel
theorem dX6_fastens_48 : decode cX6_fastens 48 = .ok (.iload_n 2, 1) := by decide +kernel
theorem dX6_fastens_49 : decode cX6_fastens 49 = .ok (.iastore, 1) := by decide +kernel
theorem dX6_fastens_50 : decode cX6_fastens 50 = .ok (.iload_n 3, 1) := by decide +kernel
theorem dX6_fastens_51 : decode cX6_fastens 51 = .ok (.ireturn, 1) := by decide +kernel
theorem dX6_ship_0 : decode cX6_ship 0 = .ok (.iload_n 1, 1) := by decide +kernel
theorem dX6_ship_1 : decode cX6_ship 1 = .ok (.invokestatic 115, 3) := by decide +kernel
theorem dX6_ship_4 : decode cX6_ship 4 = .ok (.ifCond .eq 22, 3) := by decide +kernel
theorem dX6_ship_7 : decode cX6_ship 7 = .ok (.iload_n 2, 1) := by decide +kernel
theorem dX6_ship_8 : decode cX6_ship 8 = .ok (.iconst 0, 1) := by decide +kernel
theorem dX6_ship_9 : decode cX6_ship 9 = .ok (.bipush 8, 2) := by decide +kernel
theorem dX6_ship_11 : decode cX6_ship 11 = .ok (.invokestatic 62, 3) := by decide +kernel
theorem dX6_ship_14 : decode cX6_ship 14 = .ok (.ifCond .eq 12, 3) := by decide +kernel
theorem dX6_ship_17 : decode cX6_ship 17 = .ok (.aload_n 0, 1) := by decide +kernel
theorem dX6_ship_18 : decode cX6_ship 18 = .ok (.iload_n 1, 1) := by decide +kernel
theorem dX6_ship_19 : decode cX6_ship 19 = .ok (.iload_n 2, 1) := by decide +kernel
theorem dX6_ship_20 : decode cX6_ship 20 = .ok (.invokevirtual 70, 3) := by decide +kernel
theorem dX6_ship_23 : decode cX6_ship 23 = .ok (.goto 4, 3) := by decide +kernel
theorem dX6_ship_26 : decode cX6_ship 26 = .ok (.iconst (-1), 1) := by decide +kernel
theorem dX6_ship_27 : decode cX6_ship 27 = .ok (.ireturn, 1) := by decide +kernel
theorem dX6_leg_0 : decode cX6_leg 0 = .ok (.iload_n 1, 1) := by decide +kernel
theorem dX6_leg_1 : decode cX6_leg 1 = .ok (.invokestatic 115, 3) := by decide +kernel
theorem dX6_leg_4 : decode cX6_leg 4 = .ok (.ifCond .eq 38, 3) := by decide +kernel
theorem dX6_leg_7 : decode cX6_leg 7 = .ok (.iload_n 2, 1) := by decide +kernel
theorem dX6_leg_8 : decode cX6_leg 8 = .ok (.iconst 0, 1) := by decide +kernel
theorem dX6_leg_9 : decode cX6_leg 9 = .ok (.aload_n 0, 1) := by decide +kernel
theorem dX6_leg_10 : decode cX6_leg 10 = .ok (.iload_n 1, 1) := by decide +kernel
theorem dX6_leg_11 : decode cX6_leg 11 = .ok (.iconst 0, 1) := by decide +kernel
theorem dX6_leg_12 : decode cX6_leg 12 = .ok (.invokevirtual 70, 3) := by decide +kernel
theorem dX6_leg_15 : decode cX6_leg 15 = .ok (.iconst 1, 1) := by decide +kernel
theorem dX6_leg_16 : decode cX6_leg 16 = .ok (.isub, 1) := by decide +kernel
theorem dX6_leg_17 : decode cX6_leg 17 = .ok (.invokestatic 62, 3) := by decide +kernel
theorem dX6_leg_20 : decode cX6_leg 20 = .ok (.ifCond .eq 22, 3) := by decide +kernel
theorem dX6_leg_23 : decode cX6_leg 23 = .ok (.iload_n 3, 1) := by decide +kernel
theorem dX6_leg_24 : decode cX6_leg 24 = .ok (.iconst 0, 1) := by decide +kernel
theorem dX6_leg_25 : decode cX6_leg 25 = .ok (.iconst 3, 1) := by decide +kernel
theorem dX6_leg_26 : decode cX6_leg 26 = .ok (.invokestatic 62, 3) := by decide +kernel
theorem dX6_leg_29 : decode cX6_leg 29 = .ok (.ifCond .eq 13, 3) := by decide +kernel
theorem dX6_leg_32 : decode cX6_leg 32 = .ok (.aload_n 0, 1) := by decide +kernel
theorem dX6_leg_33 : decode cX6_leg 33 = .ok (.iload_n 1, 1) := by decide +kernel
theorem dX6_leg_34 : decode cX6_leg 34 = .ok (.iload_n 2, 1) := by decide +kernel
theorem dX6_leg_35 : decode cX6_leg 35 = .ok (.iload_n 3, 1) := by decide +kernel
theorem dX6_leg_36 : decode cX6_leg 36 = .ok (.invokevirtual 135, 3) := by decide +kernel
theorem dX6_leg_39 : decode cX6_leg 39 = .ok (.goto 4, 3) := by decide +kernel
theorem dX6_leg_42 : decode cX6_leg 42 = .ok (.iconst (-1), 1) := by decide +kernel
theorem dX6_leg_43 : decode cX6_leg 43 = .ok (.ireturn, 1) := by decide +kernel
theorem dX6_stretches_0 : decode cX6_stretches 0 = .ok (.iconst 0, 1) := by decide +kernel
theorem dX6_stretches_1 : decode cX6_stretches 1 = .ok (.istore_n 1, 1) := by decide +kernel
theorem dX6_stretches_2 : decode cX6_stretches 2 = .ok (.aload_n 0, 1) := by decide +kernel
theorem dX6_stretches_3 : decode cX6_stretches 3 = .ok (.getfield 129, 3) := by decide +kernel
theorem dX6_stretches_6 : decode cX6_stretches 6 = .ok (.iconst 1, 1) := by decide +kernel
theorem dX6_stretches_7 : decode cX6_stretches 7 = .ok (.iadd, 1) := by decide +kernel
theorem dX6_stretches_8 : decode cX6_stretches 8 = .ok (.istore_n 2, 1) := by decide +kernel
theorem dX6_stretches_9 : decode cX6_stretches 9 = .ok (.iload_n 2, 1) := by decide +kernel
theorem dX6_stretches_10 : decode cX6_stretches 10 = .ok (.aload_n 0, 1) := by decide +kernel
theorem dX6_stretches_11 : decode cX6_stretches 11 = .ok (.getfield 132, 3) := by decide +kernel
theorem dX6_stretches_14 : decode cX6_stretches 14 = .ok (.if_icmp .gt 26, 3) := by decide +kernel
theorem dX6_stretches_17 : decode cX6_stretches 17 = .ok (.iload_n 1, 1) := by decide +kernel
theorem dX6_stretches_18 : decode cX6_stretches 18 = .ok (.aload_n 0, 1) := by decide +kernel
theorem dX6_stretches_19 : decode cX6_stretches 19 = .ok (.getfield 44, 3) := by decide +kernel
theorem dX6_stretches_22 : decode cX6_stretches 22 = .ok (.iload_n 2, 1) := by decide +kernel
theorem dX6_stretches_23 : decode cX6_stretches 23 = .ok (.iaload, 1) := by decide +kernel
theorem dX6_stretches_24 : decode cX6_stretches 24 = .ok (.ifCond .ne 7, 3) := by decide +kernel
theorem dX6_stretches_27 : decode cX6_stretches 27 = .ok (.iconst 0, 1) := by decide +kernel
theorem dX6_stretches_28 : decode cX6_stretches 28 = .ok (.goto 4, 3) := by decide +kernel
theorem dX6_stretches_31 : decode cX6_stretches 31 = .ok (.iconst 1, 1) := by decide +kernel
theorem dX6_stretches_32 : decode cX6_stretches 32 = .ok (.iadd, 1) := by decide +kernel
theorem dX6_stretches_33 : decode cX6_stretches 33 = .ok (.istore_n 1, 1) := by decide +kernel
theorem dX6_stretches_34 : decode cX6_stretches 34 = .ok (.iinc 2 1, 3) := by decide +kernel
theorem dX6_stretches_37 : decode cX6_stretches 37 = .ok (.goto (-28), 3) := by decide +kernel
theorem dX6_stretches_40 : decode cX6_stretches 40 = .ok (.iload_n 1, 1) := by decide +kernel
theorem dX6_stretches_41 : decode cX6_stretches 41 = .ok (.ireturn, 1) := by decide +kernel
theorem dX6_plan_0 : decode cX6_plan 0 = .ok (.iload_n 1, 1) := by decide +kernel
theorem dX6_plan_1 : decode cX6_plan 1 = .ok (.invokestatic 115, 3) := by decide +kernel
theorem dX6_plan_4 : decode cX6_plan 4 = .ok (.ifCond .eq 12, 3) := by decide +kernel
theorem dX6_plan_7 : decode cX6_plan 7 = .ok (.iload_n 2, 1) := by decide +kernel
theorem dX6_plan_8 : decode cX6_plan 8 = .ok (.iconst 0, 1) := by decide +kernel
theorem dX6_plan_9 : decode cX6_plan 9 = .ok (.iconst 1, 1) := by decide +kernel
theorem dX6_plan_10 : decode cX6_plan 10 = .ok (.invokestatic 62, 3) := by decide +kernel
theorem dX6_plan_13 : decode cX6_plan 13 = .ok (.ifCond .ne 5, 3) := by decide +kernel
theorem dX6_plan_16 : decode cX6_plan 16 = .ok (.iconst (-1), 1) := by decide +kernel
theorem dX6_plan_17 : decode cX6_plan 17 = .ok (.ireturn, 1) := by decide +kernel
theorem dX6_plan_18 : decode cX6_plan 18 = .ok (.aload_n 0, 1) := by decide +kernel
theorem dX6_plan_19 : decode cX6_plan 19 = .ok (.iload_n 1, 1) := by decide +kernel
theorem dX6_plan_20 : decode cX6_plan 20 = .ok (.invokevirtual 180, 3) := by decide +kernel
theorem dX6_plan_23 : decode cX6_plan 23 = .ok (.ifCond .ne 6, 3) := by decide +kernel
theorem dX6_plan_26 : decode cX6_plan 26 = .ok (.bipush (-9), 2) := by decide +kernel
theorem dX6_plan_28 : decode cX6_plan 28 = .ok (.ireturn, 1) := by decide +kernel
theorem dX6_plan_29 : decode cX6_plan 29 = .ok (.iload_n 2, 1) := by decide +kernel
theorem dX6_plan_30 : decode cX6_plan 30 = .ok (.ifCond .ne 10, 3) := by decide +kernel
theorem dX6_plan_33 : decode cX6_plan 33 = .ok (.aload_n 0, 1) := by decide +kernel
theorem dX6_plan_34 : decode cX6_plan 34 = .ok (.invokevirtual 193, 3) := by decide +kernel
theorem dX6_plan_37 : decode cX6_plan 37 = .ok (.goto 7, 3) := by decide +kernel
theorem dX6_plan_40 : decode cX6_plan 40 = .ok (.aload_n 0, 1) := by decide +kernel
theorem dX6_plan_41 : decode cX6_plan 41 = .ok (.invokevirtual 196, 3) := by decide +kernel
theorem dX6_plan_44 : decode cX6_plan 44 = .ok (.ireturn, 1) := by decide +kernel
theorem dX6_time_0 : decode cX6_time 0 = .ok (.aload_n 0, 1) := by decide +kernel
theorem dX6_time_1 : decode cX6_time 1 = .ok (.iload_n 1, 1) := by decide +kernel
theorem dX6_time_2 : decode cX6_time 2 = .ok (.iload_n 2, 1) := by decide +kernel
theorem dX6_time_3 : decode cX6_time 3 = .ok (.invokevirtual 190, 3) := by decide +kernel
theorem dX6_time_6 : decode cX6_time 6 = .ok (.ifCond .eq 12, 3) := by decide +kernel
theorem dX6_time_9 : decode cX6_time 9 = .ok (.iload_n 3, 1) := by decide +kernel
theorem dX6_time_10 : decode cX6_time 10 = .ok (.iconst 0, 1) := by decide +kernel
theorem dX6_time_11 : decode cX6_time 11 = .ok (.iconst 1, 1) := by decide +kernel
theorem dX6_time_12 : decode cX6_time 12 = .ok (.invokestatic 62, 3) := by decide +kernel
theorem dX6_time_15 : decode cX6_time 15 = .ok (.ifCond .ne 6, 3) := by decide +kernel
theorem dX6_time_18 : decode cX6_time 18 = .ok (.ldc 199, 2) := by decide +kernel
theorem dX6_time_20 : decode cX6_time 20 = .ok (.ireturn, 1) := by decide +kernel
theorem dX6_time_21 : decode cX6_time 21 = .ok (.aload_n 0, 1) := by decide +kernel
theorem dX6_time_22 : decode cX6_time 22 = .ok (.iload_n 1, 1) := by decide +kernel
theorem dX6_time_23 : decode cX6_time 23 = .ok (.invokevirtual 180, 3) := by decide +kernel
theorem dX6_time_26 : decode cX6_time 26 = .ok (.ifCond .eq 20, 3) := by decide +kernel
theorem dX6_time_29 : decode cX6_time 29 = .ok (.aload_n 0, 1) := by decide +kernel
theorem dX6_time_30 : decode cX6_time 30 = .ok (.iload_n 2, 1) := by decide +kernel
theorem dX6_time_31 : decode cX6_time 31 = .ok (.invokevirtual 187, 3) := by decide +kernel
theorem dX6_time_34 : decode cX6_time 34 = .ok (.aload_n 0, 1) := by decide +kernel
theorem dX6_time_35 : decode cX6_time 35 = .ok (.iload_n 2, 1) := by decide +kernel
theorem dX6_time_36 : decode cX6_time 36 = .ok (.invokevirtual 183, 3) := by decide +kernel
theorem dX6_time_39 : decode cX6_time 39 = .ok (.iload_n 3, 1) := by decide +kernel
theorem dX6_time_40 : decode cX6_time 40 = .ok (.invokestatic 200, 3) := by decide +kernel
theorem dX6_time_43 : decode cX6_time 43 = .ok (.goto 5, 3) := by decide +kernel
theorem dX6_time_46 : decode cX6_time 46 = .ok (.ldc 204, 2) := by decide +kernel
theorem dX6_time_48 : decode cX6_time 48 = .ok (.ireturn, 1) := by decide +kernel
theorem dX6_speed_0 : decode cX6_speed 0 = .ok (.aload_n 0, 1) := by decide +kernel
theorem dX6_speed_1 : decode cX6_speed 1 = .ok (.iload_n 1, 1) := by decide +kernel
theorem dX6_speed_2 : decode cX6_speed 2 = .ok (.iload_n 2, 1) := by decide +kernel
theorem dX6_speed_3 : decode cX6_speed 3 = .ok (.iconst 1, 1) := by decide +kernel
theorem dX6_speed_4 : decode cX6_speed 4 = .ok (.iadd, 1) := by decide +kernel
theorem dX6_speed_5 : decode cX6_speed 5 = .ok (.invokevirtual 190, 3) := by decide +kernel
theorem dX6_speed_8 : decode cX6_speed 8 = .ok (.ifCond .eq 12, 3) := by decide +kernel
theorem dX6_speed_11 : decode cX6_speed 11 = .ok (.iload_n 3, 1) := by decide +kernel
theorem dX6_speed_12 : decode cX6_speed 12 = .ok (.iconst 0, 1) := by decide +kernel
theorem dX6_speed_13 : decode cX6_speed 13 = .ok (.iconst 1, 1) := by decide +kernel
theorem dX6_speed_14 : decode cX6_speed 14 = .ok (.invokestatic 62, 3) := by decide +kernel
theorem dX6_speed_17 : decode cX6_speed 17 = .ok (.ifCond .ne 6, 3) := by decide +kernel
theorem dX6_speed_20 : decode cX6_speed 20 = .ok (.ldc 199, 2) := by decide +kernel
theorem dX6_speed_22 : decode cX6_speed 22 = .ok (.ireturn, 1) := by decide +kernel
theorem dX6_speed_23 : decode cX6_speed 23 = .ok (.aload_n 0, 1) := by decide +kernel
theorem dX6_speed_24 : decode cX6_speed 24 = .ok (.iload_n 1, 1) := by decide +kernel
theorem dX6_speed_25 : decode cX6_speed 25 = .ok (.invokevirtual 180, 3) := by decide +kernel
theorem dX6_speed_28 : decode cX6_speed 28 = .ok (.ifCond .ne 6, 3) := by decide +kernel
theorem dX6_speed_31 : decode cX6_speed 31 = .ok (.ldc 204, 2) := by decide +kernel
theorem dX6_speed_33 : decode cX6_speed 33 = .ok (.ireturn, 1) := by decide +kernel
theorem dX6_speed_34 : decode cX6_speed 34 = .ok (.aload_n 0, 1) := by decide +kernel
theorem dX6_speed_35 : decode cX6_speed 35 = .ok (.iload_n 2, 1) := by decide +kernel
theorem dX6_speed_36 : decode cX6_speed 36 = .ok (.invokevirtual 170, 3) := by decide +kernel
theorem dX6_speed_39 : decode cX6_speed 39 = .ok (.istore 4, 2) := by decide +kernel
theorem dX6_speed_41 : decode cX6_speed 41 = .ok (.aload_n 0, 1) := by decide +kernel
theorem dX6_speed_42 : decode cX6_speed 42 = .ok (.iload 4, 2) := by decide +kernel
theorem dX6_speed_44 : decode cX6_speed 44 = .ok (.invokevirtual 149, 3) := by decide +kernel
theorem dX6_speed_47 : decode cX6_speed 47 = .ok (.istore 5, 2) := by decide +kernel
theorem dX6_speed_49 : decode cX6_speed 49 = .ok (.aload_n 0, 1) := by decide +kernel
theorem dX6_speed_50 : decode cX6_speed 50 = .ok (.getfield 32, 3) := by decide +kernel
theorem dX6_speed_53 : decode cX6_speed 53 = .ok (.iload 5, 2) := by decide +kernel
theorem dX6_speed_55 : decode cX6_speed 55 = .ok (.iaload, 1) := by decide +kernel
theorem dX6_speed_56 : decode cX6_speed 56 = .ok (.aload_n 0, 1) := by decide +kernel
theorem dX6_speed_57 : decode cX6_speed 57 = .ok (.getfield 32, 3) := by decide +kernel
theorem dX6_speed_60 : decode cX6_speed 60 = .ok (.iload 4, 2) := by decide +kernel
theorem dX6_speed_62 : decode cX6_speed 62 = .ok (.iaload, 1) := by decide +kernel
theorem dX6_speed_63 : decode cX6_speed 63 = .ok (.isub, 1) := by decide +kernel
theorem dX6_speed_64 : decode cX6_speed 64 = .ok (.i2l, 1) := by decide +kernel
theorem dX6_speed_65 : decode cX6_speed 65 = .ok (.aload_n 0, 1) := by decide +kernel
theorem dX6_speed_66 : decode cX6_speed 66 = .ok (.getfield 47, 3) := by decide +kernel
theorem dX6_speed_69 : decode cX6_speed 69 = .ok (.iload 5, 2) := by decide +kernel
theorem dX6_speed_71 : decode cX6_speed 71 = .ok (.laload, 1) := by decide +kernel
theorem dX6_speed_72 : decode cX6_speed 72 = .ok (.aload_n 0, 1) := by decide +kernel
theorem dX6_speed_73 : decode cX6_speed 73 = .ok (.getfield 47, 3) := by decide +kernel
theorem dX6_speed_76 : decode cX6_speed 76 = .ok (.iload 4, 2) := by decide +kernel
theorem dX6_speed_78 : decode cX6_speed 78 = .ok (.laload, 1) := by decide +kernel
theorem dX6_speed_79 : decode cX6_speed 79 = .ok (.lsub, 1) := by decide +kernel
theorem dX6_speed_80 : decode cX6_speed 80 = .ok (.iload_n 3, 1) := by decide +kernel
theorem dX6_speed_81 : decode cX6_speed 81 = .ok (.invokestatic 200, 3) := by decide +kernel
theorem dX6_speed_84 : decode cX6_speed 84 = .ok (.ireturn, 1) := by decide +kernel
theorem dX6_closed_0 : decode cX6_closed 0 = .ok (.aload_n 0, 1) := by decide +kernel
theorem dX6_closed_1 : decode cX6_closed 1 = .ok (.iload_n 1, 1) := by decide +kernel
theorem dX6_closed_2 : decode cX6_closed 2 = .ok (.iload_n 2, 1) := by decide +kernel
end
section
theorem dX6_closed_3 : decode cX6_closed 3 = .ok (.invokevirtual 190, 3) := by decide +kernel
theorem dX6_closed_6 : decode cX6_closed 6 = .ok (.ifCond .ne 5, 3) := by decide +kernel
theorem dX6_closed_9 : decode cX6_closed 9 = .ok (.iconst (-1), 1) := by decide +kernel
theorem dX6_closed_10 : decode cX6_closed 10 = .ok (.ireturn, 1) := by decide +kernel
theorem dX6_closed_11 : decode cX6_closed 11 = .ok (.aload_n 0, 1) := by decide +kernel
theorem dX6_closed_12 : decode cX6_closed 12 = .ok (.iload_n 1, 1) := by decide +kernel
theorem dX6_closed_13 : decode cX6_closed 13 = .ok (.invokevirtual 180, 3) := by decide +kernel
theorem dX6_closed_16 : decode cX6_closed 16 = .ok (.ifCond .ne 8, 3) := by decide +kernel
theorem dX6_closed_19 : decode cX6_closed 19 = .ok (.bipush (-9), 2) := by decide +kernel
theorem dX6_closed_21 : decode cX6_closed 21 = .ok (.goto 23, 3) := by decide +kernel
theorem dX6_closed_24 : decode cX6_closed 24 = .ok (.aload_n 0, 1) := by decide +kernel
theorem dX6_closed_25 : decode cX6_closed 25 = .ok (.getfield 44, 3) := by decide +kernel
theorem dX6_closed_28 : decode cX6_closed 28 = .ok (.iload_n 2, 1) := by decide +kernel
theorem dX6_closed_29 : decode cX6_closed 29 = .ok (.iaload, 1) := by decide +kernel
theorem dX6_closed_30 : decode cX6_closed 30 = .ok (.iconst 3, 1) := by decide +kernel
theorem dX6_closed_31 : decode cX6_closed 31 = .ok (.if_icmp .ne 7, 3) := by decide +kernel
theorem dX6_closed_34 : decode cX6_closed 34 = .ok (.iconst 0, 1) := by decide +kernel
theorem dX6_closed_35 : decode cX6_closed 35 = .ok (.goto 9, 3) := by decide +kernel
theorem dX6_closed_38 : decode cX6_closed 38 = .ok (.aload_n 0, 1) := by decide +kernel
theorem dX6_closed_39 : decode cX6_closed 39 = .ok (.getfield 44, 3) := by decide +kernel
theorem dX6_closed_42 : decode cX6_closed 42 = .ok (.iload_n 2, 1) := by decide +kernel
theorem dX6_closed_43 : decode cX6_closed 43 = .ok (.iaload, 1) := by decide +kernel
theorem dX6_closed_44 : decode cX6_closed 44 = .ok (.ireturn, 1) := by decide +kernel
theorem dX6_cost_0 : decode cX6_cost 0 = .ok (.aload_n 0, 1) := by decide +kernel
theorem dX6_cost_1 : decode cX6_cost 1 = .ok (.iload_n 1, 1) := by decide +kernel
theorem dX6_cost_2 : decode cX6_cost 2 = .ok (.iload_n 2, 1) := by decide +kernel
theorem dX6_cost_3 : decode cX6_cost 3 = .ok (.iconst 1, 1) := by decide +kernel
theorem dX6_cost_4 : decode cX6_cost 4 = .ok (.iadd, 1) := by decide +kernel
theorem dX6_cost_5 : decode cX6_cost 5 = .ok (.invokevirtual 190, 3) := by decide +kernel
theorem dX6_cost_8 : decode cX6_cost 8 = .ok (.ifCond .ne 5, 3) := by decide +kernel
theorem dX6_cost_11 : decode cX6_cost 11 = .ok (.iconst (-1), 1) := by decide +kernel
theorem dX6_cost_12 : decode cX6_cost 12 = .ok (.ireturn, 1) := by decide +kernel
theorem dX6_cost_13 : decode cX6_cost 13 = .ok (.aload_n 0, 1) := by decide +kernel
theorem dX6_cost_14 : decode cX6_cost 14 = .ok (.iload_n 1, 1) := by decide +kernel
theorem dX6_cost_15 : decode cX6_cost 15 = .ok (.invokevirtual 180, 3) := by decide +kernel
theorem dX6_cost_18 : decode cX6_cost 18 = .ok (.ifCond .eq 11, 3) := by decide +kernel
theorem dX6_cost_21 : decode cX6_cost 21 = .ok (.aload_n 0, 1) := by decide +kernel
theorem dX6_cost_22 : decode cX6_cost 22 = .ok (.iload_n 2, 1) := by decide +kernel
theorem dX6_cost_23 : decode cX6_cost 23 = .ok (.invokevirtual 177, 3) := by decide +kernel
theorem dX6_cost_26 : decode cX6_cost 26 = .ok (.goto 5, 3) := by decide +kernel
theorem dX6_cost_29 : decode cX6_cost 29 = .ok (.bipush (-9), 2) := by decide +kernel
theorem dX6_cost_31 : decode cX6_cost 31 = .ok (.ireturn, 1) := by decide +kernel
theorem dX6_slack_0 : decode cX6_slack 0 = .ok (.iload_n 1, 1) := by decide +kernel
theorem dX6_slack_1 : decode cX6_slack 1 = .ok (.invokestatic 115, 3) := by decide +kernel
theorem dX6_slack_4 : decode cX6_slack 4 = .ok (.ifCond .ne 5, 3) := by decide +kernel
theorem dX6_slack_7 : decode cX6_slack 7 = .ok (.iconst (-1), 1) := by decide +kernel
theorem dX6_slack_8 : decode cX6_slack 8 = .ok (.ireturn, 1) := by decide +kernel
theorem dX6_slack_9 : decode cX6_slack 9 = .ok (.bipush 99, 2) := by decide +kernel
theorem dX6_slack_11 : decode cX6_slack 11 = .ok (.istore_n 2, 1) := by decide +kernel
theorem dX6_slack_12 : decode cX6_slack 12 = .ok (.iload_n 2, 1) := by decide +kernel
theorem dX6_slack_13 : decode cX6_slack 13 = .ok (.ifCond .lt 26, 3) := by decide +kernel
theorem dX6_slack_16 : decode cX6_slack 16 = .ok (.aload_n 0, 1) := by decide +kernel
theorem dX6_slack_17 : decode cX6_slack 17 = .ok (.iload_n 1, 1) := by decide +kernel
theorem dX6_slack_18 : decode cX6_slack 18 = .ok (.iload_n 2, 1) := by decide +kernel
theorem dX6_slack_19 : decode cX6_slack 19 = .ok (.iconst 0, 1) := by decide +kernel
theorem dX6_slack_20 : decode cX6_slack 20 = .ok (.iconst 0, 1) := by decide +kernel
theorem dX6_slack_21 : decode cX6_slack 21 = .ok (.invokevirtual 159, 3) := by decide +kernel
theorem dX6_slack_24 : decode cX6_slack 24 = .ok (.aload_n 0, 1) := by decide +kernel
theorem dX6_slack_25 : decode cX6_slack 25 = .ok (.invokevirtual 163, 3) := by decide +kernel
theorem dX6_slack_28 : decode cX6_slack 28 = .ok (.ifCond .eq 5, 3) := by decide +kernel
theorem dX6_slack_31 : decode cX6_slack 31 = .ok (.iload_n 2, 1) := by decide +kernel
theorem dX6_slack_32 : decode cX6_slack 32 = .ok (.ireturn, 1) := by decide +kernel
theorem dX6_slack_33 : decode cX6_slack 33 = .ok (.iinc 2 (-1), 3) := by decide +kernel
theorem dX6_slack_36 : decode cX6_slack 36 = .ok (.goto (-24), 3) := by decide +kernel
theorem dX6_slack_39 : decode cX6_slack 39 = .ok (.bipush (-9), 2) := by decide +kernel
theorem dX6_slack_41 : decode cX6_slack 41 = .ok (.ireturn, 1) := by decide +kernel
theorem dX6_needs_0 : decode cX6_needs 0 = .ok (.iload_n 1, 1) := by decide +kernel
theorem dX6_needs_1 : decode cX6_needs 1 = .ok (.invokestatic 115, 3) := by decide +kernel
theorem dX6_needs_4 : decode cX6_needs 4 = .ok (.ifCond .ne 5, 3) := by decide +kernel
theorem dX6_needs_7 : decode cX6_needs 7 = .ok (.iconst (-1), 1) := by decide +kernel
theorem dX6_needs_8 : decode cX6_needs 8 = .ok (.ireturn, 1) := by decide +kernel
theorem dX6_needs_9 : decode cX6_needs 9 = .ok (.aload_n 0, 1) := by decide +kernel
theorem dX6_needs_10 : decode cX6_needs 10 = .ok (.iload_n 1, 1) := by decide +kernel
theorem dX6_needs_11 : decode cX6_needs 11 = .ok (.iconst 0, 1) := by decide +kernel
theorem dX6_needs_12 : decode cX6_needs 12 = .ok (.iconst 0, 1) := by decide +kernel
theorem dX6_needs_13 : decode cX6_needs 13 = .ok (.iconst 0, 1) := by decide +kernel
theorem dX6_needs_14 : decode cX6_needs 14 = .ok (.invokevirtual 159, 3) := by decide +kernel
theorem dX6_needs_17 : decode cX6_needs 17 = .ok (.aload_n 0, 1) := by decide +kernel
theorem dX6_needs_18 : decode cX6_needs 18 = .ok (.invokevirtual 156, 3) := by decide +kernel
theorem dX6_needs_21 : decode cX6_needs 21 = .ok (.ireturn, 1) := by decide +kernel
theorem dX6_eased_0 : decode cX6_eased 0 = .ok (.iload_n 1, 1) := by decide +kernel
theorem dX6_eased_1 : decode cX6_eased 1 = .ok (.invokestatic 115, 3) := by decide +kernel
theorem dX6_eased_4 : decode cX6_eased 4 = .ok (.ifCond .ne 5, 3) := by decide +kernel
theorem dX6_eased_7 : decode cX6_eased 7 = .ok (.iconst (-1), 1) := by decide +kernel
theorem dX6_eased_8 : decode cX6_eased 8 = .ok (.ireturn, 1) := by decide +kernel
theorem dX6_eased_9 : decode cX6_eased 9 = .ok (.aload_n 0, 1) := by decide +kernel
theorem dX6_eased_10 : decode cX6_eased 10 = .ok (.iload_n 1, 1) := by decide +kernel
theorem dX6_eased_11 : decode cX6_eased 11 = .ok (.invokevirtual 180, 3) := by decide +kernel
theorem dX6_eased_14 : decode cX6_eased 14 = .ok (.istore_n 2, 1) := by decide +kernel
theorem dX6_eased_15 : decode cX6_eased 15 = .ok (.iload_n 2, 1) := by decide +kernel
theorem dX6_eased_16 : decode cX6_eased 16 = .ok (.ifCond .eq 10, 3) := by decide +kernel
theorem dX6_eased_19 : decode cX6_eased 19 = .ok (.aload_n 0, 1) := by decide +kernel
theorem dX6_eased_20 : decode cX6_eased 20 = .ok (.invokevirtual 196, 3) := by decide +kernel
theorem dX6_eased_23 : decode cX6_eased 23 = .ok (.goto 5, 3) := by decide +kernel
theorem dX6_eased_26 : decode cX6_eased 26 = .ok (.bipush (-9), 2) := by decide +kernel
theorem dX6_eased_28 : decode cX6_eased 28 = .ok (.istore_n 3, 1) := by decide +kernel
theorem dX6_eased_29 : decode cX6_eased 29 = .ok (.bipush (-9), 2) := by decide +kernel
theorem dX6_eased_31 : decode cX6_eased 31 = .ok (.istore 4, 2) := by decide +kernel
theorem dX6_eased_33 : decode cX6_eased 33 = .ok (.aload_n 0, 1) := by decide +kernel
theorem dX6_eased_34 : decode cX6_eased 34 = .ok (.iload_n 1, 1) := by decide +kernel
theorem dX6_eased_35 : decode cX6_eased 35 = .ok (.iconst 2, 1) := by decide +kernel
theorem dX6_eased_36 : decode cX6_eased 36 = .ok (.invokevirtual 70, 3) := by decide +kernel
theorem dX6_eased_39 : decode cX6_eased 39 = .ok (.iconst 1, 1) := by decide +kernel
theorem dX6_eased_40 : decode cX6_eased 40 = .ok (.iadd, 1) := by decide +kernel
theorem dX6_eased_41 : decode cX6_eased 41 = .ok (.istore 5, 2) := by decide +kernel
theorem dX6_eased_43 : decode cX6_eased 43 = .ok (.iload 5, 2) := by decide +kernel
theorem dX6_eased_45 : decode cX6_eased 45 = .ok (.aload_n 0, 1) := by decide +kernel
theorem dX6_eased_46 : decode cX6_eased 46 = .ok (.iload_n 1, 1) := by decide +kernel
theorem dX6_eased_47 : decode cX6_eased 47 = .ok (.iconst 0, 1) := by decide +kernel
theorem dX6_eased_48 : decode cX6_eased 48 = .ok (.invokevirtual 70, 3) := by decide +kernel
theorem dX6_eased_51 : decode cX6_eased 51 = .ok (.if_icmp .gt 83, 3) := by decide +kernel
theorem dX6_eased_54 : decode cX6_eased 54 = .ok (.iconst 0, 1) := by decide +kernel
theorem dX6_eased_55 : decode cX6_eased 55 = .ok (.istore 6, 2) := by decide +kernel
theorem dX6_eased_57 : decode cX6_eased 57 = .ok (.iload 6, 2) := by decide +kernel
theorem dX6_eased_59 : decode cX6_eased 59 = .ok (.iconst 2, 1) := by decide +kernel
theorem dX6_eased_60 : decode cX6_eased 60 = .ok (.if_icmp .ge 68, 3) := by decide +kernel
theorem dX6_eased_63 : decode cX6_eased 63 = .ok (.aload_n 0, 1) := by decide +kernel
theorem dX6_eased_64 : decode cX6_eased 64 = .ok (.iload_n 1, 1) := by decide +kernel
theorem dX6_eased_65 : decode cX6_eased 65 = .ok (.iconst 0, 1) := by decide +kernel
theorem dX6_eased_66 : decode cX6_eased 66 = .ok (.iload 5, 2) := by decide +kernel
theorem dX6_eased_68 : decode cX6_eased 68 = .ok (.iload 6, 2) := by decide +kernel
theorem dX6_eased_70 : decode cX6_eased 70 = .ok (.invokevirtual 159, 3) := by decide +kernel
theorem dX6_eased_73 : decode cX6_eased 73 = .ok (.aload_n 0, 1) := by decide +kernel
theorem dX6_eased_74 : decode cX6_eased 74 = .ok (.invokevirtual 163, 3) := by decide +kernel
theorem dX6_eased_77 : decode cX6_eased 77 = .ok (.ifCond .eq 10, 3) := by decide +kernel
theorem dX6_eased_80 : decode cX6_eased 80 = .ok (.aload_n 0, 1) := by decide +kernel
theorem dX6_eased_81 : decode cX6_eased 81 = .ok (.invokevirtual 196, 3) := by decide +kernel
theorem dX6_eased_84 : decode cX6_eased 84 = .ok (.goto 5, 3) := by decide +kernel
theorem dX6_eased_87 : decode cX6_eased 87 = .ok (.bipush (-9), 2) := by decide +kernel
theorem dX6_eased_89 : decode cX6_eased 89 = .ok (.istore 7, 2) := by decide +kernel
theorem dX6_eased_91 : decode cX6_eased 91 = .ok (.iload 7, 2) := by decide +kernel
theorem dX6_eased_93 : decode cX6_eased 93 = .ok (.bipush (-9), 2) := by decide +kernel
theorem dX6_eased_95 : decode cX6_eased 95 = .ok (.if_icmp .eq 27, 3) := by decide +kernel
theorem dX6_eased_98 : decode cX6_eased 98 = .ok (.iload_n 3, 1) := by decide +kernel
theorem dX6_eased_99 : decode cX6_eased 99 = .ok (.bipush (-9), 2) := by decide +kernel
theorem dX6_eased_101 : decode cX6_eased 101 = .ok (.if_icmp .eq 9, 3) := by decide +kernel
theorem dX6_eased_104 : decode cX6_eased 104 = .ok (.iload 7, 2) := by decide +kernel
theorem dX6_eased_106 : decode cX6_eased 106 = .ok (.iload_n 3, 1) := by decide +kernel
theorem dX6_eased_107 : decode cX6_eased 107 = .ok (.if_icmp .ge 15, 3) := by decide +kernel
theorem dX6_eased_110 : decode cX6_eased 110 = .ok (.iload 7, 2) := by decide +kernel
theorem dX6_eased_112 : decode cX6_eased 112 = .ok (.istore_n 3, 1) := by decide +kernel
theorem dX6_eased_113 : decode cX6_eased 113 = .ok (.iconst 2, 1) := by decide +kernel
theorem dX6_eased_114 : decode cX6_eased 114 = .ok (.iload 5, 2) := by decide +kernel
theorem dX6_eased_116 : decode cX6_eased 116 = .ok (.imul, 1) := by decide +kernel
theorem dX6_eased_117 : decode cX6_eased 117 = .ok (.iload 6, 2) := by decide +kernel
theorem dX6_eased_119 : decode cX6_eased 119 = .ok (.iadd, 1) := by decide +kernel
theorem dX6_eased_120 : decode cX6_eased 120 = .ok (.istore 4, 2) := by decide +kernel
theorem dX6_eased_122 : decode cX6_eased 122 = .ok (.iinc 6 1, 3) := by decide +kernel
theorem dX6_eased_125 : decode cX6_eased 125 = .ok (.goto (-68), 3) := by decide +kernel
theorem dX6_eased_128 : decode cX6_eased 128 = .ok (.iinc 5 1, 3) := by decide +kernel
theorem dX6_eased_131 : decode cX6_eased 131 = .ok (.goto (-88), 3) := by decide +kernel
theorem dX6_eased_134 : decode cX6_eased 134 = .ok (.iload 4, 2) := by decide +kernel
theorem dX6_eased_136 : decode cX6_eased 136 = .ok (.ireturn, 1) := by decide +kernel
theorem dX6_mileAt_0 : decode cX6_mileAt 0 = .ok (.aload_n 0, 1) := by decide +kernel
theorem dX6_mileAt_1 : decode cX6_mileAt 1 = .ok (.getfield 129, 3) := by decide +kernel
theorem dX6_mileAt_4 : decode cX6_mileAt 4 = .ok (.istore_n 2, 1) := by decide +kernel
theorem dX6_mileAt_5 : decode cX6_mileAt 5 = .ok (.iload_n 2, 1) := by decide +kernel
theorem dX6_mileAt_6 : decode cX6_mileAt 6 = .ok (.aload_n 0, 1) := by decide +kernel
theorem dX6_mileAt_7 : decode cX6_mileAt 7 = .ok (.getfield 132, 3) := by decide +kernel
theorem dX6_mileAt_10 : decode cX6_mileAt 10 = .ok (.if_icmp .ge 127, 3) := by decide +kernel
theorem dX6_mileAt_13 : decode cX6_mileAt 13 = .ok (.aload_n 0, 1) := by decide +kernel
theorem dX6_mileAt_14 : decode cX6_mileAt 14 = .ok (.iload_n 2, 1) := by decide +kernel
theorem dX6_mileAt_15 : decode cX6_mileAt 15 = .ok (.invokevirtual 170, 3) := by decide +kernel
theorem dX6_mileAt_18 : decode cX6_mileAt 18 = .ok (.istore_n 3, 1) := by decide +kernel
theorem dX6_mileAt_19 : decode cX6_mileAt 19 = .ok (.aload_n 0, 1) := by decide +kernel
theorem dX6_mileAt_20 : decode cX6_mileAt 20 = .ok (.iload_n 3, 1) := by decide +kernel
theorem dX6_mileAt_21 : decode cX6_mileAt 21 = .ok (.invokevirtual 149, 3) := by decide +kernel
theorem dX6_mileAt_24 : decode cX6_mileAt 24 = .ok (.istore 4, 2) := by decide +kernel
theorem dX6_mileAt_26 : decode cX6_mileAt 26 = .ok (.aload_n 0, 1) := by decide +kernel
theorem dX6_mileAt_27 : decode cX6_mileAt 27 = .ok (.getfield 32, 3) := by decide +kernel
theorem dX6_mileAt_30 : decode cX6_mileAt 30 = .ok (.iload 4, 2) := by decide +kernel
theorem dX6_mileAt_32 : decode cX6_mileAt 32 = .ok (.iaload, 1) := by decide +kernel
theorem dX6_mileAt_33 : decode cX6_mileAt 33 = .ok (.aload_n 0, 1) := by decide +kernel
theorem dX6_mileAt_34 : decode cX6_mileAt 34 = .ok (.getfield 32, 3) := by decide +kernel
theorem dX6_mileAt_37 : decode cX6_mileAt 37 = .ok (.iload_n 3, 1) := by decide +kernel
theorem dX6_mileAt_38 : decode cX6_mileAt 38 = .ok (.iaload, 1) := by decide +kernel
theorem dX6_mileAt_39 : decode cX6_mileAt 39 = .ok (.isub, 1) := by decide +kernel
theorem dX6_mileAt_40 : decode cX6_mileAt 40 = .ok (.i2l, 1) := by decide +kernel
theorem dX6_mileAt_41 : decode cX6_mileAt 41 = .ok (.lstore 5, 2) := by decide +kernel
theorem dX6_mileAt_43 : decode cX6_mileAt 43 = .ok (.iload_n 1, 1) := by decide +kernel
theorem dX6_mileAt_44 : decode cX6_mileAt 44 = .ok (.aload_n 0, 1) := by decide +kernel
theorem dX6_mileAt_45 : decode cX6_mileAt 45 = .ok (.getfield 35, 3) := by decide +kernel
theorem dX6_mileAt_48 : decode cX6_mileAt 48 = .ok (.iload_n 2, 1) := by decide +kernel
theorem dX6_mileAt_49 : decode cX6_mileAt 49 = .ok (.iconst 1, 1) := by decide +kernel
theorem dX6_mileAt_50 : decode cX6_mileAt 50 = .ok (.iadd, 1) := by decide +kernel
theorem dX6_mileAt_51 : decode cX6_mileAt 51 = .ok (.iaload, 1) := by decide +kernel
theorem dX6_mileAt_52 : decode cX6_mileAt 52 = .ok (.isub, 1) := by decide +kernel
theorem dX6_mileAt_53 : decode cX6_mileAt 53 = .ok (.i2l, 1) := by decide +kernel
theorem dX6_mileAt_54 : decode cX6_mileAt 54 = .ok (.lload 5, 2) := by decide +kernel
theorem dX6_mileAt_56 : decode cX6_mileAt 56 = .ok (.lmul, 1) := by decide +kernel
theorem dX6_mileAt_57 : decode cX6_mileAt 57 = .ok (.lstore 7, 2) := by decide +kernel
theorem dX6_mileAt_59 : decode cX6_mileAt 59 = .ok (.lload 7, 2) := by decide +kernel
theorem dX6_mileAt_61 : decode cX6_mileAt 61 = .ok (.aload_n 0, 1) := by decide +kernel
theorem dX6_mileAt_62 : decode cX6_mileAt 62 = .ok (.iload_n 3, 1) := by decide +kernel
theorem dX6_mileAt_63 : decode cX6_mileAt 63 = .ok (.iload 4, 2) := by decide +kernel
theorem dX6_mileAt_65 : decode cX6_mileAt 65 = .ok (.iload_n 2, 1) := by decide +kernel
theorem dX6_mileAt_66 : decode cX6_mileAt 66 = .ok (.invokevirtual 142, 3) := by decide +kernel
theorem dX6_mileAt_69 : decode cX6_mileAt 69 = .ok (.lcmp, 1) := by decide +kernel
theorem dX6_mileAt_70 : decode cX6_mileAt 70 = .ok (.ifCond .gt 10, 3) := by decide +kernel
theorem dX6_mileAt_73 : decode cX6_mileAt 73 = .ok (.aload_n 0, 1) := by decide +kernel
theorem dX6_mileAt_74 : decode cX6_mileAt 74 = .ok (.getfield 32, 3) := by decide +kernel
theorem dX6_mileAt_77 : decode cX6_mileAt 77 = .ok (.iload_n 2, 1) := by decide +kernel
theorem dX6_mileAt_78 : decode cX6_mileAt 78 = .ok (.iaload, 1) := by decide +kernel
theorem dX6_mileAt_79 : decode cX6_mileAt 79 = .ok (.ireturn, 1) := by decide +kernel
theorem dX6_mileAt_80 : decode cX6_mileAt 80 = .ok (.lload 7, 2) := by decide +kernel
theorem dX6_mileAt_82 : decode cX6_mileAt 82 = .ok (.aload_n 0, 1) := by decide +kernel
theorem dX6_mileAt_83 : decode cX6_mileAt 83 = .ok (.iload_n 3, 1) := by decide +kernel
theorem dX6_mileAt_84 : decode cX6_mileAt 84 = .ok (.iload 4, 2) := by decide +kernel
theorem dX6_mileAt_86 : decode cX6_mileAt 86 = .ok (.iload_n 2, 1) := by decide +kernel
theorem dX6_mileAt_87 : decode cX6_mileAt 87 = .ok (.iconst 1, 1) := by decide +kernel
theorem dX6_mileAt_88 : decode cX6_mileAt 88 = .ok (.iadd, 1) := by decide +kernel
theorem dX6_mileAt_89 : decode cX6_mileAt 89 = .ok (.invokevirtual 142, 3) := by decide +kernel
theorem dX6_mileAt_92 : decode cX6_mileAt 92 = .ok (.lcmp, 1) := by decide +kernel
theorem dX6_mileAt_93 : decode cX6_mileAt 93 = .ok (.ifCond .gt 38, 3) := by decide +kernel
theorem dX6_mileAt_96 : decode cX6_mileAt 96 = .ok (.aload_n 0, 1) := by decide +kernel
theorem dX6_mileAt_97 : decode cX6_mileAt 97 = .ok (.getfield 32, 3) := by decide +kernel
theorem dX6_mileAt_100 : decode cX6_mileAt 100 = .ok (.iload_n 2, 1) := by decide +kernel
theorem dX6_mileAt_101 : decode cX6_mileAt 101 = .ok (.iaload, 1) := by decide +kernel
theorem dX6_mileAt_102 : decode cX6_mileAt 102 = .ok (.lload 7, 2) := by decide +kernel
theorem dX6_mileAt_104 : decode cX6_mileAt 104 = .ok (.aload_n 0, 1) := by decide +kernel
theorem dX6_mileAt_105 : decode cX6_mileAt 105 = .ok (.iload_n 3, 1) := by decide +kernel
theorem dX6_mileAt_106 : decode cX6_mileAt 106 = .ok (.iload 4, 2) := by decide +kernel
theorem dX6_mileAt_108 : decode cX6_mileAt 108 = .ok (.iload_n 2, 1) := by decide +kernel
theorem dX6_mileAt_109 : decode cX6_mileAt 109 = .ok (.invokevirtual 142, 3) := by decide +kernel
theorem dX6_mileAt_112 : decode cX6_mileAt 112 = .ok (.lsub, 1) := by decide +kernel
theorem dX6_mileAt_113 : decode cX6_mileAt 113 = .ok (.aload_n 0, 1) := by decide +kernel
theorem dX6_mileAt_114 : decode cX6_mileAt 114 = .ok (.getfield 47, 3) := by decide +kernel
theorem dX6_mileAt_117 : decode cX6_mileAt 117 = .ok (.iload 4, 2) := by decide +kernel
theorem dX6_mileAt_119 : decode cX6_mileAt 119 = .ok (.laload, 1) := by decide +kernel
theorem dX6_mileAt_120 : decode cX6_mileAt 120 = .ok (.aload_n 0, 1) := by decide +kernel
theorem dX6_mileAt_121 : decode cX6_mileAt 121 = .ok (.getfield 47, 3) := by decide +kernel
theorem dX6_mileAt_124 : decode cX6_mileAt 124 = .ok (.iload_n 3, 1) := by decide +kernel
theorem dX6_mileAt_125 : decode cX6_mileAt 125 = .ok (.laload, 1) := by decide +kernel
theorem dX6_mileAt_126 : decode cX6_mileAt 126 = .ok (.lsub, 1) := by decide +kernel
theorem dX6_mileAt_127 : decode cX6_mileAt 127 = .ok (.ldiv, 1) := by decide +kernel
theorem dX6_mileAt_128 : decode cX6_mileAt 128 = .ok (.l2i, 1) := by decide +kernel
theorem dX6_mileAt_129 : decode cX6_mileAt 129 = .ok (.iadd, 1) := by decide +kernel
theorem dX6_mileAt_130 : decode cX6_mileAt 130 = .ok (.ireturn, 1) := by decide +kernel
theorem dX6_mileAt_131 : decode cX6_mileAt 131 = .ok (.iinc 2 1, 3) := by decide +kernel
theorem dX6_mileAt_134 : decode cX6_mileAt 134 = .ok (.goto (-129), 3) := by decide +kernel
theorem dX6_mileAt_137 : decode cX6_mileAt 137 = .ok (.aload_n 0, 1) := by decide +kernel
theorem dX6_mileAt_138 : decode cX6_mileAt 138 = .ok (.getfield 32, 3) := by decide +kernel
theorem dX6_mileAt_141 : decode cX6_mileAt 141 = .ok (.aload_n 0, 1) := by decide +kernel
theorem dX6_mileAt_142 : decode cX6_mileAt 142 = .ok (.getfield 132, 3) := by decide +kernel
theorem dX6_mileAt_145 : decode cX6_mileAt 145 = .ok (.iaload, 1) := by decide +kernel
theorem dX6_mileAt_146 : decode cX6_mileAt 146 = .ok (.ireturn, 1) := by decide +kernel
theorem dX6_mileOf_0 : decode cX6_mileOf 0 = .ok (.aload_n 0, 1) := by decide +kernel
theorem dX6_mileOf_1 : decode cX6_mileOf 1 = .ok (.iload_n 1, 1) := by decide +kernel
theorem dX6_mileOf_2 : decode cX6_mileOf 2 = .ok (.invokevirtual 180, 3) := by decide +kernel
theorem dX6_mileOf_5 : decode cX6_mileOf 5 = .ok (.ifCond .eq 11, 3) := by decide +kernel
theorem dX6_mileOf_8 : decode cX6_mileOf 8 = .ok (.aload_n 0, 1) := by decide +kernel
theorem dX6_mileOf_9 : decode cX6_mileOf 9 = .ok (.iload_n 2, 1) := by decide +kernel
theorem dX6_mileOf_10 : decode cX6_mileOf 10 = .ok (.invokevirtual 205, 3) := by decide +kernel
theorem dX6_mileOf_13 : decode cX6_mileOf 13 = .ok (.goto 5, 3) := by decide +kernel
theorem dX6_mileOf_16 : decode cX6_mileOf 16 = .ok (.bipush (-9), 2) := by decide +kernel
theorem dX6_mileOf_18 : decode cX6_mileOf 18 = .ok (.ireturn, 1) := by decide +kernel
theorem dX6_mile_0 : decode cX6_mile 0 = .ok (.iload_n 1, 1) := by decide +kernel
theorem dX6_mile_1 : decode cX6_mile 1 = .ok (.invokestatic 115, 3) := by decide +kernel
theorem dX6_mile_4 : decode cX6_mile 4 = .ok (.ifCond .eq 23, 3) := by decide +kernel
theorem dX6_mile_7 : decode cX6_mile 7 = .ok (.iload_n 2, 1) := by decide +kernel
theorem dX6_mile_8 : decode cX6_mile 8 = .ok (.iconst 0, 1) := by decide +kernel
theorem dX6_mile_9 : decode cX6_mile 9 = .ok (.sipush 999, 3) := by decide +kernel
theorem dX6_mile_12 : decode cX6_mile 12 = .ok (.invokestatic 62, 3) := by decide +kernel
theorem dX6_mile_15 : decode cX6_mile 15 = .ok (.ifCond .eq 12, 3) := by decide +kernel
theorem dX6_mile_18 : decode cX6_mile 18 = .ok (.aload_n 0, 1) := by decide +kernel
theorem dX6_mile_19 : decode cX6_mile 19 = .ok (.iload_n 1, 1) := by decide +kernel
theorem dX6_mile_20 : decode cX6_mile 20 = .ok (.iload_n 2, 1) := by decide +kernel
theorem dX6_mile_21 : decode cX6_mile 21 = .ok (.invokevirtual 208, 3) := by decide +kernel
theorem dX6_mile_24 : decode cX6_mile 24 = .ok (.goto 4, 3) := by decide +kernel
theorem dX6_mile_27 : decode cX6_mile 27 = .ok (.iconst (-1), 1) := by decide +kernel
theorem dX6_mile_28 : decode cX6_mile 28 = .ok (.ireturn, 1) := by decide +kernel
theorem dX6_sees_0 : decode cX6_sees 0 = .ok (.iload_n 1, 1) := by decide +kernel
theorem dX6_sees_1 : decode cX6_sees 1 = .ok (.iconst 0, 1) := by decide +kernel
theorem dX6_sees_2 : decode cX6_sees 2 = .ok (.sipush 999, 3) := by decide +kernel
theorem dX6_sees_5 : decode cX6_sees 5 = .ok (.invokestatic 62, 3) := by decide +kernel
theorem dX6_sees_8 : decode cX6_sees 8 = .ok (.ifCond .eq 14, 3) := by decide +kernel
theorem dX6_sees_11 : decode cX6_sees 11 = .ok (.iload_n 2, 1) := by decide +kernel
theorem dX6_sees_12 : decode cX6_sees 12 = .ok (.iconst 0, 1) := by decide +kernel
theorem dX6_sees_13 : decode cX6_sees 13 = .ok (.sipush 999, 3) := by decide +kernel
theorem dX6_sees_16 : decode cX6_sees 16 = .ok (.invokestatic 62, 3) := by decide +kernel
theorem dX6_sees_19 : decode cX6_sees 19 = .ok (.ifCond .ne 5, 3) := by decide +kernel
theorem dX6_sees_22 : decode cX6_sees 22 = .ok (.iconst (-1), 1) := by decide +kernel
theorem dX6_sees_23 : decode cX6_sees 23 = .ok (.ireturn, 1) := by decide +kernel
theorem dX6_sees_24 : decode cX6_sees 24 = .ok (.aload_n 0, 1) := by decide +kernel
theorem dX6_sees_25 : decode cX6_sees 25 = .ok (.getfield 211, 3) := by decide +kernel
theorem dX6_sees_28 : decode cX6_sees 28 = .ok (.bipush 6, 2) := by decide +kernel
theorem dX6_sees_30 : decode cX6_sees 30 = .ok (.if_icmp .ne 6, 3) := by decide +kernel
theorem dX6_sees_33 : decode cX6_sees 33 = .ok (.bipush (-3), 2) := by decide +kernel
theorem dX6_sees_35 : decode cX6_sees 35 = .ok (.ireturn, 1) := by decide +kernel
theorem dX6_sees_36 : decode cX6_sees 36 = .ok (.aload_n 0, 1) := by decide +kernel
theorem dX6_sees_37 : decode cX6_sees 37 = .ok (.getfield 26, 3) := by decide +kernel
theorem dX6_sees_40 : decode cX6_sees 40 = .ok (.iconst 2, 1) := by decide +kernel
theorem dX6_sees_41 : decode cX6_sees 41 = .ok (.aload_n 0, 1) := by decide +kernel
theorem dX6_sees_42 : decode cX6_sees 42 = .ok (.getfield 211, 3) := by decide +kernel
theorem dX6_sees_45 : decode cX6_sees 45 = .ok (.imul, 1) := by decide +kernel
theorem dX6_sees_46 : decode cX6_sees 46 = .ok (.iload_n 1, 1) := by decide +kernel
theorem dX6_sees_47 : decode cX6_sees 47 = .ok (.iastore, 1) := by decide +kernel
theorem dX6_sees_48 : decode cX6_sees 48 = .ok (.aload_n 0, 1) := by decide +kernel
theorem dX6_sees_49 : decode cX6_sees 49 = .ok (.getfield 26, 3) := by decide +kernel
theorem dX6_sees_52 : decode cX6_sees 52 = .ok (.iconst 2, 1) := by decide +kernel
theorem dX6_sees_53 : decode cX6_sees 53 = .ok (.aload_n 0, 1) := by decide +kernel
theorem dX6_sees_54 : decode cX6_sees 54 = .ok (.getfield 211, 3) := by decide +kernel
theorem dX6_sees_57 : decode cX6_sees 57 = .ok (.imul, 1) := by decide +kernel
theorem dX6_sees_58 : decode cX6_sees 58 = .ok (.iconst 1, 1) := by decide +kernel
theorem dX6_sees_59 : decode cX6_sees 59 = .ok (.iadd, 1) := by decide +kernel
theorem dX6_sees_60 : decode cX6_sees 60 = .ok (.iload_n 2, 1) := by decide +kernel
theorem dX6_sees_61 : decode cX6_sees 61 = .ok (.iastore, 1) := by decide +kernel
theorem dX6_sees_62 : decode cX6_sees 62 = .ok (.aload_n 0, 1) := by decide +kernel
theorem dX6_sees_63 : decode cX6_sees 63 = .ok (.dup, 1) := by decide +kernel
theorem dX6_sees_64 : decode cX6_sees 64 = .ok (.getfield 211, 3) := by decide +kernel
theorem dX6_sees_67 : decode cX6_sees 67 = .ok (.iconst 1, 1) := by decide +kernel
theorem dX6_sees_68 : decode cX6_sees 68 = .ok (.iadd, 1) := by decide +kernel
theorem dX6_sees_69 : decode cX6_sees 69 = .ok (.putfield 211, 3) := by decide +kernel
theorem dX6_sees_72 : decode cX6_sees 72 = .ok (.aload_n 0, 1) := by decide +kernel
theorem dX6_sees_73 : decode cX6_sees 73 = .ok (.getfield 211, 3) := by decide +kernel
theorem dX6_sees_76 : decode cX6_sees 76 = .ok (.ireturn, 1) := by decide +kernel
theorem dX6_forget_0 : decode cX6_forget 0 = .ok (.aload_n 0, 1) := by decide +kernel
theorem dX6_forget_1 : decode cX6_forget 1 = .ok (.getfield 211, 3) := by decide +kernel
theorem dX6_forget_4 : decode cX6_forget 4 = .ok (.istore_n 1, 1) := by decide +kernel
theorem dX6_forget_5 : decode cX6_forget 5 = .ok (.aload_n 0, 1) := by decide +kernel
theorem dX6_forget_6 : decode cX6_forget 6 = .ok (.iconst 0, 1) := by decide +kernel
theorem dX6_forget_7 : decode cX6_forget 7 = .ok (.putfield 211, 3) := by decide +kernel
theorem dX6_forget_10 : decode cX6_forget 10 = .ok (.iload_n 1, 1) := by decide +kernel
theorem dX6_forget_11 : decode cX6_forget 11 = .ok (.ireturn, 1) := by decide +kernel
theorem dX6_whichNow_0 : decode cX6_whichNow 0 = .ok (.iconst 0, 1) := by decide +kernel
theorem dX6_whichNow_1 : decode cX6_whichNow 1 = .ok (.istore_n 1, 1) := by decide +kernel
theorem dX6_whichNow_2 : decode cX6_whichNow 2 = .ok (.iconst 0, 1) := by decide +kernel
theorem dX6_whichNow_3 : decode cX6_whichNow 3 = .ok (.istore_n 2, 1) := by decide +kernel
theorem dX6_whichNow_4 : decode cX6_whichNow 4 = .ok (.iload_n 2, 1) := by decide +kernel
theorem dX6_whichNow_5 : decode cX6_whichNow 5 = .ok (.iconst 4, 1) := by decide +kernel
theorem dX6_whichNow_6 : decode cX6_whichNow 6 = .ok (.if_icmp .ge 81, 3) := by decide +kernel
theorem dX6_whichNow_9 : decode cX6_whichNow 9 = .ok (.iconst 1, 1) := by decide +kernel
theorem dX6_whichNow_10 : decode cX6_whichNow 10 = .ok (.istore_n 3, 1) := by decide +kernel
theorem dX6_whichNow_11 : decode cX6_whichNow 11 = .ok (.iconst 0, 1) := by decide +kernel
theorem dX6_whichNow_12 : decode cX6_whichNow 12 = .ok (.istore 4, 2) := by decide +kernel
theorem dX6_whichNow_14 : decode cX6_whichNow 14 = .ok (.iload 4, 2) := by decide +kernel
theorem dX6_whichNow_16 : decode cX6_whichNow 16 = .ok (.aload_n 0, 1) := by decide +kernel
theorem dX6_whichNow_17 : decode cX6_whichNow 17 = .ok (.getfield 211, 3) := by decide +kernel
theorem dX6_whichNow_20 : decode cX6_whichNow 20 = .ok (.if_icmp .ge 47, 3) := by decide +kernel
theorem dX6_whichNow_23 : decode cX6_whichNow 23 = .ok (.iload_n 3, 1) := by decide +kernel
theorem dX6_whichNow_24 : decode cX6_whichNow 24 = .ok (.ifCond .eq 43, 3) := by decide +kernel
theorem dX6_whichNow_27 : decode cX6_whichNow 27 = .ok (.aload_n 0, 1) := by decide +kernel
theorem dX6_whichNow_28 : decode cX6_whichNow 28 = .ok (.iload_n 2, 1) := by decide +kernel
theorem dX6_whichNow_29 : decode cX6_whichNow 29 = .ok (.aload_n 0, 1) := by decide +kernel
theorem dX6_whichNow_30 : decode cX6_whichNow 30 = .ok (.getfield 26, 3) := by decide +kernel
theorem dX6_whichNow_33 : decode cX6_whichNow 33 = .ok (.iconst 2, 1) := by decide +kernel
theorem dX6_whichNow_34 : decode cX6_whichNow 34 = .ok (.iload 4, 2) := by decide +kernel
theorem dX6_whichNow_36 : decode cX6_whichNow 36 = .ok (.imul, 1) := by decide +kernel
theorem dX6_whichNow_37 : decode cX6_whichNow 37 = .ok (.iaload, 1) := by decide +kernel
theorem dX6_whichNow_38 : decode cX6_whichNow 38 = .ok (.invokevirtual 208, 3) := by decide +kernel
theorem dX6_whichNow_41 : decode cX6_whichNow 41 = .ok (.aload_n 0, 1) := by decide +kernel
theorem dX6_whichNow_42 : decode cX6_whichNow 42 = .ok (.getfield 26, 3) := by decide +kernel
theorem dX6_whichNow_45 : decode cX6_whichNow 45 = .ok (.iconst 2, 1) := by decide +kernel
theorem dX6_whichNow_46 : decode cX6_whichNow 46 = .ok (.iload 4, 2) := by decide +kernel
theorem dX6_whichNow_48 : decode cX6_whichNow 48 = .ok (.imul, 1) := by decide +kernel
theorem dX6_whichNow_49 : decode cX6_whichNow 49 = .ok (.iconst 1, 1) := by decide +kernel
theorem dX6_whichNow_50 : decode cX6_whichNow 50 = .ok (.iadd, 1) := by decide +kernel
theorem dX6_whichNow_51 : decode cX6_whichNow 51 = .ok (.iaload, 1) := by decide +kernel
theorem dX6_whichNow_52 : decode cX6_whichNow 52 = .ok (.if_icmp .ne 7, 3) := by decide +kernel
theorem dX6_whichNow_55 : decode cX6_whichNow 55 = .ok (.iconst 1, 1) := by decide +kernel
theorem dX6_whichNow_56 : decode cX6_whichNow 56 = .ok (.goto 4, 3) := by decide +kernel
theorem dX6_whichNow_59 : decode cX6_whichNow 59 = .ok (.iconst 0, 1) := by decide +kernel
theorem dX6_whichNow_60 : decode cX6_whichNow 60 = .ok (.istore_n 3, 1) := by decide +kernel
theorem dX6_whichNow_61 : decode cX6_whichNow 61 = .ok (.iinc 4 1, 3) := by decide +kernel
theorem dX6_whichNow_64 : decode cX6_whichNow 64 = .ok (.goto (-50), 3) := by decide +kernel
theorem dX6_whichNow_67 : decode cX6_whichNow 67 = .ok (.iload_n 1, 1) := by decide +kernel
theorem dX6_whichNow_68 : decode cX6_whichNow 68 = .ok (.iload_n 3, 1) := by decide +kernel
theorem dX6_whichNow_69 : decode cX6_whichNow 69 = .ok (.ifCond .eq 9, 3) := by decide +kernel
theorem dX6_whichNow_72 : decode cX6_whichNow 72 = .ok (.iconst 1, 1) := by decide +kernel
theorem dX6_whichNow_73 : decode cX6_whichNow 73 = .ok (.iload_n 2, 1) := by decide +kernel
theorem dX6_whichNow_74 : decode cX6_whichNow 74 = .ok (.ishl, 1) := by decide +kernel
theorem dX6_whichNow_75 : decode cX6_whichNow 75 = .ok (.goto 4, 3) := by decide +kernel
theorem dX6_whichNow_78 : decode cX6_whichNow 78 = .ok (.iconst 0, 1) := by decide +kernel
theorem dX6_whichNow_79 : decode cX6_whichNow 79 = .ok (.ior, 1) := by decide +kernel
theorem dX6_whichNow_80 : decode cX6_whichNow 80 = .ok (.istore_n 1, 1) := by decide +kernel
theorem dX6_whichNow_81 : decode cX6_whichNow 81 = .ok (.iinc 2 1, 3) := by decide +kernel
theorem dX6_whichNow_84 : decode cX6_whichNow 84 = .ok (.goto (-80), 3) := by decide +kernel
theorem dX6_whichNow_87 : decode cX6_whichNow 87 = .ok (.iload_n 1, 1) := by decide +kernel
theorem dX6_whichNow_88 : decode cX6_whichNow 88 = .ok (.ireturn, 1) := by decide +kernel
theorem dX6_which_0 : decode cX6_which 0 = .ok (.aload_n 0, 1) := by decide +kernel
theorem dX6_which_1 : decode cX6_which 1 = .ok (.invokevirtual 214, 3) := by decide +kernel
theorem dX6_which_4 : decode cX6_which 4 = .ok (.ireturn, 1) := by decide +kernel
theorem dX6_alikeAt_0 : decode cX6_alikeAt 0 = .ok (.iconst 0, 1) := by decide +kernel
theorem dX6_alikeAt_1 : decode cX6_alikeAt 1 = .ok (.istore_n 3, 1) := by decide +kernel
theorem dX6_alikeAt_2 : decode cX6_alikeAt 2 = .ok (.iconst 0, 1) := by decide +kernel
theorem dX6_alikeAt_3 : decode cX6_alikeAt 3 = .ok (.istore 4, 2) := by decide +kernel
theorem dX6_alikeAt_5 : decode cX6_alikeAt 5 = .ok (.iload 4, 2) := by decide +kernel
theorem dX6_alikeAt_7 : decode cX6_alikeAt 7 = .ok (.iconst 4, 1) := by decide +kernel
theorem dX6_alikeAt_8 : decode cX6_alikeAt 8 = .ok (.if_icmp .ge 23, 3) := by decide +kernel
theorem dX6_alikeAt_11 : decode cX6_alikeAt 11 = .ok (.aload_n 0, 1) := by decide +kernel
theorem dX6_alikeAt_12 : decode cX6_alikeAt 12 = .ok (.getfield 51, 3) := by decide +kernel
theorem dX6_alikeAt_15 : decode cX6_alikeAt 15 = .ok (.iload 4, 2) := by decide +kernel
theorem dX6_alikeAt_17 : decode cX6_alikeAt 17 = .ok (.aload_n 0, 1) := by decide +kernel
theorem dX6_alikeAt_18 : decode cX6_alikeAt 18 = .ok (.iload 4, 2) := by decide +kernel
theorem dX6_alikeAt_20 : decode cX6_alikeAt 20 = .ok (.iload_n 2, 1) := by decide +kernel
theorem dX6_alikeAt_21 : decode cX6_alikeAt 21 = .ok (.invokevirtual 208, 3) := by decide +kernel
theorem dX6_alikeAt_24 : decode cX6_alikeAt 24 = .ok (.iastore, 1) := by decide +kernel
theorem dX6_alikeAt_25 : decode cX6_alikeAt 25 = .ok (.iinc 4 1, 3) := by decide +kernel
theorem dX6_alikeAt_28 : decode cX6_alikeAt 28 = .ok (.goto (-23), 3) := by decide +kernel
theorem dX6_alikeAt_31 : decode cX6_alikeAt 31 = .ok (.iconst 0, 1) := by decide +kernel
theorem dX6_alikeAt_32 : decode cX6_alikeAt 32 = .ok (.istore 4, 2) := by decide +kernel
theorem dX6_alikeAt_34 : decode cX6_alikeAt 34 = .ok (.iload 4, 2) := by decide +kernel
theorem dX6_alikeAt_36 : decode cX6_alikeAt 36 = .ok (.iconst 4, 1) := by decide +kernel
theorem dX6_alikeAt_37 : decode cX6_alikeAt 37 = .ok (.if_icmp .ge 82, 3) := by decide +kernel
theorem dX6_alikeAt_40 : decode cX6_alikeAt 40 = .ok (.iconst 0, 1) := by decide +kernel
theorem dX6_alikeAt_41 : decode cX6_alikeAt 41 = .ok (.istore 5, 2) := by decide +kernel
theorem dX6_alikeAt_43 : decode cX6_alikeAt 43 = .ok (.iconst 0, 1) := by decide +kernel
theorem dX6_alikeAt_44 : decode cX6_alikeAt 44 = .ok (.istore 6, 2) := by decide +kernel
theorem dX6_alikeAt_46 : decode cX6_alikeAt 46 = .ok (.iload 6, 2) := by decide +kernel
theorem dX6_alikeAt_48 : decode cX6_alikeAt 48 = .ok (.iconst 4, 1) := by decide +kernel
theorem dX6_alikeAt_49 : decode cX6_alikeAt 49 = .ok (.if_icmp .ge 51, 3) := by decide +kernel
theorem dX6_alikeAt_52 : decode cX6_alikeAt 52 = .ok (.iload 5, 2) := by decide +kernel
theorem dX6_alikeAt_54 : decode cX6_alikeAt 54 = .ok (.iload_n 1, 1) := by decide +kernel
theorem dX6_alikeAt_55 : decode cX6_alikeAt 55 = .ok (.iload 4, 2) := by decide +kernel
theorem dX6_alikeAt_57 : decode cX6_alikeAt 57 = .ok (.ishr, 1) := by decide +kernel
theorem dX6_alikeAt_58 : decode cX6_alikeAt 58 = .ok (.iload_n 1, 1) := by decide +kernel
theorem dX6_alikeAt_59 : decode cX6_alikeAt 59 = .ok (.iload 6, 2) := by decide +kernel
theorem dX6_alikeAt_61 : decode cX6_alikeAt 61 = .ok (.ishr, 1) := by decide +kernel
theorem dX6_alikeAt_62 : decode cX6_alikeAt 62 = .ok (.iand, 1) := by decide +kernel
theorem dX6_alikeAt_63 : decode cX6_alikeAt 63 = .ok (.iconst 1, 1) := by decide +kernel
theorem dX6_alikeAt_64 : decode cX6_alikeAt 64 = .ok (.iand, 1) := by decide +kernel
theorem dX6_alikeAt_65 : decode cX6_alikeAt 65 = .ok (.iconst 1, 1) := by decide +kernel
theorem dX6_alikeAt_66 : decode cX6_alikeAt 66 = .ok (.if_icmp .ne 24, 3) := by decide +kernel
theorem dX6_alikeAt_69 : decode cX6_alikeAt 69 = .ok (.aload_n 0, 1) := by decide +kernel
theorem dX6_alikeAt_70 : decode cX6_alikeAt 70 = .ok (.getfield 51, 3) := by decide +kernel
theorem dX6_alikeAt_73 : decode cX6_alikeAt 73 = .ok (.iload 4, 2) := by decide +kernel
theorem dX6_alikeAt_75 : decode cX6_alikeAt 75 = .ok (.iaload, 1) := by decide +kernel
theorem dX6_alikeAt_76 : decode cX6_alikeAt 76 = .ok (.aload_n 0, 1) := by decide +kernel
theorem dX6_alikeAt_77 : decode cX6_alikeAt 77 = .ok (.getfield 51, 3) := by decide +kernel
theorem dX6_alikeAt_80 : decode cX6_alikeAt 80 = .ok (.iload 6, 2) := by decide +kernel
theorem dX6_alikeAt_82 : decode cX6_alikeAt 82 = .ok (.iaload, 1) := by decide +kernel
theorem dX6_alikeAt_83 : decode cX6_alikeAt 83 = .ok (.if_icmp .ne 7, 3) := by decide +kernel
theorem dX6_alikeAt_86 : decode cX6_alikeAt 86 = .ok (.iconst 1, 1) := by decide +kernel
theorem dX6_alikeAt_87 : decode cX6_alikeAt 87 = .ok (.goto 4, 3) := by decide +kernel
theorem dX6_alikeAt_90 : decode cX6_alikeAt 90 = .ok (.iconst 0, 1) := by decide +kernel
theorem dX6_alikeAt_91 : decode cX6_alikeAt 91 = .ok (.iadd, 1) := by decide +kernel
theorem dX6_alikeAt_92 : decode cX6_alikeAt 92 = .ok (.istore 5, 2) := by decide +kernel
theorem dX6_alikeAt_94 : decode cX6_alikeAt 94 = .ok (.iinc 6 1, 3) := by decide +kernel
theorem dX6_alikeAt_97 : decode cX6_alikeAt 97 = .ok (.goto (-51), 3) := by decide +kernel
theorem dX6_alikeAt_100 : decode cX6_alikeAt 100 = .ok (.iload 5, 2) := by decide +kernel
theorem dX6_alikeAt_102 : decode cX6_alikeAt 102 = .ok (.iload_n 3, 1) := by decide +kernel
theorem dX6_alikeAt_103 : decode cX6_alikeAt 103 = .ok (.if_icmp .le 8, 3) := by decide +kernel
theorem dX6_alikeAt_106 : decode cX6_alikeAt 106 = .ok (.iload 5, 2) := by decide +kernel
theorem dX6_alikeAt_108 : decode cX6_alikeAt 108 = .ok (.goto 4, 3) := by decide +kernel
theorem dX6_alikeAt_111 : decode cX6_alikeAt 111 = .ok (.iload_n 3, 1) := by decide +kernel
theorem dX6_alikeAt_112 : decode cX6_alikeAt 112 = .ok (.istore_n 3, 1) := by decide +kernel
theorem dX6_alikeAt_113 : decode cX6_alikeAt 113 = .ok (.iinc 4 1, 3) := by decide +kernel
theorem dX6_alikeAt_116 : decode cX6_alikeAt 116 = .ok (.goto (-82), 3) := by decide +kernel
theorem dX6_alikeAt_119 : decode cX6_alikeAt 119 = .ok (.iload_n 3, 1) := by decide +kernel
theorem dX6_alikeAt_120 : decode cX6_alikeAt 120 = .ok (.ireturn, 1) := by decide +kernel
theorem dX6_look_0 : decode cX6_look 0 = .ok (.aload_n 0, 1) := by decide +kernel
theorem dX6_look_1 : decode cX6_look 1 = .ok (.invokevirtual 214, 3) := by decide +kernel
theorem dX6_look_4 : decode cX6_look 4 = .ok (.istore_n 1, 1) := by decide +kernel
theorem dX6_look_5 : decode cX6_look 5 = .ok (.iload_n 1, 1) := by decide +kernel
theorem dX6_look_6 : decode cX6_look 6 = .ok (.iload_n 1, 1) := by decide +kernel
theorem dX6_look_7 : decode cX6_look 7 = .ok (.iconst 1, 1) := by decide +kernel
theorem dX6_look_8 : decode cX6_look 8 = .ok (.isub, 1) := by decide +kernel
theorem dX6_look_9 : decode cX6_look 9 = .ok (.iand, 1) := by decide +kernel
theorem dX6_look_10 : decode cX6_look 10 = .ok (.ifCond .ne 6, 3) := by decide +kernel
theorem dX6_look_13 : decode cX6_look 13 = .ok (.bipush (-9), 2) := by decide +kernel
theorem dX6_look_15 : decode cX6_look 15 = .ok (.ireturn, 1) := by decide +kernel
theorem dX6_look_16 : decode cX6_look 16 = .ok (.bipush (-9), 2) := by decide +kernel
theorem dX6_look_18 : decode cX6_look 18 = .ok (.istore_n 2, 1) := by decide +kernel
theorem dX6_look_19 : decode cX6_look 19 = .ok (.iconst 5, 1) := by decide +kernel
theorem dX6_look_20 : decode cX6_look 20 = .ok (.istore_n 3, 1) := by decide +kernel
theorem dX6_look_21 : decode cX6_look 21 = .ok (.iconst 0, 1) := by decide +kernel
theorem dX6_look_22 : decode cX6_look 22 = .ok (.istore 4, 2) := by decide +kernel
theorem dX6_look_24 : decode cX6_look 24 = .ok (.iload 4, 2) := by decide +kernel
theorem dX6_look_26 : decode cX6_look 26 = .ok (.bipush 100, 2) := by decide +kernel
theorem dX6_look_28 : decode cX6_look 28 = .ok (.if_icmp .ge 44, 3) := by decide +kernel
theorem dX6_look_31 : decode cX6_look 31 = .ok (.aload_n 0, 1) := by decide +kernel
theorem dX6_look_32 : decode cX6_look 32 = .ok (.iload_n 1, 1) := by decide +kernel
theorem dX6_look_33 : decode cX6_look 33 = .ok (.iload 4, 2) := by decide +kernel
theorem dX6_look_35 : decode cX6_look 35 = .ok (.invokevirtual 217, 3) := by decide +kernel
theorem dX6_look_38 : decode cX6_look 38 = .ok (.istore 5, 2) := by decide +kernel
theorem dX6_look_40 : decode cX6_look 40 = .ok (.iload 5, 2) := by decide +kernel
theorem dX6_look_42 : decode cX6_look 42 = .ok (.iload_n 3, 1) := by decide +kernel
theorem dX6_look_43 : decode cX6_look 43 = .ok (.if_icmp .ge 8, 3) := by decide +kernel
theorem dX6_look_46 : decode cX6_look 46 = .ok (.iload 4, 2) := by decide +kernel
theorem dX6_look_48 : decode cX6_look 48 = .ok (.goto 4, 3) := by decide +kernel
theorem dX6_look_51 : decode cX6_look 51 = .ok (.iload_n 2, 1) := by decide +kernel
theorem dX6_look_52 : decode cX6_look 52 = .ok (.istore_n 2, 1) := by decide +kernel
theorem dX6_look_53 : decode cX6_look 53 = .ok (.iload 5, 2) := by decide +kernel
theorem dX6_look_55 : decode cX6_look 55 = .ok (.iload_n 3, 1) := by decide +kernel
theorem dX6_look_56 : decode cX6_look 56 = .ok (.if_icmp .ge 8, 3) := by decide +kernel
theorem dX6_look_59 : decode cX6_look 59 = .ok (.iload 5, 2) := by decide +kernel
theorem dX6_look_61 : decode cX6_look 61 = .ok (.goto 4, 3) := by decide +kernel
theorem dX6_look_64 : decode cX6_look 64 = .ok (.iload_n 3, 1) := by decide +kernel
theorem dX6_look_65 : decode cX6_look 65 = .ok (.istore_n 3, 1) := by decide +kernel
theorem dX6_look_66 : decode cX6_look 66 = .ok (.iinc 4 1, 3) := by decide +kernel
theorem dX6_look_69 : decode cX6_look 69 = .ok (.goto (-45), 3) := by decide +kernel
theorem dX6_look_72 : decode cX6_look 72 = .ok (.iload_n 2, 1) := by decide +kernel
theorem dX6_look_73 : decode cX6_look 73 = .ok (.ireturn, 1) := by decide +kernel
theorem dX6_legsOfAll_0 : decode cX6_legsOfAll 0 = .ok (.iconst 0, 1) := by decide +kernel
theorem dX6_legsOfAll_1 : decode cX6_legsOfAll 1 = .ok (.istore_n 1, 1) := by decide +kernel
theorem dX6_legsOfAll_2 : decode cX6_legsOfAll 2 = .ok (.iconst 0, 1) := by decide +kernel
theorem dX6_legsOfAll_3 : decode cX6_legsOfAll 3 = .ok (.istore_n 2, 1) := by decide +kernel
theorem dX6_legsOfAll_4 : decode cX6_legsOfAll 4 = .ok (.iload_n 2, 1) := by decide +kernel
theorem dX6_legsOfAll_5 : decode cX6_legsOfAll 5 = .ok (.iconst 4, 1) := by decide +kernel
theorem dX6_legsOfAll_6 : decode cX6_legsOfAll 6 = .ok (.if_icmp .ge 18, 3) := by decide +kernel
theorem dX6_legsOfAll_9 : decode cX6_legsOfAll 9 = .ok (.iload_n 1, 1) := by decide +kernel
theorem dX6_legsOfAll_10 : decode cX6_legsOfAll 10 = .ok (.aload_n 0, 1) := by decide +kernel
theorem dX6_legsOfAll_11 : decode cX6_legsOfAll 11 = .ok (.iload_n 2, 1) := by decide +kernel
theorem dX6_legsOfAll_12 : decode cX6_legsOfAll 12 = .ok (.iconst 0, 1) := by decide +kernel
theorem dX6_legsOfAll_13 : decode cX6_legsOfAll 13 = .ok (.invokevirtual 70, 3) := by decide +kernel
theorem dX6_legsOfAll_16 : decode cX6_legsOfAll 16 = .ok (.iadd, 1) := by decide +kernel
theorem dX6_legsOfAll_17 : decode cX6_legsOfAll 17 = .ok (.istore_n 1, 1) := by decide +kernel
theorem dX6_legsOfAll_18 : decode cX6_legsOfAll 18 = .ok (.iinc 2 1, 3) := by decide +kernel
theorem dX6_legsOfAll_21 : decode cX6_legsOfAll 21 = .ok (.goto (-17), 3) := by decide +kernel
theorem dX6_legsOfAll_24 : decode cX6_legsOfAll 24 = .ok (.iload_n 1, 1) := by decide +kernel
theorem dX6_legsOfAll_25 : decode cX6_legsOfAll 25 = .ok (.ireturn, 1) := by decide +kernel
theorem dX6_keep_0 : decode cX6_keep 0 = .ok (.iload_n 1, 1) := by decide +kernel
theorem dX6_keep_1 : decode cX6_keep 1 = .ok (.iconst 0, 1) := by decide +kernel
theorem dX6_keep_2 : decode cX6_keep 2 = .ok (.iconst 1, 1) := by decide +kernel
theorem dX6_keep_3 : decode cX6_keep 3 = .ok (.invokestatic 62, 3) := by decide +kernel
theorem dX6_keep_6 : decode cX6_keep 6 = .ok (.ifCond .ne 5, 3) := by decide +kernel
theorem dX6_keep_9 : decode cX6_keep 9 = .ok (.iconst (-1), 1) := by decide +kernel
theorem dX6_keep_10 : decode cX6_keep 10 = .ok (.ireturn, 1) := by decide +kernel
theorem dX6_keep_11 : decode cX6_keep 11 = .ok (.iconst 0, 1) := by decide +kernel
theorem dX6_keep_12 : decode cX6_keep 12 = .ok (.istore_n 2, 1) := by decide +kernel
theorem dX6_keep_13 : decode cX6_keep 13 = .ok (.iload_n 2, 1) := by decide +kernel
theorem dX6_keep_14 : decode cX6_keep 14 = .ok (.sipush 132, 3) := by decide +kernel
theorem dX6_keep_17 : decode cX6_keep 17 = .ok (.if_icmp .ge 27, 3) := by decide +kernel
theorem dX6_keep_20 : decode cX6_keep 20 = .ok (.aload_n 0, 1) := by decide +kernel
theorem dX6_keep_21 : decode cX6_keep 21 = .ok (.getfield 16, 3) := by decide +kernel
theorem dX6_keep_24 : decode cX6_keep 24 = .ok (.sipush 132, 3) := by decide +kernel
theorem dX6_keep_27 : decode cX6_keep 27 = .ok (.iload_n 1, 1) := by decide +kernel
theorem dX6_keep_28 : decode cX6_keep 28 = .ok (.imul, 1) := by decide +kernel
theorem dX6_keep_29 : decode cX6_keep 29 = .ok (.iload_n 2, 1) := by decide +kernel
theorem dX6_keep_30 : decode cX6_keep 30 = .ok (.iadd, 1) := by decide +kernel
theorem dX6_keep_31 : decode cX6_keep 31 = .ok (.aload_n 0, 1) := by decide +kernel
theorem dX6_keep_32 : decode cX6_keep 32 = .ok (.getfield 7, 3) := by decide +kernel
theorem dX6_keep_35 : decode cX6_keep 35 = .ok (.iload_n 2, 1) := by decide +kernel
theorem dX6_keep_36 : decode cX6_keep 36 = .ok (.iaload, 1) := by decide +kernel
theorem dX6_keep_37 : decode cX6_keep 37 = .ok (.iastore, 1) := by decide +kernel
theorem dX6_keep_38 : decode cX6_keep 38 = .ok (.iinc 2 1, 3) := by decide +kernel
theorem dX6_keep_41 : decode cX6_keep 41 = .ok (.goto (-28), 3) := by decide +kernel
theorem dX6_keep_44 : decode cX6_keep 44 = .ok (.aload_n 0, 1) := by decide +kernel
theorem dX6_keep_45 : decode cX6_keep 45 = .ok (.getfield 19, 3) := by decide +kernel
theorem dX6_keep_48 : decode cX6_keep 48 = .ok (.iload_n 1, 1) := by decide +kernel
theorem dX6_keep_49 : decode cX6_keep 49 = .ok (.iconst 1, 1) := by decide +kernel
theorem dX6_keep_50 : decode cX6_keep 50 = .ok (.bastore, 1) := by decide +kernel
theorem dX6_keep_51 : decode cX6_keep 51 = .ok (.aload_n 0, 1) := by decide +kernel
theorem dX6_keep_52 : decode cX6_keep 52 = .ok (.invokevirtual 220, 3) := by decide +kernel
theorem dX6_keep_55 : decode cX6_keep 55 = .ok (.ireturn, 1) := by decide +kernel
theorem dX6_back_0 : decode cX6_back 0 = .ok (.iload_n 1, 1) := by decide +kernel
theorem dX6_back_1 : decode cX6_back 1 = .ok (.iconst 0, 1) := by decide +kernel
theorem dX6_back_2 : decode cX6_back 2 = .ok (.iconst 1, 1) := by decide +kernel
theorem dX6_back_3 : decode cX6_back 3 = .ok (.invokestatic 62, 3) := by decide +kernel
theorem dX6_back_6 : decode cX6_back 6 = .ok (.ifCond .ne 5, 3) := by decide +kernel
theorem dX6_back_9 : decode cX6_back 9 = .ok (.iconst (-1), 1) := by decide +kernel
theorem dX6_back_10 : decode cX6_back 10 = .ok (.ireturn, 1) := by decide +kernel
theorem dX6_back_11 : decode cX6_back 11 = .ok (.aload_n 0, 1) := by decide +kernel
theorem dX6_back_12 : decode cX6_back 12 = .ok (.getfield 19, 3) := by decide +kernel
theorem dX6_back_15 : decode cX6_back 15 = .ok (.iload_n 1, 1) := by decide +kernel
theorem dX6_back_16 : decode cX6_back 16 = .ok (.baload, 1) := by decide +kernel
theorem dX6_back_17 : decode cX6_back 17 = .ok (.ifCond .ne 6, 3) := by decide +kernel
theorem dX6_back_20 : decode cX6_back 20 = .ok (.bipush (-2), 2) := by decide +kernel
theorem dX6_back_22 : decode cX6_back 22 = .ok (.ireturn, 1) := by decide +kernel
theorem dX6_back_23 : decode cX6_back 23 = .ok (.iconst 0, 1) := by decide +kernel
theorem dX6_back_24 : decode cX6_back 24 = .ok (.istore_n 2, 1) := by decide +kernel
theorem dX6_back_25 : decode cX6_back 25 = .ok (.iload_n 2, 1) := by decide +kernel
theorem dX6_back_26 : decode cX6_back 26 = .ok (.sipush 132, 3) := by decide +kernel
theorem dX6_back_29 : decode cX6_back 29 = .ok (.if_icmp .ge 27, 3) := by decide +kernel
theorem dX6_back_32 : decode cX6_back 32 = .ok (.aload_n 0, 1) := by decide +kernel
theorem dX6_back_33 : decode cX6_back 33 = .ok (.getfield 7, 3) := by decide +kernel
theorem dX6_back_36 : decode cX6_back 36 = .ok (.iload_n 2, 1) := by decide +kernel
theorem dX6_back_37 : decode cX6_back 37 = .ok (.aload_n 0, 1) := by decide +kernel
theorem dX6_back_38 : decode cX6_back 38 = .ok (.getfield 16, 3) := by decide +kernel
theorem dX6_back_41 : decode cX6_back 41 = .ok (.sipush 132, 3) := by decide +kernel
theorem dX6_back_44 : decode cX6_back 44 = .ok (.iload_n 1, 1) := by decide +kernel
theorem dX6_back_45 : decode cX6_back 45 = .ok (.imul, 1) := by decide +kernel
theorem dX6_back_46 : decode cX6_back 46 = .ok (.iload_n 2, 1) := by decide +kernel
theorem dX6_back_47 : decode cX6_back 47 = .ok (.iadd, 1) := by decide +kernel
theorem dX6_back_48 : decode cX6_back 48 = .ok (.iaload, 1) := by decide +kernel
theorem dX6_back_49 : decode cX6_back 49 = .ok (.iastore, 1) := by decide +kernel
theorem dX6_back_50 : decode cX6_back 50 = .ok (.iinc 2 1, 3) := by decide +kernel
theorem dX6_back_53 : decode cX6_back 53 = .ok (.goto (-28), 3) := by decide +kernel
theorem dX6_back_56 : decode cX6_back 56 = .ok (.aload_n 0, 1) := by decide +kernel
theorem dX6_back_57 : decode cX6_back 57 = .ok (.iconst 0, 1) := by decide +kernel
theorem dX6_back_58 : decode cX6_back 58 = .ok (.putfield 58, 3) := by decide +kernel
theorem dX6_back_61 : decode cX6_back 61 = .ok (.aload_n 0, 1) := by decide +kernel
theorem dX6_back_62 : decode cX6_back 62 = .ok (.invokevirtual 220, 3) := by decide +kernel
theorem dX6_back_65 : decode cX6_back 65 = .ok (.ireturn, 1) := by decide +kernel
theorem dX6_count_0 : decode cX6_count 0 = .ok (.iload_n 1, 1) := by decide +kernel
theorem dX6_count_1 : decode cX6_count 1 = .ok (.tableswitch 51 0 3 #[31, 36, 41, 46], 31) := by decide +kernel
theorem dX6_count_32 : decode cX6_count 32 = .ok (.aload_n 0, 1) := by decide +kernel
theorem dX6_count_33 : decode cX6_count 33 = .ok (.invokevirtual 220, 3) := by decide +kernel
theorem dX6_count_36 : decode cX6_count 36 = .ok (.ireturn, 1) := by decide +kernel
theorem dX6_count_37 : decode cX6_count 37 = .ok (.aload_n 0, 1) := by decide +kernel
theorem dX6_count_38 : decode cX6_count 38 = .ok (.getfield 211, 3) := by decide +kernel
theorem dX6_count_41 : decode cX6_count 41 = .ok (.ireturn, 1) := by decide +kernel
theorem dX6_count_42 : decode cX6_count 42 = .ok (.aload_n 0, 1) := by decide +kernel
theorem dX6_count_43 : decode cX6_count 43 = .ok (.getfield 73, 3) := by decide +kernel
theorem dX6_count_46 : decode cX6_count 46 = .ok (.ireturn, 1) := by decide +kernel
theorem dX6_count_47 : decode cX6_count 47 = .ok (.aload_n 0, 1) := by decide +kernel
theorem dX6_count_48 : decode cX6_count 48 = .ok (.getfield 58, 3) := by decide +kernel
theorem dX6_count_51 : decode cX6_count 51 = .ok (.ireturn, 1) := by decide +kernel
theorem dX6_count_52 : decode cX6_count 52 = .ok (.iconst (-1), 1) := by decide +kernel
theorem dX6_count_53 : decode cX6_count 53 = .ok (.ireturn, 1) := by decide +kernel
theorem dJ6_bitCount_0f7a4_0 : decode cJ6_bitCount_0f7a4 0 = .ok (.iload_n 0, 1) := by decide +kernel
theorem dJ6_bitCount_0f7a4_1 : decode cJ6_bitCount_0f7a4 1 = .ok (.iload_n 0, 1) := by decide +kernel
theorem dJ6_bitCount_0f7a4_2 : decode cJ6_bitCount_0f7a4 2 = .ok (.iconst 1, 1) := by decide +kernel
theorem dJ6_bitCount_0f7a4_3 : decode cJ6_bitCount_0f7a4 3 = .ok (.iushr, 1) := by decide +kernel
theorem dJ6_bitCount_0f7a4_4 : decode cJ6_bitCount_0f7a4 4 = .ok (.ldc_w 265, 3) := by decide +kernel
theorem dJ6_bitCount_0f7a4_7 : decode cJ6_bitCount_0f7a4 7 = .ok (.iand, 1) := by decide +kernel
theorem dJ6_bitCount_0f7a4_8 : decode cJ6_bitCount_0f7a4 8 = .ok (.isub, 1) := by decide +kernel
theorem dJ6_bitCount_0f7a4_9 : decode cJ6_bitCount_0f7a4 9 = .ok (.istore_n 0, 1) := by decide +kernel
theorem dJ6_bitCount_0f7a4_10 : decode cJ6_bitCount_0f7a4 10 = .ok (.iload_n 0, 1) := by decide +kernel
theorem dJ6_bitCount_0f7a4_11 : decode cJ6_bitCount_0f7a4 11 = .ok (.ldc_w 266, 3) := by decide +kernel
theorem dJ6_bitCount_0f7a4_14 : decode cJ6_bitCount_0f7a4 14 = .ok (.iand, 1) := by decide +kernel
theorem dJ6_bitCount_0f7a4_15 : decode cJ6_bitCount_0f7a4 15 = .ok (.iload_n 0, 1) := by decide +kernel
theorem dJ6_bitCount_0f7a4_16 : decode cJ6_bitCount_0f7a4 16 = .ok (.iconst 2, 1) := by decide +kernel
theorem dJ6_bitCount_0f7a4_17 : decode cJ6_bitCount_0f7a4 17 = .ok (.iushr, 1) := by decide +kernel
theorem dJ6_bitCount_0f7a4_18 : decode cJ6_bitCount_0f7a4 18 = .ok (.ldc_w 266, 3) := by decide +kernel
theorem dJ6_bitCount_0f7a4_21 : decode cJ6_bitCount_0f7a4 21 = .ok (.iand, 1) := by decide +kernel
theorem dJ6_bitCount_0f7a4_22 : decode cJ6_bitCount_0f7a4 22 = .ok (.iadd, 1) := by decide +kernel
theorem dJ6_bitCount_0f7a4_23 : decode cJ6_bitCount_0f7a4 23 = .ok (.istore_n 0, 1) := by decide +kernel
theorem dJ6_bitCount_0f7a4_24 : decode cJ6_bitCount_0f7a4 24 = .ok (.iload_n 0, 1) := by decide +kernel
theorem dJ6_bitCount_0f7a4_25 : decode cJ6_bitCount_0f7a4 25 = .ok (.iload_n 0, 1) := by decide +kernel
theorem dJ6_bitCount_0f7a4_26 : decode cJ6_bitCount_0f7a4 26 = .ok (.iconst 4, 1) := by decide +kernel
theorem dJ6_bitCount_0f7a4_27 : decode cJ6_bitCount_0f7a4 27 = .ok (.iushr, 1) := by decide +kernel
theorem dJ6_bitCount_0f7a4_28 : decode cJ6_bitCount_0f7a4 28 = .ok (.iadd, 1) := by decide +kernel
theorem dJ6_bitCount_0f7a4_29 : decode cJ6_bitCount_0f7a4 29 = .ok (.ldc_w 267, 3) := by decide +kernel
theorem dJ6_bitCount_0f7a4_32 : decode cJ6_bitCount_0f7a4 32 = .ok (.iand, 1) := by decide +kernel
theorem dJ6_bitCount_0f7a4_33 : decode cJ6_bitCount_0f7a4 33 = .ok (.istore_n 0, 1) := by decide +kernel
theorem dJ6_bitCount_0f7a4_34 : decode cJ6_bitCount_0f7a4 34 = .ok (.iload_n 0, 1) := by decide +kernel
theorem dJ6_bitCount_0f7a4_35 : decode cJ6_bitCount_0f7a4 35 = .ok (.iload_n 0, 1) := by decide +kernel
theorem dJ6_bitCount_0f7a4_36 : decode cJ6_bitCount_0f7a4 36 = .ok (.bipush 8, 2) := by decide +kernel
theorem dJ6_bitCount_0f7a4_38 : decode cJ6_bitCount_0f7a4 38 = .ok (.iushr, 1) := by decide +kernel
theorem dJ6_bitCount_0f7a4_39 : decode cJ6_bitCount_0f7a4 39 = .ok (.iadd, 1) := by decide +kernel
theorem dJ6_bitCount_0f7a4_40 : decode cJ6_bitCount_0f7a4 40 = .ok (.istore_n 0, 1) := by decide +kernel
theorem dJ6_bitCount_0f7a4_41 : decode cJ6_bitCount_0f7a4 41 = .ok (.iload_n 0, 1) := by decide +kernel
theorem dJ6_bitCount_0f7a4_42 : decode cJ6_bitCount_0f7a4 42 = .ok (.iload_n 0, 1) := by decide +kernel
theorem dJ6_bitCount_0f7a4_43 : decode cJ6_bitCount_0f7a4 43 = .ok (.bipush 16, 2) := by decide +kernel
theorem dJ6_bitCount_0f7a4_45 : decode cJ6_bitCount_0f7a4 45 = .ok (.iushr, 1) := by decide +kernel
theorem dJ6_bitCount_0f7a4_46 : decode cJ6_bitCount_0f7a4 46 = .ok (.iadd, 1) := by decide +kernel
theorem dJ6_bitCount_0f7a4_47 : decode cJ6_bitCount_0f7a4 47 = .ok (.istore_n 0, 1) := by decide +kernel
theorem dJ6_bitCount_0f7a4_48 : decode cJ6_bitCount_0f7a4 48 = .ok (.iload_n 0, 1) := by decide +kernel
theorem dJ6_bitCount_0f7a4_49 : decode cJ6_bitCount_0f7a4 49 = .ok (.bipush 63, 2) := by decide +kernel
theorem dJ6_bitCount_0f7a4_51 : decode cJ6_bitCount_0f7a4 51 = .ok (.iand, 1) := by decide +kernel
theorem dJ6_bitCount_0f7a4_52 : decode cJ6_bitCount_0f7a4 52 = .ok (.ireturn, 1) := by decide +kernel
theorem dJ9_floorDiv_7cf53_0 : decode cJ9_floorDiv_7cf53 0 = .ok (.iload_n 0, 1) := by decide +kernel
theorem dJ9_floorDiv_7cf53_1 : decode cJ9_floorDiv_7cf53 1 = .ok (.iload_n 1, 1) := by decide +kernel
theorem dJ9_floorDiv_7cf53_2 : decode cJ9_floorDiv_7cf53 2 = .ok (.idiv, 1) := by decide +kernel
theorem dJ9_floorDiv_7cf53_3 : decode cJ9_floorDiv_7cf53 3 = .ok (.istore_n 2, 1) := by decide +kernel
theorem dJ9_floorDiv_7cf53_4 : decode cJ9_floorDiv_7cf53 4 = .ok (.iload_n 0, 1) := by decide +kernel
theorem dJ9_floorDiv_7cf53_5 : decode cJ9_floorDiv_7cf53 5 = .ok (.iload_n 1, 1) := by decide +kernel
theorem dJ9_floorDiv_7cf53_6 : decode cJ9_floorDiv_7cf53 6 = .ok (.ixor, 1) := by decide +kernel
theorem dJ9_floorDiv_7cf53_7 : decode cJ9_floorDiv_7cf53 7 = .ok (.ifCond .ge 14, 3) := by decide +kernel
theorem dJ9_floorDiv_7cf53_10 : decode cJ9_floorDiv_7cf53 10 = .ok (.iload_n 2, 1) := by decide +kernel
theorem dJ9_floorDiv_7cf53_11 : decode cJ9_floorDiv_7cf53 11 = .ok (.iload_n 1, 1) := by decide +kernel
theorem dJ9_floorDiv_7cf53_12 : decode cJ9_floorDiv_7cf53 12 = .ok (.imul, 1) := by decide +kernel
theorem dJ9_floorDiv_7cf53_13 : decode cJ9_floorDiv_7cf53 13 = .ok (.iload_n 0, 1) := by decide +kernel
theorem dJ9_floorDiv_7cf53_14 : decode cJ9_floorDiv_7cf53 14 = .ok (.if_icmp .eq 7, 3) := by decide +kernel
theorem dJ9_floorDiv_7cf53_17 : decode cJ9_floorDiv_7cf53 17 = .ok (.iload_n 2, 1) := by decide +kernel
theorem dJ9_floorDiv_7cf53_18 : decode cJ9_floorDiv_7cf53 18 = .ok (.iconst 1, 1) := by decide +kernel
theorem dJ9_floorDiv_7cf53_19 : decode cJ9_floorDiv_7cf53 19 = .ok (.isub, 1) := by decide +kernel
theorem dJ9_floorDiv_7cf53_20 : decode cJ9_floorDiv_7cf53 20 = .ok (.ireturn, 1) := by decide +kernel
theorem dJ9_floorDiv_7cf53_21 : decode cJ9_floorDiv_7cf53 21 = .ok (.iload_n 2, 1) := by decide +kernel
theorem dJ9_floorDiv_7cf53_22 : decode cJ9_floorDiv_7cf53 22 = .ok (.ireturn, 1) := by decide +kernel
theorem dJ9_abs_0f7a4_0 : decode cJ9_abs_0f7a4 0 = .ok (.iload_n 0, 1) := by decide +kernel
theorem dJ9_abs_0f7a4_1 : decode cJ9_abs_0f7a4 1 = .ok (.ifCond .ge 8, 3) := by decide +kernel
theorem dJ9_abs_0f7a4_4 : decode cJ9_abs_0f7a4 4 = .ok (.iload_n 0, 1) := by decide +kernel
theorem dJ9_abs_0f7a4_5 : decode cJ9_abs_0f7a4 5 = .ok (.ineg, 1) := by decide +kernel
theorem dJ9_abs_0f7a4_6 : decode cJ9_abs_0f7a4 6 = .ok (.goto 4, 3) := by decide +kernel
theorem dJ9_abs_0f7a4_9 : decode cJ9_abs_0f7a4 9 = .ok (.iload_n 0, 1) := by decide +kernel
theorem dJ9_abs_0f7a4_10 : decode cJ9_abs_0f7a4 10 = .ok (.ireturn, 1) := by decide +kernel
theorem dJ9_max_7cf53_0 : decode cJ9_max_7cf53 0 = .ok (.iload_n 0, 1) := by decide +kernel
theorem dJ9_max_7cf53_1 : decode cJ9_max_7cf53 1 = .ok (.iload_n 1, 1) := by decide +kernel
theorem dJ9_max_7cf53_2 : decode cJ9_max_7cf53 2 = .ok (.if_icmp .lt 7, 3) := by decide +kernel
theorem dJ9_max_7cf53_5 : decode cJ9_max_7cf53 5 = .ok (.iload_n 0, 1) := by decide +kernel
theorem dJ9_max_7cf53_6 : decode cJ9_max_7cf53 6 = .ok (.goto 4, 3) := by decide +kernel
theorem dJ9_max_7cf53_9 : decode cJ9_max_7cf53 9 = .ok (.iload_n 1, 1) := by decide +kernel
theorem dJ9_max_7cf53_10 : decode cJ9_max_7cf53 10 = .ok (.ireturn, 1) := by decide +kernel
theorem dJ9_min_7cf53_0 : decode cJ9_min_7cf53 0 = .ok (.iload_n 0, 1) := by decide +kernel
theorem dJ9_min_7cf53_1 : decode cJ9_min_7cf53 1 = .ok (.iload_n 1, 1) := by decide +kernel
theorem dJ9_min_7cf53_2 : decode cJ9_min_7cf53 2 = .ok (.if_icmp .gt 7, 3) := by decide +kernel
theorem dJ9_min_7cf53_5 : decode cJ9_min_7cf53 5 = .ok (.iload_n 0, 1) := by decide +kernel
theorem dJ9_min_7cf53_6 : decode cJ9_min_7cf53 6 = .ok (.goto 4, 3) := by decide +kernel
theorem dJ9_min_7cf53_9 : decode cJ9_min_7cf53 9 = .ok (.iload_n 1, 1) := by decide +kernel
theorem dJ9_min_7cf53_10 : decode cJ9_min_7cf53 10 = .ok (.ireturn, 1) := by decide +kernel
theorem dJ9_min_f86c9_0 : decode cJ9_min_f86c9 0 = .ok (.lload_n 0, 1) := by decide +kernel
theorem dJ9_min_f86c9_1 : decode cJ9_min_f86c9 1 = .ok (.lload_n 2, 1) := by decide +kernel
theorem dJ9_min_f86c9_2 : decode cJ9_min_f86c9 2 = .ok (.lcmp, 1) := by decide +kernel
theorem dJ9_min_f86c9_3 : decode cJ9_min_f86c9 3 = .ok (.ifCond .gt 7, 3) := by decide +kernel
theorem dJ9_min_f86c9_6 : decode cJ9_min_f86c9 6 = .ok (.lload_n 0, 1) := by decide +kernel
theorem dJ9_min_f86c9_7 : decode cJ9_min_f86c9 7 = .ok (.goto 4, 3) := by decide +kernel
theorem dJ9_min_f86c9_10 : decode cJ9_min_f86c9 10 = .ok (.lload_n 2, 1) := by decide +kernel
theorem dJ9_min_f86c9_11 : decode cJ9_min_f86c9 11 = .ok (.lreturn, 1) := by decide +kernel
theorem dJ7_fill_53178_0 : decode cJ7_fill_53178 0 = .ok (.iconst 0, 1) := by decide +kernel
theorem dJ7_fill_53178_1 : decode cJ7_fill_53178 1 = .ok (.istore_n 2, 1) := by decide +kernel
theorem dJ7_fill_53178_2 : decode cJ7_fill_53178 2 = .ok (.aload_n 0, 1) := by decide +kernel
theorem dJ7_fill_53178_3 : decode cJ7_fill_53178 3 = .ok (.arraylength, 1) := by decide +kernel
theorem dJ7_fill_53178_4 : decode cJ7_fill_53178 4 = .ok (.istore_n 3, 1) := by decide +kernel
theorem dJ7_fill_53178_5 : decode cJ7_fill_53178 5 = .ok (.iload_n 2, 1) := by decide +kernel
theorem dJ7_fill_53178_6 : decode cJ7_fill_53178 6 = .ok (.iload_n 3, 1) := by decide +kernel
theorem dJ7_fill_53178_7 : decode cJ7_fill_53178 7 = .ok (.if_icmp .ge 13, 3) := by decide +kernel
theorem dJ7_fill_53178_10 : decode cJ7_fill_53178 10 = .ok (.aload_n 0, 1) := by decide +kernel
theorem dJ7_fill_53178_11 : decode cJ7_fill_53178 11 = .ok (.iload_n 2, 1) := by decide +kernel
theorem dJ7_fill_53178_12 : decode cJ7_fill_53178 12 = .ok (.iload_n 1, 1) := by decide +kernel
theorem dJ7_fill_53178_13 : decode cJ7_fill_53178 13 = .ok (.iastore, 1) := by decide +kernel
theorem dJ7_fill_53178_14 : decode cJ7_fill_53178 14 = .ok (.iinc 2 1, 3) := by decide +kernel
theorem dJ7_fill_53178_17 : decode cJ7_fill_53178 17 = .ok (.goto (-12), 3) := by decide +kernel
theorem dJ7_fill_53178_20 : decode cJ7_fill_53178 20 = .ok (.return_, 1) := by decide +kernel
theorem dL_law_0 : decode cL_law 0 = .ok (.new 7, 3) := by decide +kernel
theorem dL_law_3 : decode cL_law 3 = .ok (.dup, 1) := by decide +kernel
theorem dL_law_4 : decode cL_law 4 = .ok (.invokespecial 9, 3) := by decide +kernel
theorem dL_law_7 : decode cL_law 7 = .ok (.astore_n 1, 1) := by decide +kernel
theorem dL_law_8 : decode cL_law 8 = .ok (.new 10, 3) := by decide +kernel
theorem dL_law_11 : decode cL_law 11 = .ok (.dup, 1) := by decide +kernel
theorem dL_law_12 : decode cL_law 12 = .ok (.invokespecial 12, 3) := by decide +kernel
theorem dL_law_15 : decode cL_law 15 = .ok (.astore_n 2, 1) := by decide +kernel
theorem dL_law_16 : decode cL_law 16 = .ok (.iconst 0, 1) := by decide +kernel
theorem dL_law_17 : decode cL_law 17 = .ok (.istore_n 3, 1) := by decide +kernel
theorem dL_law_18 : decode cL_law 18 = .ok (.iload_n 3, 1) := by decide +kernel
theorem dL_law_19 : decode cL_law 19 = .ok (.aload_n 0, 1) := by decide +kernel
theorem dL_law_20 : decode cL_law 20 = .ok (.arraylength, 1) := by decide +kernel
theorem dL_law_21 : decode cL_law 21 = .ok (.iconst 5, 1) := by decide +kernel
theorem dL_law_22 : decode cL_law 22 = .ok (.isub, 1) := by decide +kernel
theorem dL_law_23 : decode cL_law 23 = .ok (.if_icmp .gt 853, 3) := by decide +kernel
theorem dL_law_26 : decode cL_law 26 = .ok (.aload_n 0, 1) := by decide +kernel
theorem dL_law_27 : decode cL_law 27 = .ok (.iload_n 3, 1) := by decide +kernel
theorem dL_law_28 : decode cL_law 28 = .ok (.iaload, 1) := by decide +kernel
theorem dL_law_29 : decode cL_law 29 = .ok (.bipush 31, 2) := by decide +kernel
theorem dL_law_31 : decode cL_law 31 = .ok (.iand, 1) := by decide +kernel
theorem dL_law_32 : decode cL_law 32 = .ok (.tableswitch 838 0 25 #[120, 143, 156, 179, 202, 235, 288, 321, 334, 367, 410, 443, 486, 529, 562, 595, 618, 641, 664, 697, 730, 743, 756, 769, 792, 815], 120) := by decide +kernel
theorem dL_law_152 : decode cL_law 152 = .ok (.aload_n 1, 1) := by decide +kernel
theorem dL_law_153 : decode cL_law 153 = .ok (.aload_n 0, 1) := by decide +kernel
theorem dL_law_154 : decode cL_law 154 = .ok (.iload_n 3, 1) := by decide +kernel
theorem dL_law_155 : decode cL_law 155 = .ok (.iconst 1, 1) := by decide +kernel
theorem dL_law_156 : decode cL_law 156 = .ok (.iadd, 1) := by decide +kernel
theorem dL_law_157 : decode cL_law 157 = .ok (.iaload, 1) := by decide +kernel
theorem dL_law_158 : decode cL_law 158 = .ok (.invokevirtual 13, 3) := by decide +kernel
theorem dL_law_161 : decode cL_law 161 = .ok (.aload_n 2, 1) := by decide +kernel
theorem dL_law_162 : decode cL_law 162 = .ok (.aload_n 0, 1) := by decide +kernel
theorem dL_law_163 : decode cL_law 163 = .ok (.iload_n 3, 1) := by decide +kernel
theorem dL_law_164 : decode cL_law 164 = .ok (.iconst 1, 1) := by decide +kernel
theorem dL_law_165 : decode cL_law 165 = .ok (.iadd, 1) := by decide +kernel
theorem dL_law_166 : decode cL_law 166 = .ok (.iaload, 1) := by decide +kernel
theorem dL_law_167 : decode cL_law 167 = .ok (.invokevirtual 17, 3) := by decide +kernel
theorem dL_law_170 : decode cL_law 170 = .ok (.if_icmp .eq 700, 3) := by decide +kernel
theorem dL_law_173 : decode cL_law 173 = .ok (.iconst 0, 1) := by decide +kernel
theorem dL_law_174 : decode cL_law 174 = .ok (.ireturn, 1) := by decide +kernel
theorem dL_law_175 : decode cL_law 175 = .ok (.aload_n 1, 1) := by decide +kernel
theorem dL_law_176 : decode cL_law 176 = .ok (.invokevirtual 18, 3) := by decide +kernel
theorem dL_law_179 : decode cL_law 179 = .ok (.aload_n 2, 1) := by decide +kernel
theorem dL_law_180 : decode cL_law 180 = .ok (.invokevirtual 22, 3) := by decide +kernel
theorem dL_law_183 : decode cL_law 183 = .ok (.if_icmp .eq 687, 3) := by decide +kernel
theorem dL_law_186 : decode cL_law 186 = .ok (.iconst 0, 1) := by decide +kernel
theorem dL_law_187 : decode cL_law 187 = .ok (.ireturn, 1) := by decide +kernel
theorem dL_law_188 : decode cL_law 188 = .ok (.aload_n 1, 1) := by decide +kernel
theorem dL_law_189 : decode cL_law 189 = .ok (.aload_n 0, 1) := by decide +kernel
theorem dL_law_190 : decode cL_law 190 = .ok (.iload_n 3, 1) := by decide +kernel
theorem dL_law_191 : decode cL_law 191 = .ok (.iconst 1, 1) := by decide +kernel
theorem dL_law_192 : decode cL_law 192 = .ok (.iadd, 1) := by decide +kernel
theorem dL_law_193 : decode cL_law 193 = .ok (.iaload, 1) := by decide +kernel
theorem dL_law_194 : decode cL_law 194 = .ok (.invokevirtual 23, 3) := by decide +kernel
theorem dL_law_197 : decode cL_law 197 = .ok (.aload_n 2, 1) := by decide +kernel
theorem dL_law_198 : decode cL_law 198 = .ok (.aload_n 0, 1) := by decide +kernel
theorem dL_law_199 : decode cL_law 199 = .ok (.iload_n 3, 1) := by decide +kernel
theorem dL_law_200 : decode cL_law 200 = .ok (.iconst 1, 1) := by decide +kernel
theorem dL_law_201 : decode cL_law 201 = .ok (.iadd, 1) := by decide +kernel
theorem dL_law_202 : decode cL_law 202 = .ok (.iaload, 1) := by decide +kernel
theorem dL_law_203 : decode cL_law 203 = .ok (.invokevirtual 26, 3) := by decide +kernel
theorem dL_law_206 : decode cL_law 206 = .ok (.if_icmp .eq 664, 3) := by decide +kernel
theorem dL_law_209 : decode cL_law 209 = .ok (.iconst 0, 1) := by decide +kernel
theorem dL_law_210 : decode cL_law 210 = .ok (.ireturn, 1) := by decide +kernel
theorem dL_law_211 : decode cL_law 211 = .ok (.aload_n 1, 1) := by decide +kernel
theorem dL_law_212 : decode cL_law 212 = .ok (.aload_n 0, 1) := by decide +kernel
theorem dL_law_213 : decode cL_law 213 = .ok (.iload_n 3, 1) := by decide +kernel
theorem dL_law_214 : decode cL_law 214 = .ok (.iconst 1, 1) := by decide +kernel
theorem dL_law_215 : decode cL_law 215 = .ok (.iadd, 1) := by decide +kernel
theorem dL_law_216 : decode cL_law 216 = .ok (.iaload, 1) := by decide +kernel
theorem dL_law_217 : decode cL_law 217 = .ok (.invokevirtual 27, 3) := by decide +kernel
theorem dL_law_220 : decode cL_law 220 = .ok (.aload_n 2, 1) := by decide +kernel
theorem dL_law_221 : decode cL_law 221 = .ok (.aload_n 0, 1) := by decide +kernel
theorem dL_law_222 : decode cL_law 222 = .ok (.iload_n 3, 1) := by decide +kernel
theorem dL_law_223 : decode cL_law 223 = .ok (.iconst 1, 1) := by decide +kernel
theorem dL_law_224 : decode cL_law 224 = .ok (.iadd, 1) := by decide +kernel
theorem dL_law_225 : decode cL_law 225 = .ok (.iaload, 1) := by decide +kernel
theorem dL_law_226 : decode cL_law 226 = .ok (.invokevirtual 30, 3) := by decide +kernel
theorem dL_law_229 : decode cL_law 229 = .ok (.if_icmp .eq 641, 3) := by decide +kernel
theorem dL_law_232 : decode cL_law 232 = .ok (.iconst 0, 1) := by decide +kernel
theorem dL_law_233 : decode cL_law 233 = .ok (.ireturn, 1) := by decide +kernel
theorem dL_law_234 : decode cL_law 234 = .ok (.aload_n 1, 1) := by decide +kernel
theorem dL_law_235 : decode cL_law 235 = .ok (.aload_n 0, 1) := by decide +kernel
theorem dL_law_236 : decode cL_law 236 = .ok (.iload_n 3, 1) := by decide +kernel
theorem dL_law_237 : decode cL_law 237 = .ok (.iconst 1, 1) := by decide +kernel
theorem dL_law_238 : decode cL_law 238 = .ok (.iadd, 1) := by decide +kernel
theorem dL_law_239 : decode cL_law 239 = .ok (.iaload, 1) := by decide +kernel
theorem dL_law_240 : decode cL_law 240 = .ok (.aload_n 0, 1) := by decide +kernel
theorem dL_law_241 : decode cL_law 241 = .ok (.iload_n 3, 1) := by decide +kernel
theorem dL_law_242 : decode cL_law 242 = .ok (.iconst 2, 1) := by decide +kernel
theorem dL_law_243 : decode cL_law 243 = .ok (.iadd, 1) := by decide +kernel
theorem dL_law_244 : decode cL_law 244 = .ok (.iaload, 1) := by decide +kernel
theorem dL_law_245 : decode cL_law 245 = .ok (.invokevirtual 31, 3) := by decide +kernel
theorem dL_law_248 : decode cL_law 248 = .ok (.aload_n 2, 1) := by decide +kernel
theorem dL_law_249 : decode cL_law 249 = .ok (.aload_n 0, 1) := by decide +kernel
theorem dL_law_250 : decode cL_law 250 = .ok (.iload_n 3, 1) := by decide +kernel
theorem dL_law_251 : decode cL_law 251 = .ok (.iconst 1, 1) := by decide +kernel
theorem dL_law_252 : decode cL_law 252 = .ok (.iadd, 1) := by decide +kernel
theorem dL_law_253 : decode cL_law 253 = .ok (.iaload, 1) := by decide +kernel
theorem dL_law_254 : decode cL_law 254 = .ok (.aload_n 0, 1) := by decide +kernel
theorem dL_law_255 : decode cL_law 255 = .ok (.iload_n 3, 1) := by decide +kernel
theorem dL_law_256 : decode cL_law 256 = .ok (.iconst 2, 1) := by decide +kernel
theorem dL_law_257 : decode cL_law 257 = .ok (.iadd, 1) := by decide +kernel
theorem dL_law_258 : decode cL_law 258 = .ok (.iaload, 1) := by decide +kernel
theorem dL_law_259 : decode cL_law 259 = .ok (.invokevirtual 35, 3) := by decide +kernel
theorem dL_law_262 : decode cL_law 262 = .ok (.if_icmp .eq 608, 3) := by decide +kernel
theorem dL_law_265 : decode cL_law 265 = .ok (.iconst 0, 1) := by decide +kernel
theorem dL_law_266 : decode cL_law 266 = .ok (.ireturn, 1) := by decide +kernel
theorem dL_law_267 : decode cL_law 267 = .ok (.aload_n 1, 1) := by decide +kernel
theorem dL_law_268 : decode cL_law 268 = .ok (.aload_n 0, 1) := by decide +kernel
theorem dL_law_269 : decode cL_law 269 = .ok (.iload_n 3, 1) := by decide +kernel
theorem dL_law_270 : decode cL_law 270 = .ok (.iconst 1, 1) := by decide +kernel
theorem dL_law_271 : decode cL_law 271 = .ok (.iadd, 1) := by decide +kernel
theorem dL_law_272 : decode cL_law 272 = .ok (.iaload, 1) := by decide +kernel
theorem dL_law_273 : decode cL_law 273 = .ok (.aload_n 0, 1) := by decide +kernel
theorem dL_law_274 : decode cL_law 274 = .ok (.iload_n 3, 1) := by decide +kernel
theorem dL_law_275 : decode cL_law 275 = .ok (.iconst 2, 1) := by decide +kernel
theorem dL_law_276 : decode cL_law 276 = .ok (.iadd, 1) := by decide +kernel
theorem dL_law_277 : decode cL_law 277 = .ok (.iaload, 1) := by decide +kernel
theorem dL_law_278 : decode cL_law 278 = .ok (.aload_n 0, 1) := by decide +kernel
theorem dL_law_279 : decode cL_law 279 = .ok (.iload_n 3, 1) := by decide +kernel
theorem dL_law_280 : decode cL_law 280 = .ok (.iconst 3, 1) := by decide +kernel
theorem dL_law_281 : decode cL_law 281 = .ok (.iadd, 1) := by decide +kernel
theorem dL_law_282 : decode cL_law 282 = .ok (.iaload, 1) := by decide +kernel
theorem dL_law_283 : decode cL_law 283 = .ok (.aload_n 0, 1) := by decide +kernel
theorem dL_law_284 : decode cL_law 284 = .ok (.iload_n 3, 1) := by decide +kernel
theorem dL_law_285 : decode cL_law 285 = .ok (.iconst 4, 1) := by decide +kernel
theorem dL_law_286 : decode cL_law 286 = .ok (.iadd, 1) := by decide +kernel
theorem dL_law_287 : decode cL_law 287 = .ok (.iaload, 1) := by decide +kernel
theorem dL_law_288 : decode cL_law 288 = .ok (.invokevirtual 36, 3) := by decide +kernel
theorem dL_law_291 : decode cL_law 291 = .ok (.aload_n 2, 1) := by decide +kernel
theorem dL_law_292 : decode cL_law 292 = .ok (.aload_n 0, 1) := by decide +kernel
theorem dL_law_293 : decode cL_law 293 = .ok (.iload_n 3, 1) := by decide +kernel
theorem dL_law_294 : decode cL_law 294 = .ok (.iconst 1, 1) := by decide +kernel
theorem dL_law_295 : decode cL_law 295 = .ok (.iadd, 1) := by decide +kernel
theorem dL_law_296 : decode cL_law 296 = .ok (.iaload, 1) := by decide +kernel
theorem dL_law_297 : decode cL_law 297 = .ok (.aload_n 0, 1) := by decide +kernel
theorem dL_law_298 : decode cL_law 298 = .ok (.iload_n 3, 1) := by decide +kernel
theorem dL_law_299 : decode cL_law 299 = .ok (.iconst 2, 1) := by decide +kernel
theorem dL_law_300 : decode cL_law 300 = .ok (.iadd, 1) := by decide +kernel
theorem dL_law_301 : decode cL_law 301 = .ok (.iaload, 1) := by decide +kernel
theorem dL_law_302 : decode cL_law 302 = .ok (.aload_n 0, 1) := by decide +kernel
theorem dL_law_303 : decode cL_law 303 = .ok (.iload_n 3, 1) := by decide +kernel
theorem dL_law_304 : decode cL_law 304 = .ok (.iconst 3, 1) := by decide +kernel
theorem dL_law_305 : decode cL_law 305 = .ok (.iadd, 1) := by decide +kernel
theorem dL_law_306 : decode cL_law 306 = .ok (.iaload, 1) := by decide +kernel
theorem dL_law_307 : decode cL_law 307 = .ok (.aload_n 0, 1) := by decide +kernel
theorem dL_law_308 : decode cL_law 308 = .ok (.iload_n 3, 1) := by decide +kernel
theorem dL_law_309 : decode cL_law 309 = .ok (.iconst 4, 1) := by decide +kernel
theorem dL_law_310 : decode cL_law 310 = .ok (.iadd, 1) := by decide +kernel
theorem dL_law_311 : decode cL_law 311 = .ok (.iaload, 1) := by decide +kernel
theorem dL_law_312 : decode cL_law 312 = .ok (.invokevirtual 40, 3) := by decide +kernel
theorem dL_law_315 : decode cL_law 315 = .ok (.if_icmp .eq 555, 3) := by decide +kernel
theorem dL_law_318 : decode cL_law 318 = .ok (.iconst 0, 1) := by decide +kernel
theorem dL_law_319 : decode cL_law 319 = .ok (.ireturn, 1) := by decide +kernel
theorem dL_law_320 : decode cL_law 320 = .ok (.aload_n 1, 1) := by decide +kernel
theorem dL_law_321 : decode cL_law 321 = .ok (.aload_n 0, 1) := by decide +kernel
theorem dL_law_322 : decode cL_law 322 = .ok (.iload_n 3, 1) := by decide +kernel
theorem dL_law_323 : decode cL_law 323 = .ok (.iconst 1, 1) := by decide +kernel
theorem dL_law_324 : decode cL_law 324 = .ok (.iadd, 1) := by decide +kernel
theorem dL_law_325 : decode cL_law 325 = .ok (.iaload, 1) := by decide +kernel
theorem dL_law_326 : decode cL_law 326 = .ok (.aload_n 0, 1) := by decide +kernel
theorem dL_law_327 : decode cL_law 327 = .ok (.iload_n 3, 1) := by decide +kernel
theorem dL_law_328 : decode cL_law 328 = .ok (.iconst 2, 1) := by decide +kernel
theorem dL_law_329 : decode cL_law 329 = .ok (.iadd, 1) := by decide +kernel
theorem dL_law_330 : decode cL_law 330 = .ok (.iaload, 1) := by decide +kernel
theorem dL_law_331 : decode cL_law 331 = .ok (.invokevirtual 41, 3) := by decide +kernel
theorem dL_law_334 : decode cL_law 334 = .ok (.aload_n 2, 1) := by decide +kernel
theorem dL_law_335 : decode cL_law 335 = .ok (.aload_n 0, 1) := by decide +kernel
theorem dL_law_336 : decode cL_law 336 = .ok (.iload_n 3, 1) := by decide +kernel
theorem dL_law_337 : decode cL_law 337 = .ok (.iconst 1, 1) := by decide +kernel
theorem dL_law_338 : decode cL_law 338 = .ok (.iadd, 1) := by decide +kernel
theorem dL_law_339 : decode cL_law 339 = .ok (.iaload, 1) := by decide +kernel
theorem dL_law_340 : decode cL_law 340 = .ok (.aload_n 0, 1) := by decide +kernel
theorem dL_law_341 : decode cL_law 341 = .ok (.iload_n 3, 1) := by decide +kernel
theorem dL_law_342 : decode cL_law 342 = .ok (.iconst 2, 1) := by decide +kernel
theorem dL_law_343 : decode cL_law 343 = .ok (.iadd, 1) := by decide +kernel
theorem dL_law_344 : decode cL_law 344 = .ok (.iaload, 1) := by decide +kernel
theorem dL_law_345 : decode cL_law 345 = .ok (.invokevirtual 44, 3) := by decide +kernel
theorem dL_law_348 : decode cL_law 348 = .ok (.if_icmp .eq 522, 3) := by decide +kernel
theorem dL_law_351 : decode cL_law 351 = .ok (.iconst 0, 1) := by decide +kernel
theorem dL_law_352 : decode cL_law 352 = .ok (.ireturn, 1) := by decide +kernel
theorem dL_law_353 : decode cL_law 353 = .ok (.aload_n 1, 1) := by decide +kernel
theorem dL_law_354 : decode cL_law 354 = .ok (.invokevirtual 45, 3) := by decide +kernel
theorem dL_law_357 : decode cL_law 357 = .ok (.aload_n 2, 1) := by decide +kernel
theorem dL_law_358 : decode cL_law 358 = .ok (.invokevirtual 48, 3) := by decide +kernel
theorem dL_law_361 : decode cL_law 361 = .ok (.if_icmp .eq 509, 3) := by decide +kernel
theorem dL_law_364 : decode cL_law 364 = .ok (.iconst 0, 1) := by decide +kernel
theorem dL_law_365 : decode cL_law 365 = .ok (.ireturn, 1) := by decide +kernel
theorem dL_law_366 : decode cL_law 366 = .ok (.aload_n 1, 1) := by decide +kernel
theorem dL_law_367 : decode cL_law 367 = .ok (.aload_n 0, 1) := by decide +kernel
theorem dL_law_368 : decode cL_law 368 = .ok (.iload_n 3, 1) := by decide +kernel
theorem dL_law_369 : decode cL_law 369 = .ok (.iconst 1, 1) := by decide +kernel
theorem dL_law_370 : decode cL_law 370 = .ok (.iadd, 1) := by decide +kernel
theorem dL_law_371 : decode cL_law 371 = .ok (.iaload, 1) := by decide +kernel
theorem dL_law_372 : decode cL_law 372 = .ok (.aload_n 0, 1) := by decide +kernel
theorem dL_law_373 : decode cL_law 373 = .ok (.iload_n 3, 1) := by decide +kernel
theorem dL_law_374 : decode cL_law 374 = .ok (.iconst 2, 1) := by decide +kernel
theorem dL_law_375 : decode cL_law 375 = .ok (.iadd, 1) := by decide +kernel
theorem dL_law_376 : decode cL_law 376 = .ok (.iaload, 1) := by decide +kernel
theorem dL_law_377 : decode cL_law 377 = .ok (.invokevirtual 49, 3) := by decide +kernel
theorem dL_law_380 : decode cL_law 380 = .ok (.aload_n 2, 1) := by decide +kernel
theorem dL_law_381 : decode cL_law 381 = .ok (.aload_n 0, 1) := by decide +kernel
theorem dL_law_382 : decode cL_law 382 = .ok (.iload_n 3, 1) := by decide +kernel
theorem dL_law_383 : decode cL_law 383 = .ok (.iconst 1, 1) := by decide +kernel
theorem dL_law_384 : decode cL_law 384 = .ok (.iadd, 1) := by decide +kernel
theorem dL_law_385 : decode cL_law 385 = .ok (.iaload, 1) := by decide +kernel
theorem dL_law_386 : decode cL_law 386 = .ok (.aload_n 0, 1) := by decide +kernel
theorem dL_law_387 : decode cL_law 387 = .ok (.iload_n 3, 1) := by decide +kernel
theorem dL_law_388 : decode cL_law 388 = .ok (.iconst 2, 1) := by decide +kernel
theorem dL_law_389 : decode cL_law 389 = .ok (.iadd, 1) := by decide +kernel
theorem dL_law_390 : decode cL_law 390 = .ok (.iaload, 1) := by decide +kernel
theorem dL_law_391 : decode cL_law 391 = .ok (.invokevirtual 52, 3) := by decide +kernel
theorem dL_law_394 : decode cL_law 394 = .ok (.if_icmp .eq 476, 3) := by decide +kernel
theorem dL_law_397 : decode cL_law 397 = .ok (.iconst 0, 1) := by decide +kernel
theorem dL_law_398 : decode cL_law 398 = .ok (.ireturn, 1) := by decide +kernel
theorem dL_law_399 : decode cL_law 399 = .ok (.aload_n 1, 1) := by decide +kernel
theorem dL_law_400 : decode cL_law 400 = .ok (.aload_n 0, 1) := by decide +kernel
theorem dL_law_401 : decode cL_law 401 = .ok (.iload_n 3, 1) := by decide +kernel
theorem dL_law_402 : decode cL_law 402 = .ok (.iconst 1, 1) := by decide +kernel
theorem dL_law_403 : decode cL_law 403 = .ok (.iadd, 1) := by decide +kernel
theorem dL_law_404 : decode cL_law 404 = .ok (.iaload, 1) := by decide +kernel
theorem dL_law_405 : decode cL_law 405 = .ok (.aload_n 0, 1) := by decide +kernel
theorem dL_law_406 : decode cL_law 406 = .ok (.iload_n 3, 1) := by decide +kernel
theorem dL_law_407 : decode cL_law 407 = .ok (.iconst 2, 1) := by decide +kernel
theorem dL_law_408 : decode cL_law 408 = .ok (.iadd, 1) := by decide +kernel
theorem dL_law_409 : decode cL_law 409 = .ok (.iaload, 1) := by decide +kernel
theorem dL_law_410 : decode cL_law 410 = .ok (.aload_n 0, 1) := by decide +kernel
theorem dL_law_411 : decode cL_law 411 = .ok (.iload_n 3, 1) := by decide +kernel
theorem dL_law_412 : decode cL_law 412 = .ok (.iconst 3, 1) := by decide +kernel
theorem dL_law_413 : decode cL_law 413 = .ok (.iadd, 1) := by decide +kernel
theorem dL_law_414 : decode cL_law 414 = .ok (.iaload, 1) := by decide +kernel
theorem dL_law_415 : decode cL_law 415 = .ok (.invokevirtual 53, 3) := by decide +kernel
theorem dL_law_418 : decode cL_law 418 = .ok (.aload_n 2, 1) := by decide +kernel
theorem dL_law_419 : decode cL_law 419 = .ok (.aload_n 0, 1) := by decide +kernel
theorem dL_law_420 : decode cL_law 420 = .ok (.iload_n 3, 1) := by decide +kernel
theorem dL_law_421 : decode cL_law 421 = .ok (.iconst 1, 1) := by decide +kernel
theorem dL_law_422 : decode cL_law 422 = .ok (.iadd, 1) := by decide +kernel
theorem dL_law_423 : decode cL_law 423 = .ok (.iaload, 1) := by decide +kernel
theorem dL_law_424 : decode cL_law 424 = .ok (.aload_n 0, 1) := by decide +kernel
theorem dL_law_425 : decode cL_law 425 = .ok (.iload_n 3, 1) := by decide +kernel
theorem dL_law_426 : decode cL_law 426 = .ok (.iconst 2, 1) := by decide +kernel
theorem dL_law_427 : decode cL_law 427 = .ok (.iadd, 1) := by decide +kernel
theorem dL_law_428 : decode cL_law 428 = .ok (.iaload, 1) := by decide +kernel
theorem dL_law_429 : decode cL_law 429 = .ok (.aload_n 0, 1) := by decide +kernel
theorem dL_law_430 : decode cL_law 430 = .ok (.iload_n 3, 1) := by decide +kernel
theorem dL_law_431 : decode cL_law 431 = .ok (.iconst 3, 1) := by decide +kernel
theorem dL_law_432 : decode cL_law 432 = .ok (.iadd, 1) := by decide +kernel
theorem dL_law_433 : decode cL_law 433 = .ok (.iaload, 1) := by decide +kernel
theorem dL_law_434 : decode cL_law 434 = .ok (.invokevirtual 57, 3) := by decide +kernel
theorem dL_law_437 : decode cL_law 437 = .ok (.if_icmp .eq 433, 3) := by decide +kernel
theorem dL_law_440 : decode cL_law 440 = .ok (.iconst 0, 1) := by decide +kernel
theorem dL_law_441 : decode cL_law 441 = .ok (.ireturn, 1) := by decide +kernel
theorem dL_law_442 : decode cL_law 442 = .ok (.aload_n 1, 1) := by decide +kernel
theorem dL_law_443 : decode cL_law 443 = .ok (.aload_n 0, 1) := by decide +kernel
theorem dL_law_444 : decode cL_law 444 = .ok (.iload_n 3, 1) := by decide +kernel
theorem dL_law_445 : decode cL_law 445 = .ok (.iconst 1, 1) := by decide +kernel
theorem dL_law_446 : decode cL_law 446 = .ok (.iadd, 1) := by decide +kernel
theorem dL_law_447 : decode cL_law 447 = .ok (.iaload, 1) := by decide +kernel
theorem dL_law_448 : decode cL_law 448 = .ok (.aload_n 0, 1) := by decide +kernel
theorem dL_law_449 : decode cL_law 449 = .ok (.iload_n 3, 1) := by decide +kernel
theorem dL_law_450 : decode cL_law 450 = .ok (.iconst 2, 1) := by decide +kernel
theorem dL_law_451 : decode cL_law 451 = .ok (.iadd, 1) := by decide +kernel
theorem dL_law_452 : decode cL_law 452 = .ok (.iaload, 1) := by decide +kernel
theorem dL_law_453 : decode cL_law 453 = .ok (.invokevirtual 58, 3) := by decide +kernel
theorem dL_law_456 : decode cL_law 456 = .ok (.aload_n 2, 1) := by decide +kernel
theorem dL_law_457 : decode cL_law 457 = .ok (.aload_n 0, 1) := by decide +kernel
theorem dL_law_458 : decode cL_law 458 = .ok (.iload_n 3, 1) := by decide +kernel
theorem dL_law_459 : decode cL_law 459 = .ok (.iconst 1, 1) := by decide +kernel
theorem dL_law_460 : decode cL_law 460 = .ok (.iadd, 1) := by decide +kernel
theorem dL_law_461 : decode cL_law 461 = .ok (.iaload, 1) := by decide +kernel
theorem dL_law_462 : decode cL_law 462 = .ok (.aload_n 0, 1) := by decide +kernel
theorem dL_law_463 : decode cL_law 463 = .ok (.iload_n 3, 1) := by decide +kernel
theorem dL_law_464 : decode cL_law 464 = .ok (.iconst 2, 1) := by decide +kernel
theorem dL_law_465 : decode cL_law 465 = .ok (.iadd, 1) := by decide +kernel
theorem dL_law_466 : decode cL_law 466 = .ok (.iaload, 1) := by decide +kernel
theorem dL_law_467 : decode cL_law 467 = .ok (.invokevirtual 61, 3) := by decide +kernel
theorem dL_law_470 : decode cL_law 470 = .ok (.if_icmp .eq 400, 3) := by decide +kernel
theorem dL_law_473 : decode cL_law 473 = .ok (.iconst 0, 1) := by decide +kernel
theorem dL_law_474 : decode cL_law 474 = .ok (.ireturn, 1) := by decide +kernel
theorem dL_law_475 : decode cL_law 475 = .ok (.aload_n 1, 1) := by decide +kernel
theorem dL_law_476 : decode cL_law 476 = .ok (.aload_n 0, 1) := by decide +kernel
theorem dL_law_477 : decode cL_law 477 = .ok (.iload_n 3, 1) := by decide +kernel
theorem dL_law_478 : decode cL_law 478 = .ok (.iconst 1, 1) := by decide +kernel
theorem dL_law_479 : decode cL_law 479 = .ok (.iadd, 1) := by decide +kernel
theorem dL_law_480 : decode cL_law 480 = .ok (.iaload, 1) := by decide +kernel
theorem dL_law_481 : decode cL_law 481 = .ok (.aload_n 0, 1) := by decide +kernel
theorem dL_law_482 : decode cL_law 482 = .ok (.iload_n 3, 1) := by decide +kernel
theorem dL_law_483 : decode cL_law 483 = .ok (.iconst 2, 1) := by decide +kernel
theorem dL_law_484 : decode cL_law 484 = .ok (.iadd, 1) := by decide +kernel
theorem dL_law_485 : decode cL_law 485 = .ok (.iaload, 1) := by decide +kernel
theorem dL_law_486 : decode cL_law 486 = .ok (.aload_n 0, 1) := by decide +kernel
theorem dL_law_487 : decode cL_law 487 = .ok (.iload_n 3, 1) := by decide +kernel
theorem dL_law_488 : decode cL_law 488 = .ok (.iconst 3, 1) := by decide +kernel
theorem dL_law_489 : decode cL_law 489 = .ok (.iadd, 1) := by decide +kernel
theorem dL_law_490 : decode cL_law 490 = .ok (.iaload, 1) := by decide +kernel
theorem dL_law_491 : decode cL_law 491 = .ok (.invokevirtual 62, 3) := by decide +kernel
theorem dL_law_494 : decode cL_law 494 = .ok (.aload_n 2, 1) := by decide +kernel
theorem dL_law_495 : decode cL_law 495 = .ok (.aload_n 0, 1) := by decide +kernel
theorem dL_law_496 : decode cL_law 496 = .ok (.iload_n 3, 1) := by decide +kernel
theorem dL_law_497 : decode cL_law 497 = .ok (.iconst 1, 1) := by decide +kernel
theorem dL_law_498 : decode cL_law 498 = .ok (.iadd, 1) := by decide +kernel
theorem dL_law_499 : decode cL_law 499 = .ok (.iaload, 1) := by decide +kernel
theorem dL_law_500 : decode cL_law 500 = .ok (.aload_n 0, 1) := by decide +kernel
theorem dL_law_501 : decode cL_law 501 = .ok (.iload_n 3, 1) := by decide +kernel
theorem dL_law_502 : decode cL_law 502 = .ok (.iconst 2, 1) := by decide +kernel
theorem dL_law_503 : decode cL_law 503 = .ok (.iadd, 1) := by decide +kernel
theorem dL_law_504 : decode cL_law 504 = .ok (.iaload, 1) := by decide +kernel
theorem dL_law_505 : decode cL_law 505 = .ok (.aload_n 0, 1) := by decide +kernel
theorem dL_law_506 : decode cL_law 506 = .ok (.iload_n 3, 1) := by decide +kernel
theorem dL_law_507 : decode cL_law 507 = .ok (.iconst 3, 1) := by decide +kernel
theorem dL_law_508 : decode cL_law 508 = .ok (.iadd, 1) := by decide +kernel
theorem dL_law_509 : decode cL_law 509 = .ok (.iaload, 1) := by decide +kernel
theorem dL_law_510 : decode cL_law 510 = .ok (.invokevirtual 65, 3) := by decide +kernel
theorem dL_law_513 : decode cL_law 513 = .ok (.if_icmp .eq 357, 3) := by decide +kernel
theorem dL_law_516 : decode cL_law 516 = .ok (.iconst 0, 1) := by decide +kernel
theorem dL_law_517 : decode cL_law 517 = .ok (.ireturn, 1) := by decide +kernel
theorem dL_law_518 : decode cL_law 518 = .ok (.aload_n 1, 1) := by decide +kernel
theorem dL_law_519 : decode cL_law 519 = .ok (.aload_n 0, 1) := by decide +kernel
theorem dL_law_520 : decode cL_law 520 = .ok (.iload_n 3, 1) := by decide +kernel
theorem dL_law_521 : decode cL_law 521 = .ok (.iconst 1, 1) := by decide +kernel
theorem dL_law_522 : decode cL_law 522 = .ok (.iadd, 1) := by decide +kernel
theorem dL_law_523 : decode cL_law 523 = .ok (.iaload, 1) := by decide +kernel
theorem dL_law_524 : decode cL_law 524 = .ok (.aload_n 0, 1) := by decide +kernel
theorem dL_law_525 : decode cL_law 525 = .ok (.iload_n 3, 1) := by decide +kernel
theorem dL_law_526 : decode cL_law 526 = .ok (.iconst 2, 1) := by decide +kernel
theorem dL_law_527 : decode cL_law 527 = .ok (.iadd, 1) := by decide +kernel
theorem dL_law_528 : decode cL_law 528 = .ok (.iaload, 1) := by decide +kernel
theorem dL_law_529 : decode cL_law 529 = .ok (.aload_n 0, 1) := by decide +kernel
theorem dL_law_530 : decode cL_law 530 = .ok (.iload_n 3, 1) := by decide +kernel
theorem dL_law_531 : decode cL_law 531 = .ok (.iconst 3, 1) := by decide +kernel
theorem dL_law_532 : decode cL_law 532 = .ok (.iadd, 1) := by decide +kernel
theorem dL_law_533 : decode cL_law 533 = .ok (.iaload, 1) := by decide +kernel
theorem dL_law_534 : decode cL_law 534 = .ok (.invokevirtual 66, 3) := by decide +kernel
theorem dL_law_537 : decode cL_law 537 = .ok (.aload_n 2, 1) := by decide +kernel
theorem dL_law_538 : decode cL_law 538 = .ok (.aload_n 0, 1) := by decide +kernel
theorem dL_law_539 : decode cL_law 539 = .ok (.iload_n 3, 1) := by decide +kernel
theorem dL_law_540 : decode cL_law 540 = .ok (.iconst 1, 1) := by decide +kernel
theorem dL_law_541 : decode cL_law 541 = .ok (.iadd, 1) := by decide +kernel
theorem dL_law_542 : decode cL_law 542 = .ok (.iaload, 1) := by decide +kernel
theorem dL_law_543 : decode cL_law 543 = .ok (.aload_n 0, 1) := by decide +kernel
theorem dL_law_544 : decode cL_law 544 = .ok (.iload_n 3, 1) := by decide +kernel
theorem dL_law_545 : decode cL_law 545 = .ok (.iconst 2, 1) := by decide +kernel
theorem dL_law_546 : decode cL_law 546 = .ok (.iadd, 1) := by decide +kernel
theorem dL_law_547 : decode cL_law 547 = .ok (.iaload, 1) := by decide +kernel
theorem dL_law_548 : decode cL_law 548 = .ok (.aload_n 0, 1) := by decide +kernel
theorem dL_law_549 : decode cL_law 549 = .ok (.iload_n 3, 1) := by decide +kernel
theorem dL_law_550 : decode cL_law 550 = .ok (.iconst 3, 1) := by decide +kernel
theorem dL_law_551 : decode cL_law 551 = .ok (.iadd, 1) := by decide +kernel
theorem dL_law_552 : decode cL_law 552 = .ok (.iaload, 1) := by decide +kernel
theorem dL_law_553 : decode cL_law 553 = .ok (.invokevirtual 69, 3) := by decide +kernel
theorem dL_law_556 : decode cL_law 556 = .ok (.if_icmp .eq 314, 3) := by decide +kernel
theorem dL_law_559 : decode cL_law 559 = .ok (.iconst 0, 1) := by decide +kernel
theorem dL_law_560 : decode cL_law 560 = .ok (.ireturn, 1) := by decide +kernel
theorem dL_law_561 : decode cL_law 561 = .ok (.aload_n 1, 1) := by decide +kernel
theorem dL_law_562 : decode cL_law 562 = .ok (.aload_n 0, 1) := by decide +kernel
theorem dL_law_563 : decode cL_law 563 = .ok (.iload_n 3, 1) := by decide +kernel
theorem dL_law_564 : decode cL_law 564 = .ok (.iconst 1, 1) := by decide +kernel
theorem dL_law_565 : decode cL_law 565 = .ok (.iadd, 1) := by decide +kernel
theorem dL_law_566 : decode cL_law 566 = .ok (.iaload, 1) := by decide +kernel
theorem dL_law_567 : decode cL_law 567 = .ok (.aload_n 0, 1) := by decide +kernel
theorem dL_law_568 : decode cL_law 568 = .ok (.iload_n 3, 1) := by decide +kernel
theorem dL_law_569 : decode cL_law 569 = .ok (.iconst 2, 1) := by decide +kernel
theorem dL_law_570 : decode cL_law 570 = .ok (.iadd, 1) := by decide +kernel
theorem dL_law_571 : decode cL_law 571 = .ok (.iaload, 1) := by decide +kernel
theorem dL_law_572 : decode cL_law 572 = .ok (.invokevirtual 70, 3) := by decide +kernel
theorem dL_law_575 : decode cL_law 575 = .ok (.aload_n 2, 1) := by decide +kernel
theorem dL_law_576 : decode cL_law 576 = .ok (.aload_n 0, 1) := by decide +kernel
theorem dL_law_577 : decode cL_law 577 = .ok (.iload_n 3, 1) := by decide +kernel
theorem dL_law_578 : decode cL_law 578 = .ok (.iconst 1, 1) := by decide +kernel
theorem dL_law_579 : decode cL_law 579 = .ok (.iadd, 1) := by decide +kernel
theorem dL_law_580 : decode cL_law 580 = .ok (.iaload, 1) := by decide +kernel
theorem dL_law_581 : decode cL_law 581 = .ok (.aload_n 0, 1) := by decide +kernel
theorem dL_law_582 : decode cL_law 582 = .ok (.iload_n 3, 1) := by decide +kernel
theorem dL_law_583 : decode cL_law 583 = .ok (.iconst 2, 1) := by decide +kernel
theorem dL_law_584 : decode cL_law 584 = .ok (.iadd, 1) := by decide +kernel
theorem dL_law_585 : decode cL_law 585 = .ok (.iaload, 1) := by decide +kernel
theorem dL_law_586 : decode cL_law 586 = .ok (.invokevirtual 73, 3) := by decide +kernel
theorem dL_law_589 : decode cL_law 589 = .ok (.if_icmp .eq 281, 3) := by decide +kernel
theorem dL_law_592 : decode cL_law 592 = .ok (.iconst 0, 1) := by decide +kernel
theorem dL_law_593 : decode cL_law 593 = .ok (.ireturn, 1) := by decide +kernel
theorem dL_law_594 : decode cL_law 594 = .ok (.aload_n 1, 1) := by decide +kernel
theorem dL_law_595 : decode cL_law 595 = .ok (.aload_n 0, 1) := by decide +kernel
theorem dL_law_596 : decode cL_law 596 = .ok (.iload_n 3, 1) := by decide +kernel
theorem dL_law_597 : decode cL_law 597 = .ok (.iconst 1, 1) := by decide +kernel
theorem dL_law_598 : decode cL_law 598 = .ok (.iadd, 1) := by decide +kernel
theorem dL_law_599 : decode cL_law 599 = .ok (.iaload, 1) := by decide +kernel
theorem dL_law_600 : decode cL_law 600 = .ok (.aload_n 0, 1) := by decide +kernel
theorem dL_law_601 : decode cL_law 601 = .ok (.iload_n 3, 1) := by decide +kernel
theorem dL_law_602 : decode cL_law 602 = .ok (.iconst 2, 1) := by decide +kernel
theorem dL_law_603 : decode cL_law 603 = .ok (.iadd, 1) := by decide +kernel
theorem dL_law_604 : decode cL_law 604 = .ok (.iaload, 1) := by decide +kernel
theorem dL_law_605 : decode cL_law 605 = .ok (.invokevirtual 74, 3) := by decide +kernel
theorem dL_law_608 : decode cL_law 608 = .ok (.aload_n 2, 1) := by decide +kernel
theorem dL_law_609 : decode cL_law 609 = .ok (.aload_n 0, 1) := by decide +kernel
theorem dL_law_610 : decode cL_law 610 = .ok (.iload_n 3, 1) := by decide +kernel
theorem dL_law_611 : decode cL_law 611 = .ok (.iconst 1, 1) := by decide +kernel
theorem dL_law_612 : decode cL_law 612 = .ok (.iadd, 1) := by decide +kernel
theorem dL_law_613 : decode cL_law 613 = .ok (.iaload, 1) := by decide +kernel
theorem dL_law_614 : decode cL_law 614 = .ok (.aload_n 0, 1) := by decide +kernel
theorem dL_law_615 : decode cL_law 615 = .ok (.iload_n 3, 1) := by decide +kernel
theorem dL_law_616 : decode cL_law 616 = .ok (.iconst 2, 1) := by decide +kernel
theorem dL_law_617 : decode cL_law 617 = .ok (.iadd, 1) := by decide +kernel
theorem dL_law_618 : decode cL_law 618 = .ok (.iaload, 1) := by decide +kernel
theorem dL_law_619 : decode cL_law 619 = .ok (.invokevirtual 77, 3) := by decide +kernel
theorem dL_law_622 : decode cL_law 622 = .ok (.if_icmp .eq 248, 3) := by decide +kernel
theorem dL_law_625 : decode cL_law 625 = .ok (.iconst 0, 1) := by decide +kernel
theorem dL_law_626 : decode cL_law 626 = .ok (.ireturn, 1) := by decide +kernel
theorem dL_law_627 : decode cL_law 627 = .ok (.aload_n 1, 1) := by decide +kernel
theorem dL_law_628 : decode cL_law 628 = .ok (.aload_n 0, 1) := by decide +kernel
theorem dL_law_629 : decode cL_law 629 = .ok (.iload_n 3, 1) := by decide +kernel
theorem dL_law_630 : decode cL_law 630 = .ok (.iconst 1, 1) := by decide +kernel
theorem dL_law_631 : decode cL_law 631 = .ok (.iadd, 1) := by decide +kernel
theorem dL_law_632 : decode cL_law 632 = .ok (.iaload, 1) := by decide +kernel
theorem dL_law_633 : decode cL_law 633 = .ok (.invokevirtual 78, 3) := by decide +kernel
theorem dL_law_636 : decode cL_law 636 = .ok (.aload_n 2, 1) := by decide +kernel
theorem dL_law_637 : decode cL_law 637 = .ok (.aload_n 0, 1) := by decide +kernel
theorem dL_law_638 : decode cL_law 638 = .ok (.iload_n 3, 1) := by decide +kernel
theorem dL_law_639 : decode cL_law 639 = .ok (.iconst 1, 1) := by decide +kernel
theorem dL_law_640 : decode cL_law 640 = .ok (.iadd, 1) := by decide +kernel
theorem dL_law_641 : decode cL_law 641 = .ok (.iaload, 1) := by decide +kernel
theorem dL_law_642 : decode cL_law 642 = .ok (.invokevirtual 81, 3) := by decide +kernel
theorem dL_law_645 : decode cL_law 645 = .ok (.if_icmp .eq 225, 3) := by decide +kernel
theorem dL_law_648 : decode cL_law 648 = .ok (.iconst 0, 1) := by decide +kernel
theorem dL_law_649 : decode cL_law 649 = .ok (.ireturn, 1) := by decide +kernel
theorem dL_law_650 : decode cL_law 650 = .ok (.aload_n 1, 1) := by decide +kernel
theorem dL_law_651 : decode cL_law 651 = .ok (.aload_n 0, 1) := by decide +kernel
theorem dL_law_652 : decode cL_law 652 = .ok (.iload_n 3, 1) := by decide +kernel
theorem dL_law_653 : decode cL_law 653 = .ok (.iconst 1, 1) := by decide +kernel
theorem dL_law_654 : decode cL_law 654 = .ok (.iadd, 1) := by decide +kernel
theorem dL_law_655 : decode cL_law 655 = .ok (.iaload, 1) := by decide +kernel
theorem dL_law_656 : decode cL_law 656 = .ok (.invokevirtual 82, 3) := by decide +kernel
theorem dL_law_659 : decode cL_law 659 = .ok (.aload_n 2, 1) := by decide +kernel
theorem dL_law_660 : decode cL_law 660 = .ok (.aload_n 0, 1) := by decide +kernel
theorem dL_law_661 : decode cL_law 661 = .ok (.iload_n 3, 1) := by decide +kernel
theorem dL_law_662 : decode cL_law 662 = .ok (.iconst 1, 1) := by decide +kernel
theorem dL_law_663 : decode cL_law 663 = .ok (.iadd, 1) := by decide +kernel
theorem dL_law_664 : decode cL_law 664 = .ok (.iaload, 1) := by decide +kernel
theorem dL_law_665 : decode cL_law 665 = .ok (.invokevirtual 85, 3) := by decide +kernel
theorem dL_law_668 : decode cL_law 668 = .ok (.if_icmp .eq 202, 3) := by decide +kernel
theorem dL_law_671 : decode cL_law 671 = .ok (.iconst 0, 1) := by decide +kernel
theorem dL_law_672 : decode cL_law 672 = .ok (.ireturn, 1) := by decide +kernel
theorem dL_law_673 : decode cL_law 673 = .ok (.aload_n 1, 1) := by decide +kernel
theorem dL_law_674 : decode cL_law 674 = .ok (.aload_n 0, 1) := by decide +kernel
theorem dL_law_675 : decode cL_law 675 = .ok (.iload_n 3, 1) := by decide +kernel
theorem dL_law_676 : decode cL_law 676 = .ok (.iconst 1, 1) := by decide +kernel
theorem dL_law_677 : decode cL_law 677 = .ok (.iadd, 1) := by decide +kernel
theorem dL_law_678 : decode cL_law 678 = .ok (.iaload, 1) := by decide +kernel
theorem dL_law_679 : decode cL_law 679 = .ok (.invokevirtual 86, 3) := by decide +kernel
theorem dL_law_682 : decode cL_law 682 = .ok (.aload_n 2, 1) := by decide +kernel
theorem dL_law_683 : decode cL_law 683 = .ok (.aload_n 0, 1) := by decide +kernel
theorem dL_law_684 : decode cL_law 684 = .ok (.iload_n 3, 1) := by decide +kernel
theorem dL_law_685 : decode cL_law 685 = .ok (.iconst 1, 1) := by decide +kernel
theorem dL_law_686 : decode cL_law 686 = .ok (.iadd, 1) := by decide +kernel
theorem dL_law_687 : decode cL_law 687 = .ok (.iaload, 1) := by decide +kernel
theorem dL_law_688 : decode cL_law 688 = .ok (.invokevirtual 89, 3) := by decide +kernel
theorem dL_law_691 : decode cL_law 691 = .ok (.if_icmp .eq 179, 3) := by decide +kernel
theorem dL_law_694 : decode cL_law 694 = .ok (.iconst 0, 1) := by decide +kernel
theorem dL_law_695 : decode cL_law 695 = .ok (.ireturn, 1) := by decide +kernel
theorem dL_law_696 : decode cL_law 696 = .ok (.aload_n 1, 1) := by decide +kernel
theorem dL_law_697 : decode cL_law 697 = .ok (.aload_n 0, 1) := by decide +kernel
theorem dL_law_698 : decode cL_law 698 = .ok (.iload_n 3, 1) := by decide +kernel
theorem dL_law_699 : decode cL_law 699 = .ok (.iconst 1, 1) := by decide +kernel
theorem dL_law_700 : decode cL_law 700 = .ok (.iadd, 1) := by decide +kernel
theorem dL_law_701 : decode cL_law 701 = .ok (.iaload, 1) := by decide +kernel
theorem dL_law_702 : decode cL_law 702 = .ok (.aload_n 0, 1) := by decide +kernel
theorem dL_law_703 : decode cL_law 703 = .ok (.iload_n 3, 1) := by decide +kernel
theorem dL_law_704 : decode cL_law 704 = .ok (.iconst 2, 1) := by decide +kernel
theorem dL_law_705 : decode cL_law 705 = .ok (.iadd, 1) := by decide +kernel
theorem dL_law_706 : decode cL_law 706 = .ok (.iaload, 1) := by decide +kernel
theorem dL_law_707 : decode cL_law 707 = .ok (.invokevirtual 90, 3) := by decide +kernel
theorem dL_law_710 : decode cL_law 710 = .ok (.aload_n 2, 1) := by decide +kernel
theorem dL_law_711 : decode cL_law 711 = .ok (.aload_n 0, 1) := by decide +kernel
theorem dL_law_712 : decode cL_law 712 = .ok (.iload_n 3, 1) := by decide +kernel
theorem dL_law_713 : decode cL_law 713 = .ok (.iconst 1, 1) := by decide +kernel
theorem dL_law_714 : decode cL_law 714 = .ok (.iadd, 1) := by decide +kernel
theorem dL_law_715 : decode cL_law 715 = .ok (.iaload, 1) := by decide +kernel
theorem dL_law_716 : decode cL_law 716 = .ok (.aload_n 0, 1) := by decide +kernel
theorem dL_law_717 : decode cL_law 717 = .ok (.iload_n 3, 1) := by decide +kernel
theorem dL_law_718 : decode cL_law 718 = .ok (.iconst 2, 1) := by decide +kernel
theorem dL_law_719 : decode cL_law 719 = .ok (.iadd, 1) := by decide +kernel
theorem dL_law_720 : decode cL_law 720 = .ok (.iaload, 1) := by decide +kernel
theorem dL_law_721 : decode cL_law 721 = .ok (.invokevirtual 93, 3) := by decide +kernel
theorem dL_law_724 : decode cL_law 724 = .ok (.if_icmp .eq 146, 3) := by decide +kernel
theorem dL_law_727 : decode cL_law 727 = .ok (.iconst 0, 1) := by decide +kernel
theorem dL_law_728 : decode cL_law 728 = .ok (.ireturn, 1) := by decide +kernel
theorem dL_law_729 : decode cL_law 729 = .ok (.aload_n 1, 1) := by decide +kernel
theorem dL_law_730 : decode cL_law 730 = .ok (.aload_n 0, 1) := by decide +kernel
theorem dL_law_731 : decode cL_law 731 = .ok (.iload_n 3, 1) := by decide +kernel
theorem dL_law_732 : decode cL_law 732 = .ok (.iconst 1, 1) := by decide +kernel
theorem dL_law_733 : decode cL_law 733 = .ok (.iadd, 1) := by decide +kernel
theorem dL_law_734 : decode cL_law 734 = .ok (.iaload, 1) := by decide +kernel
theorem dL_law_735 : decode cL_law 735 = .ok (.aload_n 0, 1) := by decide +kernel
theorem dL_law_736 : decode cL_law 736 = .ok (.iload_n 3, 1) := by decide +kernel
theorem dL_law_737 : decode cL_law 737 = .ok (.iconst 2, 1) := by decide +kernel
theorem dL_law_738 : decode cL_law 738 = .ok (.iadd, 1) := by decide +kernel
theorem dL_law_739 : decode cL_law 739 = .ok (.iaload, 1) := by decide +kernel
theorem dL_law_740 : decode cL_law 740 = .ok (.invokevirtual 94, 3) := by decide +kernel
theorem dL_law_743 : decode cL_law 743 = .ok (.aload_n 2, 1) := by decide +kernel
theorem dL_law_744 : decode cL_law 744 = .ok (.aload_n 0, 1) := by decide +kernel
theorem dL_law_745 : decode cL_law 745 = .ok (.iload_n 3, 1) := by decide +kernel
theorem dL_law_746 : decode cL_law 746 = .ok (.iconst 1, 1) := by decide +kernel
theorem dL_law_747 : decode cL_law 747 = .ok (.iadd, 1) := by decide +kernel
theorem dL_law_748 : decode cL_law 748 = .ok (.iaload, 1) := by decide +kernel
theorem dL_law_749 : decode cL_law 749 = .ok (.aload_n 0, 1) := by decide +kernel
theorem dL_law_750 : decode cL_law 750 = .ok (.iload_n 3, 1) := by decide +kernel
theorem dL_law_751 : decode cL_law 751 = .ok (.iconst 2, 1) := by decide +kernel
theorem dL_law_752 : decode cL_law 752 = .ok (.iadd, 1) := by decide +kernel
theorem dL_law_753 : decode cL_law 753 = .ok (.iaload, 1) := by decide +kernel
theorem dL_law_754 : decode cL_law 754 = .ok (.invokevirtual 97, 3) := by decide +kernel
theorem dL_law_757 : decode cL_law 757 = .ok (.if_icmp .eq 113, 3) := by decide +kernel
theorem dL_law_760 : decode cL_law 760 = .ok (.iconst 0, 1) := by decide +kernel
theorem dL_law_761 : decode cL_law 761 = .ok (.ireturn, 1) := by decide +kernel
theorem dL_law_762 : decode cL_law 762 = .ok (.aload_n 1, 1) := by decide +kernel
theorem dL_law_763 : decode cL_law 763 = .ok (.invokevirtual 98, 3) := by decide +kernel
theorem dL_law_766 : decode cL_law 766 = .ok (.aload_n 2, 1) := by decide +kernel
theorem dL_law_767 : decode cL_law 767 = .ok (.invokevirtual 101, 3) := by decide +kernel
theorem dL_law_770 : decode cL_law 770 = .ok (.if_icmp .eq 100, 3) := by decide +kernel
theorem dL_law_773 : decode cL_law 773 = .ok (.iconst 0, 1) := by decide +kernel
theorem dL_law_774 : decode cL_law 774 = .ok (.ireturn, 1) := by decide +kernel
theorem dL_law_775 : decode cL_law 775 = .ok (.aload_n 1, 1) := by decide +kernel
theorem dL_law_776 : decode cL_law 776 = .ok (.invokevirtual 102, 3) := by decide +kernel
theorem dL_law_779 : decode cL_law 779 = .ok (.aload_n 2, 1) := by decide +kernel
theorem dL_law_780 : decode cL_law 780 = .ok (.invokevirtual 105, 3) := by decide +kernel
theorem dL_law_783 : decode cL_law 783 = .ok (.if_icmp .eq 87, 3) := by decide +kernel
theorem dL_law_786 : decode cL_law 786 = .ok (.iconst 0, 1) := by decide +kernel
theorem dL_law_787 : decode cL_law 787 = .ok (.ireturn, 1) := by decide +kernel
theorem dL_law_788 : decode cL_law 788 = .ok (.aload_n 1, 1) := by decide +kernel
theorem dL_law_789 : decode cL_law 789 = .ok (.invokevirtual 106, 3) := by decide +kernel
theorem dL_law_792 : decode cL_law 792 = .ok (.aload_n 2, 1) := by decide +kernel
theorem dL_law_793 : decode cL_law 793 = .ok (.invokevirtual 109, 3) := by decide +kernel
theorem dL_law_796 : decode cL_law 796 = .ok (.if_icmp .eq 74, 3) := by decide +kernel
theorem dL_law_799 : decode cL_law 799 = .ok (.iconst 0, 1) := by decide +kernel
theorem dL_law_800 : decode cL_law 800 = .ok (.ireturn, 1) := by decide +kernel
theorem dL_law_801 : decode cL_law 801 = .ok (.aload_n 1, 1) := by decide +kernel
theorem dL_law_802 : decode cL_law 802 = .ok (.aload_n 0, 1) := by decide +kernel
theorem dL_law_803 : decode cL_law 803 = .ok (.iload_n 3, 1) := by decide +kernel
theorem dL_law_804 : decode cL_law 804 = .ok (.iconst 1, 1) := by decide +kernel
theorem dL_law_805 : decode cL_law 805 = .ok (.iadd, 1) := by decide +kernel
theorem dL_law_806 : decode cL_law 806 = .ok (.iaload, 1) := by decide +kernel
theorem dL_law_807 : decode cL_law 807 = .ok (.invokevirtual 110, 3) := by decide +kernel
theorem dL_law_810 : decode cL_law 810 = .ok (.aload_n 2, 1) := by decide +kernel
theorem dL_law_811 : decode cL_law 811 = .ok (.aload_n 0, 1) := by decide +kernel
theorem dL_law_812 : decode cL_law 812 = .ok (.iload_n 3, 1) := by decide +kernel
theorem dL_law_813 : decode cL_law 813 = .ok (.iconst 1, 1) := by decide +kernel
theorem dL_law_814 : decode cL_law 814 = .ok (.iadd, 1) := by decide +kernel
theorem dL_law_815 : decode cL_law 815 = .ok (.iaload, 1) := by decide +kernel
theorem dL_law_816 : decode cL_law 816 = .ok (.invokevirtual 113, 3) := by decide +kernel
theorem dL_law_819 : decode cL_law 819 = .ok (.if_icmp .eq 51, 3) := by decide +kernel
theorem dL_law_822 : decode cL_law 822 = .ok (.iconst 0, 1) := by decide +kernel
theorem dL_law_823 : decode cL_law 823 = .ok (.ireturn, 1) := by decide +kernel
theorem dL_law_824 : decode cL_law 824 = .ok (.aload_n 1, 1) := by decide +kernel
theorem dL_law_825 : decode cL_law 825 = .ok (.aload_n 0, 1) := by decide +kernel
theorem dL_law_826 : decode cL_law 826 = .ok (.iload_n 3, 1) := by decide +kernel
theorem dL_law_827 : decode cL_law 827 = .ok (.iconst 1, 1) := by decide +kernel
theorem dL_law_828 : decode cL_law 828 = .ok (.iadd, 1) := by decide +kernel
theorem dL_law_829 : decode cL_law 829 = .ok (.iaload, 1) := by decide +kernel
theorem dL_law_830 : decode cL_law 830 = .ok (.invokevirtual 114, 3) := by decide +kernel
theorem dL_law_833 : decode cL_law 833 = .ok (.aload_n 2, 1) := by decide +kernel
theorem dL_law_834 : decode cL_law 834 = .ok (.aload_n 0, 1) := by decide +kernel
theorem dL_law_835 : decode cL_law 835 = .ok (.iload_n 3, 1) := by decide +kernel
theorem dL_law_836 : decode cL_law 836 = .ok (.iconst 1, 1) := by decide +kernel
theorem dL_law_837 : decode cL_law 837 = .ok (.iadd, 1) := by decide +kernel
theorem dL_law_838 : decode cL_law 838 = .ok (.iaload, 1) := by decide +kernel
theorem dL_law_839 : decode cL_law 839 = .ok (.invokevirtual 117, 3) := by decide +kernel
theorem dL_law_842 : decode cL_law 842 = .ok (.if_icmp .eq 28, 3) := by decide +kernel
theorem dL_law_845 : decode cL_law 845 = .ok (.iconst 0, 1) := by decide +kernel
theorem dL_law_846 : decode cL_law 846 = .ok (.ireturn, 1) := by decide +kernel
theorem dL_law_847 : decode cL_law 847 = .ok (.aload_n 1, 1) := by decide +kernel
theorem dL_law_848 : decode cL_law 848 = .ok (.aload_n 0, 1) := by decide +kernel
theorem dL_law_849 : decode cL_law 849 = .ok (.iload_n 3, 1) := by decide +kernel
theorem dL_law_850 : decode cL_law 850 = .ok (.iconst 1, 1) := by decide +kernel
theorem dL_law_851 : decode cL_law 851 = .ok (.iadd, 1) := by decide +kernel
theorem dL_law_852 : decode cL_law 852 = .ok (.iaload, 1) := by decide +kernel
theorem dL_law_853 : decode cL_law 853 = .ok (.invokevirtual 118, 3) := by decide +kernel
theorem dL_law_856 : decode cL_law 856 = .ok (.aload_n 2, 1) := by decide +kernel
theorem dL_law_857 : decode cL_law 857 = .ok (.aload_n 0, 1) := by decide +kernel
theorem dL_law_858 : decode cL_law 858 = .ok (.iload_n 3, 1) := by decide +kernel
theorem dL_law_859 : decode cL_law 859 = .ok (.iconst 1, 1) := by decide +kernel
theorem dL_law_860 : decode cL_law 860 = .ok (.iadd, 1) := by decide +kernel
theorem dL_law_861 : decode cL_law 861 = .ok (.iaload, 1) := by decide +kernel
theorem dL_law_862 : decode cL_law 862 = .ok (.invokevirtual 121, 3) := by decide +kernel
theorem dL_law_865 : decode cL_law 865 = .ok (.if_icmp .eq 5, 3) := by decide +kernel
theorem dL_law_868 : decode cL_law 868 = .ok (.iconst 0, 1) := by decide +kernel
theorem dL_law_869 : decode cL_law 869 = .ok (.ireturn, 1) := by decide +kernel
theorem dL_law_870 : decode cL_law 870 = .ok (.iinc 3 5, 3) := by decide +kernel
theorem dL_law_873 : decode cL_law 873 = .ok (.goto (-855), 3) := by decide +kernel
theorem dL_law_876 : decode cL_law 876 = .ok (.iconst 1, 1) := by decide +kernel
theorem dL_law_877 : decode cL_law 877 = .ok (.ireturn, 1) := by decide +kernel
end
section
/-! WORLDS BY KEYS. A cell's key: its kind and its number among its kind. What a cell refers to is fixed by its key; what changes are whole numbers alone: evS. -/
abbrev evS : Type := (Nat → Nat → Nat → Int32) × (Nat → Nat → Nat → Int64)
/-- a method: its class, bytes, locals, answer -/
abbrev evM : Type := String × ByteArray × Nat × Option FieldType
/-- launch, classes, array classes, addresses, the keys that are, the script -/
abbrev evG : Type := Launch × va_G × (Nat → ClassId) × (Nat → Nat → Nat) × List (Nat × Nat) × Nat × (Nat → Int32)
/-- room, cells, slots, where it ends -/
abbrev evF : Type := Room × Nat × Nat × (List Frame → Array Value → State → State → Prop)
abbrev evl (G : evG) : Launch := G.1
abbrev evD (G : evG) : va_G := G.2.1
abbrev evca (G : evG) : Nat → ClassId := G.2.2.1
abbrev evad (G : evG) : Nat → Nat → Nat := G.2.2.2.1
abbrev evKs (G : evG) : List (Nat × Nat) := G.2.2.2.2.1
abbrev evL (G : evG) : Nat := G.2.2.2.2.2.1
abbrev evxs (G : evG) : Nat → Int32 := G.2.2.2.2.2.2
def evf (ad : Nat → Nat → Nat) (S : evS) (kd x k : Nat) : Value := match evR kd k with
  | some kd' => .ref (ad kd' (evX kd k x))
  | none => .int (S.1 kd x k)
def evc (ca : Nat → ClassId) (ad : Nat → Nat → Nat) (S : evS) (kd x : Nat) : va_E := match evT kd with
  | 0 => .inr (evC kd, (List.range (evN kd)).map (evf ad S kd x))
  | 1 => .inl (ca 0, evN kd, .inl (S.1 kd x))
  | 2 => .inl (ca 1, evN kd, .inr (.inl (S.2 kd x)))
  | 3 => .inl (ca 2, evN kd, .inl (S.1 kd x))
  | _ => .inl (ca (evA kd), evN kd, .inr (.inr (.inr (.inr (fun i => some (ad (evE kd) (evEX kd x i)))))))
def evw (G : evG) (S : evS) : va_W := (evKs G).map fun q => (evad G q.1 q.2, evc (evca G) (evad G) S q.1 q.2)
def evtys (ca : Nat → ClassId) : List (ClassId × FieldType) := [(ca 0, .int), (ca 1, .long), (ca 2, .boolean), (ca 3, .object RX0), (ca 4, .object RX3), (ca 5, .object RX2)]
def evAA (G : evG) : Nat → Prop := fun q => ∃ r ∈ evKs G, evad G r.1 r.2 = q
def evNF : Cond := .fieldLinkNest RX5 92 RX0 "ships" "[LEvenVoyage$Ship;" RX5
def evKK (G : evG) (U : State) : Prop := va_K (evD G) vwCl (evtys (evca G)) U ∧ va_Nw evNF U
/-- the tables' words that are kept over a call -/
def evtb : List Cond := lw_tbl.filter goodWord
theorem ev_in {w : Cond} (h : w ∈ lw_tbl) (g : goodWord w = true) : w ∈ evtb := List.mem_filter.mpr ⟨h, g⟩
def evRO (G : evG) (U : State) (H : Heap) : Prop :=
  va_T .int (evad G 60 0) (evL G) (fun j => .int (evxs G j)) (evAA G) U H ∧
  (va_Z RX3 "AT_FIRST" "[I" (.ref (evad G 61 0)) (evAA G) U H ∧ va_T .int (evad G 61 0) 9 (fun j => .int (evst 61 j)) (evAA G) U H) ∧
  (va_Z RX4 "LEAST_OF_LEG" "[I" (.ref (evad G 62 0)) (evAA G) U H ∧ va_T .int (evad G 62 0) 4 (fun j => .int (evst 62 j)) (evAA G) U H) ∧
  (va_Z RX4 "MOST_OF_LEG" "[I" (.ref (evad G 63 0)) (evAA G) U H ∧ va_T .int (evad G 63 0) 4 (fun j => .int (evst 63 j)) (evAA G) U H)
theorem evRO.moved {G : evG} {u U : State} {H : Heap} (hvm : u.vm.Alike U.vm) (h : evRO G u H) : evRO G U H :=
  ⟨h.1.moved hvm, ⟨h.2.1.1.moved hvm, h.2.1.2.moved hvm⟩, ⟨h.2.2.1.1.moved hvm, h.2.2.1.2.moved hvm⟩, ⟨h.2.2.2.1.moved hvm, h.2.2.2.2.moved hvm⟩⟩
theorem evRO.kept {G : evG} {U : State} {H H1 : Heap} (h : evRO G U H) (hq : ∀ a : Nat, a < H.size → ¬ evAA G a → H1[a]? = H[a]?) : evRO G U H1 :=
  ⟨h.1.kept hq, ⟨h.2.1.1.kept hq, h.2.1.2.kept hq⟩, ⟨h.2.2.1.1.kept hq, h.2.2.1.2.kept hq⟩, ⟨h.2.2.2.1.kept hq, h.2.2.2.2.kept hq⟩⟩
def evCx (M : evM) (p : Program) (s : State) (m : MethodId) (args : Array Value) (meth : Method) (c : Code) : Prop :=
  p.tables.exec = Jvm.exec ∧ c.code = M.2.1 ∧ c.maxLocals = M.2.2.1 ∧ s.vm.findClass M.1 = some m.cls ∧ (∀ w ∈ evtb, w.before args s = true) ∧ meth.sig.returnType = M.2.2.2 ∧ meth.locks = false
/-- at a frame of method M, with the store S -/
def evAt (G : evG) (M : evM) (F : evF) (pc : Nat) (lv : List (Nat × Value)) (st : List Value) (S : evS) : Prop :=
  ∀ (p : Program) (e : Env) (s : State) (m : MethodId) (args : Array Value) (below : List Frame) (meth : Method) (c : Code) (H : Heap) (locs : List Loc) (ls : Array Slot),
    evCx M p s m args meth c → evKK G s → evRO G s s.heap → va_P (evD G) vwCl (evw G S) H → va_D (evAA G) (evw G S) → va_S (evAA G) s.heap H locs → lv_has ls M.2.2.1 lv →
    W p (evl G) e F.1 s m args below meth c H locs F.2.1 F.2.2.1 (F.2.2.2 below args s) (F0 m pc ls st)
def evrm (d : Nat) : Room := { frames := d, cells := 0, slots := 0, locals := 40 * d }
def evPo (G : evG) (Q : Option Value → evS → Prop) : Array Value → State → Outcome → State → Prop := fun _ st o t =>
  (∃ (r : Option Value) (S : evS), o = .returned r ∧ Q r S ∧ va_P (evD G) vwCl (evw G S) t.heap ∧ va_D (evAA G) (evw G S)) ∧ va_F (evAA G) st t
abbrev evFm (G : evG) (d : Nat) (Q : Option Value → evS → Prop) : evF := (evrm d, 0, 0, fun below args s => MQ below (evPo G Q) args s 0 0 (evAA G))
def evPr (G : evG) (as : List Value) (S : evS) : Array Value → State → Prop := va_Pc as (fun U => va_P (evD G) vwCl (evw G S) U.heap ∧ va_D (evAA G) (evw G S) ∧ evKK G U ∧ evRO G U U.heap)
/-- method y, called with as at store S, returns with Q -/
def evSp (G : evG) (y : MethodName) (M : evM) (d : Nat) (as : List Value) (S : evS) (Q : Option Value → evS → Prop) : Prop :=
  Met (evl G) y (.code y M.2.1 M.2.2.1 M.2.2.2 :: evtb) (evrm d) (evPr G as S) (evPo G Q) 0 0 (evAA G)
def evQI (q : Int32 → evS → Prop) : Option Value → evS → Prop := fun o S => ∃ r : Int32, o = some (.int r) ∧ q r S
def evQL (q : Int64 → evS → Prop) : Option Value → evS → Prop := fun o S => ∃ r : Int64, o = some (.long r) ∧ q r S
def evQV (q : evS → Prop) : Option Value → evS → Prop := fun o S => o = none ∧ q S
def evQR (a : Nat) (q : evS → Prop) : Option Value → evS → Prop := fun o S => o = some (.ref a) ∧ q S
def evup (S : evS) (kd x k : Nat) (v : Int32) : evS := (fun a b c => if a = kd ∧ b = x ∧ c = k then v else S.1 a b c, S.2)
def evupL (S : evS) (kd x k : Nat) (v : Int64) : evS := (S.1, fun a b c => if a = kd ∧ b = x ∧ c = k then v else S.2 a b c)
def evcpy (S : evS) (kd x : Nat) (g : Nat → Int32) : evS := (fun a b c => if a = kd ∧ b = x then g c else S.1 a b c, S.2)
def evKOk (kd : Nat) : Prop := evT kd = 0 ∧ vwCl[evC kd]? = some (evQ kd) ∧ (∀ w ∈ u_ws (evQ kd).1 (evQ kd).2.1 (evQ kd).2.2, w ∈ evtb) ∧ (∀ k, k < (evQ kd).2.2 → parseFieldDescriptor ((evQ kd).2.1 k).2.2.1 = some (evY kd k)) ∧ (∀ a, a < (evQ kd).2.2 → ∀ b, b < (evQ kd).2.2 → a ≠ b → ((evQ kd).2.1 a).2.1 ≠ ((evQ kd).2.1 b).2.1) ∧ evN kd = (evQ kd).2.2
def evFL (own : String) (idx kd k : Nat) : Prop := Cond.fieldLink own idx ((evQ kd).2.1 k).1 ((evQ kd).2.1 k).2.1 ((evQ kd).2.1 k).2.2.1 ∈ evtb
theorem evw_at {G : evG} {S : evS} {q0 kd x : Nat} (h : (evKs G)[q0]? = some (kd, x)) : (evw G S)[q0]? = some (evad G kd x, evc (evca G) (evad G) S kd x) := by
  simp [evw, h]
theorem evw_set {G : evG} {S S' : evS} {A : Nat → Prop} {q0 kd x : Nat} {e : va_E} (hD : va_D A (evw G S)) (h0 : (evKs G)[q0]? = some (kd, x)) (he : e = evc (evca G) (evad G) S' kd x) (hne : ∀ a b, ¬ (a = kd ∧ b = x) → evc (evca G) (evad G) S' a b = evc (evca G) (evad G) S a b) :
    (evw G S).set q0 (evad G kd x, e) = evw G S' := by
  subst he
  apply List.ext_getElem?
  intro i
  rw [List.getElem?_set]
  by_cases hi : q0 = i
  · subst hi
    have hlt : q0 < (evw G S).length := (List.getElem?_eq_some_iff.mp (evw_at (S := S) h0)).1
    rw [if_pos rfl, if_pos hlt, evw_at h0]
  · rw [if_neg hi]
    cases hk : (evKs G)[i]? with
    | none => simp [evw, hk]
    | some r =>
      obtain ⟨a, b⟩ := r
      rw [evw_at hk, evw_at hk]
      by_cases hab : a = kd ∧ b = x
      · obtain ⟨rfl, rfl⟩ := hab
        exact absurd (hD.1 q0 i _ _ (evw_at h0) (evw_at hk) rfl) hi
      · rw [hne a b hab]
theorem evc_up {ca : Nat → ClassId} {ad : Nat → Nat → Nat} {S S' : evS} {a b : Nat} (h1 : S'.1 a b = S.1 a b) (h2 : S'.2 a b = S.2 a b) : evc ca ad S' a b = evc ca ad S a b := by
  have hf : evf ad S' a b = evf ad S a b := by
    funext k
    unfold evf
    rw [h1]
  unfold evc
  rw [hf, h1, h2]
theorem evup_ne {S : evS} {kd x k a b : Nat} {v : Int32} (h : ¬ (a = kd ∧ b = x)) : (evup S kd x k v).1 a b = S.1 a b := by
  funext c
  simp only [evup]
  rw [if_neg (fun q => h ⟨q.1, q.2.1⟩)]
theorem evupL_ne {S : evS} {kd x k a b : Nat} {v : Int64} (h : ¬ (a = kd ∧ b = x)) : (evupL S kd x k v).2 a b = S.2 a b := by
  funext c
  simp only [evupL]
  rw [if_neg (fun q => h ⟨q.1, q.2.1⟩)]
theorem evcpy_ne {S : evS} {kd x a b : Nat} {g : Nat → Int32} (h : ¬ (a = kd ∧ b = x)) : (evcpy S kd x g).1 a b = S.1 a b := by
  funext c
  simp only [evcpy]
  rw [if_neg h]
theorem evmap_set {N k : Nat} {f g : Nat → Value} {v : Value} (hk : k < N) (hg : g k = v) (ho : ∀ j, j ≠ k → g j = f j) : ((List.range N).map f).set k v = (List.range N).map g := by
  apply List.ext_getElem?
  intro i
  rw [List.getElem?_set]
  by_cases hi : k = i
  · subst hi
    rw [if_pos rfl, if_pos (by simpa using hk)]
    simp [hk, hg]
  · rw [if_neg hi]
    simp only [List.getElem?_map]
    by_cases hl : i < N
    · simp [hl, ho i (Ne.symm hi)]
    · simp [hl]
theorem evSp.mono {G : evG} {y : MethodName} {M : evM} {d : Nat} {as : List Value} {S : evS} {Q Q' : Option Value → evS → Prop} (h : evSp G y M d as S Q) (hq : ∀ o S', Q o S' → Q' o S') : evSp G y M d as S Q' := by
  unfold evSp Met at h ⊢
  refine MetFree.mono h (fun _ _ h => h) (fun _ _ _ _ _ h => h) (fun _ _ _ _ _ h => ?_)
  obtain ⟨⟨⟨r, S1, e1, e2, e3⟩, e4⟩, e5⟩ := h
  exact ⟨⟨⟨r, S1, e1, hq _ _ e2, e3⟩, e4⟩, e5⟩
theorem evSp.of {G : evG} {y : MethodName} {M : evM} {d : Nat} {as : List Value} {S : evS} {Q : Option Value → evS → Prop} (hy : plainName y.cls = true) (ho : M.1 = y.cls) (hlen : (lg_sl as).length ≤ M.2.2.1) (h : evAt G M (evFm G d Q) 0 (lv_args 0 as) [] S) : evSp G y M d as S Q := by
  refine Met.ofW (cc := M.2.1) (maxL := M.2.2.1) (ret := M.2.2.2) hy rfl ?_
  intro p e s m args below meth c s₁ B hml hv
  obtain ⟨rfl, hP, hD, hK, hR⟩ := hv
  have hts := atoms_spec (ws := (.code y M.2.1 M.2.2.1 M.2.2.2 :: evtb)) B.pre
  rw [lg_entry_eq]
  exact h p e s m _ below meth c s.heap [] _ ⟨B.exec, B.bytes, hml, by rw [ho]; exact findClass_of_methodNamed B.named, fun w h => hts w (List.mem_cons_of_mem _ h), B.returns, B.notSynchronized⟩ hK hR hP hD va_S.rf (lv_entry as hlen)
section EvRows
variable {G : evG} {M : evM} {F : evF} {pc : Nat} {lv lv' : List (Nat × Value)} {st : List Value} {S : evS} {d : Nat} {Q : Option Value → evS → Prop}
theorem ea_loc (ks : List Nat) (h : lv_pick lv ks = lv') (k : evAt G M F pc lv' st S) : evAt G M F pc lv st S :=
  fun p e s m args below meth c H locs ls C h1 h2 h3 h4 h5 hl => k p e s m args below meth c H locs ls C h1 h2 h3 h4 h5 (lv_sub hl ks h)
theorem ea_sto {S' : evS} (h : S = S') (k : evAt G M F pc lv st S') : evAt G M F pc lv st S := h ▸ k
theorem ea_iconst {n : Int} {v : Int32} (hd : decode M.2.1 pc = .ok (.iconst n, 1)) (hv : Int32.ofInt n = v) {pc' : Nat} (hp : pc + 1 = pc') (k : evAt G M F pc' lv (.int v :: st) S) : evAt G M F pc lv (st) S := by
  subst hp
  exact fun p e s m args below meth c H locs ls C h1 h2 h3 h4 h5 hl => lv_iconst C.1 C.2.1 hd hv (k p e s m args below meth c H locs ls C h1 h2 h3 h4 h5 hl)
theorem ea_bipush {n : Int} {v : Int32} (hd : decode M.2.1 pc = .ok (.bipush n, 2)) (hv : (Int8.ofInt n).toInt32 = v) {pc' : Nat} (hp : pc + 2 = pc') (k : evAt G M F pc' lv (.int v :: st) S) : evAt G M F pc lv (st) S := by
  subst hp
  exact fun p e s m args below meth c H locs ls C h1 h2 h3 h4 h5 hl => lv_bipush C.1 C.2.1 hd hv (k p e s m args below meth c H locs ls C h1 h2 h3 h4 h5 hl)
theorem ea_sipush {n : Int} {v : Int32} (hd : decode M.2.1 pc = .ok (.sipush n, 3)) (hv : (Int16.ofInt n).toInt32 = v) {pc' : Nat} (hp : pc + 3 = pc') (k : evAt G M F pc' lv (.int v :: st) S) : evAt G M F pc lv (st) S := by
  subst hp
  exact fun p e s m args below meth c H locs ls C h1 h2 h3 h4 h5 hl => lv_sipush C.1 C.2.1 hd hv (k p e s m args below meth c H locs ls C h1 h2 h3 h4 h5 hl)
theorem ea_lconst {n : Fin 2} {v : Int64} (hd : decode M.2.1 pc = .ok (.lconst n, 1)) (hv : Int64.ofNat (n : Nat) = v) {pc' : Nat} (hp : pc + 1 = pc') (k : evAt G M F pc' lv (.long v :: st) S) : evAt G M F pc lv (st) S := by
  subst hp
  exact fun p e s m args below meth c H locs ls C h1 h2 h3 h4 h5 hl => lv_lconst C.1 C.2.1 hd hv (k p e s m args below meth c H locs ls C h1 h2 h3 h4 h5 hl)
theorem ea_ldc {n : Nat} {v : Int32} (hd : decode M.2.1 pc = .ok (.ldc n, 2)) (hw : Cond.constant M.1 n v ∈ evtb) {pc' : Nat} (hp : pc + 2 = pc') (k : evAt G M F pc' lv (.int v :: st) S) : evAt G M F pc lv (st) S := by
  subst hp
  exact fun p e s m args below meth c H locs ls C h1 h2 h3 h4 h5 hl => lv_ldc C.1 C.2.1 C.2.2.2.1 (C.2.2.2.2.1 _ hw) hd (k p e s m args below meth c H locs ls C h1 h2 h3 h4 h5 hl)
theorem ea_ldcw {n : Nat} {v : Int32} (hd : decode M.2.1 pc = .ok (.ldc_w n, 3)) (hw : Cond.constant M.1 n v ∈ evtb) {pc' : Nat} (hp : pc + 3 = pc') (k : evAt G M F pc' lv (.int v :: st) S) : evAt G M F pc lv (st) S := by
  subst hp
  exact fun p e s m args below meth c H locs ls C h1 h2 h3 h4 h5 hl => lv_ldcw C.1 C.2.1 C.2.2.2.1 (C.2.2.2.2.1 _ hw) hd (k p e s m args below meth c H locs ls C h1 h2 h3 h4 h5 hl)
theorem ea_ldc2 {n : Nat} {v : Int64} (hd : decode M.2.1 pc = .ok (.ldc2_w n, 3)) (hw : Cond.constantLong M.1 n v ∈ evtb) {pc' : Nat} (hp : pc + 3 = pc') (k : evAt G M F pc' lv (.long v :: st) S) : evAt G M F pc lv (st) S := by
  subst hp
  exact fun p e s m args below meth c H locs ls C h1 h2 h3 h4 h5 hl => lv_ldc2 C.1 C.2.1 C.2.2.2.1 (C.2.2.2.2.1 _ hw) hd (k p e s m args below meth c H locs ls C h1 h2 h3 h4 h5 hl)
theorem ea_iload_n {j : Fin 4} {i : Nat} {x : Int32} (hd : decode M.2.1 pc = .ok (.iload_n j, 1)) (hi : (j : Nat) = i) (q : Nat) (hq : lv[q]? = some (i, .int x)) {pc' : Nat} (hp : pc + 1 = pc') (k : evAt G M F pc' lv (.int x :: st) S) : evAt G M F pc lv (st) S := by
  subst hp
  exact fun p e s m args below meth c H locs ls C h1 h2 h3 h4 h5 hl => lv_iload_n C.1 C.2.1 hd hi (lv_at hl q hq) (k p e s m args below meth c H locs ls C h1 h2 h3 h4 h5 hl)
theorem ea_iload {i : Nat} {x : Int32} (hd : decode M.2.1 pc = .ok (.iload i, 2)) (q : Nat) (hq : lv[q]? = some (i, .int x)) {pc' : Nat} (hp : pc + 2 = pc') (k : evAt G M F pc' lv (.int x :: st) S) : evAt G M F pc lv (st) S := by
  subst hp
  exact fun p e s m args below meth c H locs ls C h1 h2 h3 h4 h5 hl => lv_iload C.1 C.2.1 hd (lv_at hl q hq) (k p e s m args below meth c H locs ls C h1 h2 h3 h4 h5 hl)
theorem ea_istore_n {j : Fin 4} {i : Nat} {x : Int32} (hd : decode M.2.1 pc = .ok (.istore_n j, 1)) (hi : (j : Nat) = i) (hn : i < M.2.2.1) (hv : (i, Value.int x) :: lv.filter (fun q => !(q.1 == i) && !(q.1 + 1 == i && q.2.category == 2)) = lv') {pc' : Nat} (hp : pc + 1 = pc') (k : evAt G M F pc' lv' st S) : evAt G M F pc lv (.int x :: st) S := by
  subst hp
  exact fun p e s m args below meth c H locs ls C h1 h2 h3 h4 h5 hl => lv_istore_n C.1 C.2.1 hd hi hl hn hv (fun ls hl => (k p e s m args below meth c H locs ls C h1 h2 h3 h4 h5 hl))
theorem ea_istore {i : Nat} {x : Int32} (hd : decode M.2.1 pc = .ok (.istore i, 2)) (hn : i < M.2.2.1) (hv : (i, Value.int x) :: lv.filter (fun q => !(q.1 == i) && !(q.1 + 1 == i && q.2.category == 2)) = lv') {pc' : Nat} (hp : pc + 2 = pc') (k : evAt G M F pc' lv' st S) : evAt G M F pc lv (.int x :: st) S := by
  subst hp
  exact fun p e s m args below meth c H locs ls C h1 h2 h3 h4 h5 hl => lv_istore C.1 C.2.1 hd hl hn hv (fun ls hl => (k p e s m args below meth c H locs ls C h1 h2 h3 h4 h5 hl))
theorem ea_lload_n {j : Fin 4} {i : Nat} {x : Int64} (hd : decode M.2.1 pc = .ok (.lload_n j, 1)) (hi : (j : Nat) = i) (q : Nat) (hq : lv[q]? = some (i, .long x)) {pc' : Nat} (hp : pc + 1 = pc') (k : evAt G M F pc' lv (.long x :: st) S) : evAt G M F pc lv (st) S := by
  subst hp
  exact fun p e s m args below meth c H locs ls C h1 h2 h3 h4 h5 hl => lv_lload_n C.1 C.2.1 hd hi (lv_at hl q hq) (k p e s m args below meth c H locs ls C h1 h2 h3 h4 h5 hl)
theorem ea_lload {i : Nat} {x : Int64} (hd : decode M.2.1 pc = .ok (.lload i, 2)) (q : Nat) (hq : lv[q]? = some (i, .long x)) {pc' : Nat} (hp : pc + 2 = pc') (k : evAt G M F pc' lv (.long x :: st) S) : evAt G M F pc lv (st) S := by
  subst hp
  exact fun p e s m args below meth c H locs ls C h1 h2 h3 h4 h5 hl => lv_lload C.1 C.2.1 hd (lv_at hl q hq) (k p e s m args below meth c H locs ls C h1 h2 h3 h4 h5 hl)
theorem ea_lstore_n {j : Fin 4} {i : Nat} {x : Int64} (hd : decode M.2.1 pc = .ok (.lstore_n j, 1)) (hi : (j : Nat) = i) (hn : i + 1 < M.2.2.1) (hv : (i, Value.long x) :: lv.filter (fun q => !(q.1 == i) && (!(q.1 == i + 1) && !(q.1 + 1 == i && q.2.category == 2))) = lv') {pc' : Nat} (hp : pc + 1 = pc') (k : evAt G M F pc' lv' st S) : evAt G M F pc lv (.long x :: st) S := by
  subst hp
  exact fun p e s m args below meth c H locs ls C h1 h2 h3 h4 h5 hl => lv_lstore_n C.1 C.2.1 hd hi hl hn hv (fun ls hl => (k p e s m args below meth c H locs ls C h1 h2 h3 h4 h5 hl))
theorem ea_lstore {i : Nat} {x : Int64} (hd : decode M.2.1 pc = .ok (.lstore i, 2)) (hn : i + 1 < M.2.2.1) (hv : (i, Value.long x) :: lv.filter (fun q => !(q.1 == i) && (!(q.1 == i + 1) && !(q.1 + 1 == i && q.2.category == 2))) = lv') {pc' : Nat} (hp : pc + 2 = pc') (k : evAt G M F pc' lv' st S) : evAt G M F pc lv (.long x :: st) S := by
  subst hp
  exact fun p e s m args below meth c H locs ls C h1 h2 h3 h4 h5 hl => lv_lstore C.1 C.2.1 hd hl hn hv (fun ls hl => (k p e s m args below meth c H locs ls C h1 h2 h3 h4 h5 hl))
theorem ea_aload_n {j : Fin 4} {i : Nat} {x : Nat} (hd : decode M.2.1 pc = .ok (.aload_n j, 1)) (hi : (j : Nat) = i) (q : Nat) (hq : lv[q]? = some (i, .ref x)) {pc' : Nat} (hp : pc + 1 = pc') (k : evAt G M F pc' lv (.ref x :: st) S) : evAt G M F pc lv (st) S := by
  subst hp
  exact fun p e s m args below meth c H locs ls C h1 h2 h3 h4 h5 hl => lv_aload_n C.1 C.2.1 hd hi (lv_at hl q hq) (k p e s m args below meth c H locs ls C h1 h2 h3 h4 h5 hl)
theorem ea_aload {i : Nat} {x : Nat} (hd : decode M.2.1 pc = .ok (.aload i, 2)) (q : Nat) (hq : lv[q]? = some (i, .ref x)) {pc' : Nat} (hp : pc + 2 = pc') (k : evAt G M F pc' lv (.ref x :: st) S) : evAt G M F pc lv (st) S := by
  subst hp
  exact fun p e s m args below meth c H locs ls C h1 h2 h3 h4 h5 hl => lv_aload C.1 C.2.1 hd (lv_at hl q hq) (k p e s m args below meth c H locs ls C h1 h2 h3 h4 h5 hl)
theorem ea_astore_n {j : Fin 4} {i : Nat} {x : Nat} (hd : decode M.2.1 pc = .ok (.astore_n j, 1)) (hi : (j : Nat) = i) (hn : i < M.2.2.1) (hv : (i, Value.ref x) :: lv.filter (fun q => !(q.1 == i) && !(q.1 + 1 == i && q.2.category == 2)) = lv') {pc' : Nat} (hp : pc + 1 = pc') (k : evAt G M F pc' lv' st S) : evAt G M F pc lv (.ref x :: st) S := by
  subst hp
  exact fun p e s m args below meth c H locs ls C h1 h2 h3 h4 h5 hl => lv_astore_n C.1 C.2.1 hd hi hl hn hv (fun ls hl => (k p e s m args below meth c H locs ls C h1 h2 h3 h4 h5 hl))
theorem ea_astore {i : Nat} {x : Nat} (hd : decode M.2.1 pc = .ok (.astore i, 2)) (hn : i < M.2.2.1) (hv : (i, Value.ref x) :: lv.filter (fun q => !(q.1 == i) && !(q.1 + 1 == i && q.2.category == 2)) = lv') {pc' : Nat} (hp : pc + 2 = pc') (k : evAt G M F pc' lv' st S) : evAt G M F pc lv (.ref x :: st) S := by
  subst hp
  exact fun p e s m args below meth c H locs ls C h1 h2 h3 h4 h5 hl => lv_astore C.1 C.2.1 hd hl hn hv (fun ls hl => (k p e s m args below meth c H locs ls C h1 h2 h3 h4 h5 hl))
theorem ea_iinc {i q : Nat} {n : Int} {x v : Int32} (hd : decode M.2.1 pc = .ok (.iinc i n, 3)) (hq : lv[q]? = some (i, .int x)) (hv : x + Int32.ofInt n = v) (hn : i < M.2.2.1) (hl' : (i, Value.int v) :: lv.filter (fun q => !(q.1 == i) && !(q.1 + 1 == i && q.2.category == 2)) = lv') {pc' : Nat} (hp : pc + 3 = pc') (k : evAt G M F pc' lv' st S) : evAt G M F pc lv st S := by
  subst hp
  exact fun p e s m args below meth c H locs ls C h1 h2 h3 h4 h5 hl => lv_iinc C.1 C.2.1 hd hl hq hv hn hl' (fun ls hl => (k p e s m args below meth c H locs ls C h1 h2 h3 h4 h5 hl))
theorem ea_iadd {x y : Int32} (hd : decode M.2.1 pc = .ok (.iadd, 1))  {pc' : Nat} (hp : pc + 1 = pc') (k : evAt G M F pc' lv (.int (x + y) :: st) S) : evAt G M F pc lv (.int y :: .int x :: st) S := by
  subst hp
  exact fun p e s m args below meth c H locs ls C h1 h2 h3 h4 h5 hl => lv_iadd C.1 C.2.1 hd (k p e s m args below meth c H locs ls C h1 h2 h3 h4 h5 hl)
theorem ea_isub {x y : Int32} (hd : decode M.2.1 pc = .ok (.isub, 1))  {pc' : Nat} (hp : pc + 1 = pc') (k : evAt G M F pc' lv (.int (x - y) :: st) S) : evAt G M F pc lv (.int y :: .int x :: st) S := by
  subst hp
  exact fun p e s m args below meth c H locs ls C h1 h2 h3 h4 h5 hl => lv_isub C.1 C.2.1 hd (k p e s m args below meth c H locs ls C h1 h2 h3 h4 h5 hl)
theorem ea_imul {x y : Int32} (hd : decode M.2.1 pc = .ok (.imul, 1))  {pc' : Nat} (hp : pc + 1 = pc') (k : evAt G M F pc' lv (.int (x * y) :: st) S) : evAt G M F pc lv (.int y :: .int x :: st) S := by
  subst hp
  exact fun p e s m args below meth c H locs ls C h1 h2 h3 h4 h5 hl => lv_imul C.1 C.2.1 hd (k p e s m args below meth c H locs ls C h1 h2 h3 h4 h5 hl)
theorem ea_iand {x y : Int32} (hd : decode M.2.1 pc = .ok (.iand, 1))  {pc' : Nat} (hp : pc + 1 = pc') (k : evAt G M F pc' lv (.int (x &&& y) :: st) S) : evAt G M F pc lv (.int y :: .int x :: st) S := by
  subst hp
  exact fun p e s m args below meth c H locs ls C h1 h2 h3 h4 h5 hl => lv_iand C.1 C.2.1 hd (k p e s m args below meth c H locs ls C h1 h2 h3 h4 h5 hl)
theorem ea_ior {x y : Int32} (hd : decode M.2.1 pc = .ok (.ior, 1))  {pc' : Nat} (hp : pc + 1 = pc') (k : evAt G M F pc' lv (.int (x ||| y) :: st) S) : evAt G M F pc lv (.int y :: .int x :: st) S := by
  subst hp
  exact fun p e s m args below meth c H locs ls C h1 h2 h3 h4 h5 hl => lv_ior C.1 C.2.1 hd (k p e s m args below meth c H locs ls C h1 h2 h3 h4 h5 hl)
theorem ea_ixor {x y : Int32} (hd : decode M.2.1 pc = .ok (.ixor, 1))  {pc' : Nat} (hp : pc + 1 = pc') (k : evAt G M F pc' lv (.int (x ^^^ y) :: st) S) : evAt G M F pc lv (.int y :: .int x :: st) S := by
  subst hp
  exact fun p e s m args below meth c H locs ls C h1 h2 h3 h4 h5 hl => lv_ixor C.1 C.2.1 hd (k p e s m args below meth c H locs ls C h1 h2 h3 h4 h5 hl)
theorem ea_ishl {x y : Int32} (hd : decode M.2.1 pc = .ok (.ishl, 1))  {pc' : Nat} (hp : pc + 1 = pc') (k : evAt G M F pc' lv (.int (x <<< (y &&& 31)) :: st) S) : evAt G M F pc lv (.int y :: .int x :: st) S := by
  subst hp
  exact fun p e s m args below meth c H locs ls C h1 h2 h3 h4 h5 hl => lv_ishl C.1 C.2.1 hd (k p e s m args below meth c H locs ls C h1 h2 h3 h4 h5 hl)
theorem ea_ishr {x y : Int32} (hd : decode M.2.1 pc = .ok (.ishr, 1))  {pc' : Nat} (hp : pc + 1 = pc') (k : evAt G M F pc' lv (.int (x >>> (y &&& 31)) :: st) S) : evAt G M F pc lv (.int y :: .int x :: st) S := by
  subst hp
  exact fun p e s m args below meth c H locs ls C h1 h2 h3 h4 h5 hl => lv_ishr C.1 C.2.1 hd (k p e s m args below meth c H locs ls C h1 h2 h3 h4 h5 hl)
theorem ea_iushr {x y : Int32} (hd : decode M.2.1 pc = .ok (.iushr, 1))  {pc' : Nat} (hp : pc + 1 = pc') (k : evAt G M F pc' lv (.int ((x.toUInt32 >>> (y.toUInt32 &&& Int32.toUInt32 31)).toInt32) :: st) S) : evAt G M F pc lv (.int y :: .int x :: st) S := by
  subst hp
  exact fun p e s m args below meth c H locs ls C h1 h2 h3 h4 h5 hl => lv_iushr C.1 C.2.1 hd rfl (k p e s m args below meth c H locs ls C h1 h2 h3 h4 h5 hl)
theorem ea_idiv {x y : Int32} (hd : decode M.2.1 pc = .ok (.idiv, 1)) (hne : ¬ y = 0) {pc' : Nat} (hp : pc + 1 = pc') (k : evAt G M F pc' lv (.int (x / y) :: st) S) : evAt G M F pc lv (.int y :: .int x :: st) S := by
  subst hp
  exact fun p e s m args below meth c H locs ls C h1 h2 h3 h4 h5 hl => lv_idiv C.1 C.2.1 hd hne (k p e s m args below meth c H locs ls C h1 h2 h3 h4 h5 hl)
theorem ea_irem {x y : Int32} (hd : decode M.2.1 pc = .ok (.irem, 1)) (hne : ¬ y = 0) {pc' : Nat} (hp : pc + 1 = pc') (k : evAt G M F pc' lv (.int (x - x / y * y) :: st) S) : evAt G M F pc lv (.int y :: .int x :: st) S := by
  subst hp
  exact fun p e s m args below meth c H locs ls C h1 h2 h3 h4 h5 hl => lv_irem C.1 C.2.1 hd hne (k p e s m args below meth c H locs ls C h1 h2 h3 h4 h5 hl)
theorem ea_ineg {x : Int32} (hd : decode M.2.1 pc = .ok (.ineg, 1))  {pc' : Nat} (hp : pc + 1 = pc') (k : evAt G M F pc' lv (.int (-x) :: st) S) : evAt G M F pc lv (.int x :: st) S := by
  subst hp
  exact fun p e s m args below meth c H locs ls C h1 h2 h3 h4 h5 hl => lv_ineg C.1 C.2.1 hd (k p e s m args below meth c H locs ls C h1 h2 h3 h4 h5 hl)
theorem ea_lneg {x : Int64} (hd : decode M.2.1 pc = .ok (.lneg, 1))  {pc' : Nat} (hp : pc + 1 = pc') (k : evAt G M F pc' lv (.long (-x) :: st) S) : evAt G M F pc lv (.long x :: st) S := by
  subst hp
  exact fun p e s m args below meth c H locs ls C h1 h2 h3 h4 h5 hl => lv_lneg C.1 C.2.1 hd (k p e s m args below meth c H locs ls C h1 h2 h3 h4 h5 hl)
theorem ea_ladd {x y : Int64} (hd : decode M.2.1 pc = .ok (.ladd, 1))  {pc' : Nat} (hp : pc + 1 = pc') (k : evAt G M F pc' lv (.long (x + y) :: st) S) : evAt G M F pc lv (.long y :: .long x :: st) S := by
  subst hp
  exact fun p e s m args below meth c H locs ls C h1 h2 h3 h4 h5 hl => lv_ladd C.1 C.2.1 hd (k p e s m args below meth c H locs ls C h1 h2 h3 h4 h5 hl)
theorem ea_lsub {x y : Int64} (hd : decode M.2.1 pc = .ok (.lsub, 1))  {pc' : Nat} (hp : pc + 1 = pc') (k : evAt G M F pc' lv (.long (x - y) :: st) S) : evAt G M F pc lv (.long y :: .long x :: st) S := by
  subst hp
  exact fun p e s m args below meth c H locs ls C h1 h2 h3 h4 h5 hl => lv_lsub C.1 C.2.1 hd (k p e s m args below meth c H locs ls C h1 h2 h3 h4 h5 hl)
theorem ea_lmul {x y : Int64} (hd : decode M.2.1 pc = .ok (.lmul, 1))  {pc' : Nat} (hp : pc + 1 = pc') (k : evAt G M F pc' lv (.long (x * y) :: st) S) : evAt G M F pc lv (.long y :: .long x :: st) S := by
  subst hp
  exact fun p e s m args below meth c H locs ls C h1 h2 h3 h4 h5 hl => lv_lmul C.1 C.2.1 hd (k p e s m args below meth c H locs ls C h1 h2 h3 h4 h5 hl)
theorem ea_ldiv {x y : Int64} (hd : decode M.2.1 pc = .ok (.ldiv, 1)) (hne : ¬ y = 0) {pc' : Nat} (hp : pc + 1 = pc') (k : evAt G M F pc' lv (.long (x / y) :: st) S) : evAt G M F pc lv (.long y :: .long x :: st) S := by
  subst hp
  exact fun p e s m args below meth c H locs ls C h1 h2 h3 h4 h5 hl => lv_ldiv C.1 C.2.1 hd hne (k p e s m args below meth c H locs ls C h1 h2 h3 h4 h5 hl)
theorem ea_lrem {x y : Int64} (hd : decode M.2.1 pc = .ok (.lrem, 1)) (hne : ¬ y = 0) {pc' : Nat} (hp : pc + 1 = pc') (k : evAt G M F pc' lv (.long (x - x / y * y) :: st) S) : evAt G M F pc lv (.long y :: .long x :: st) S := by
  subst hp
  exact fun p e s m args below meth c H locs ls C h1 h2 h3 h4 h5 hl => lv_lrem C.1 C.2.1 hd hne (k p e s m args below meth c H locs ls C h1 h2 h3 h4 h5 hl)
theorem ea_i2l {x : Int32} (hd : decode M.2.1 pc = .ok (.i2l, 1))  {pc' : Nat} (hp : pc + 1 = pc') (k : evAt G M F pc' lv (.long x.toInt64 :: st) S) : evAt G M F pc lv (.int x :: st) S := by
  subst hp
  exact fun p e s m args below meth c H locs ls C h1 h2 h3 h4 h5 hl => lv_i2l C.1 C.2.1 hd rfl (k p e s m args below meth c H locs ls C h1 h2 h3 h4 h5 hl)
theorem ea_l2i {x : Int64} (hd : decode M.2.1 pc = .ok (.l2i, 1))  {pc' : Nat} (hp : pc + 1 = pc') (k : evAt G M F pc' lv (.int x.toInt32 :: st) S) : evAt G M F pc lv (.long x :: st) S := by
  subst hp
  exact fun p e s m args below meth c H locs ls C h1 h2 h3 h4 h5 hl => lv_l2i C.1 C.2.1 hd rfl (k p e s m args below meth c H locs ls C h1 h2 h3 h4 h5 hl)
theorem ea_dup {v : Value} (hd : decode M.2.1 pc = .ok (.dup, 1)) (hv : v.category = 1) {pc' : Nat} (hp : pc + 1 = pc') (k : evAt G M F pc' lv (v :: v :: st) S) : evAt G M F pc lv (v :: st) S := by
  subst hp
  exact fun p e s m args below meth c H locs ls C h1 h2 h3 h4 h5 hl => lv_dup C.1 C.2.1 hd hv (k p e s m args below meth c H locs ls C h1 h2 h3 h4 h5 hl)
theorem ea_dup2 {v w : Value} (hd : decode M.2.1 pc = .ok (.dup2, 1)) (hv : v.category = 1) (hw : w.category = 1) {pc' : Nat} (hp : pc + 1 = pc') (k : evAt G M F pc' lv (v :: w :: v :: w :: st) S) : evAt G M F pc lv (v :: w :: st) S := by
  subst hp
  exact fun p e s m args below meth c H locs ls C h1 h2 h3 h4 h5 hl => lv_dup2_11 C.1 C.2.1 hd hv hw (k p e s m args below meth c H locs ls C h1 h2 h3 h4 h5 hl)
theorem ea_pop {v : Value} (hd : decode M.2.1 pc = .ok (.pop, 1)) (hv : v.category = 1) {pc' : Nat} (hp : pc + 1 = pc') (k : evAt G M F pc' lv (st) S) : evAt G M F pc lv (v :: st) S := by
  subst hp
  exact fun p e s m args below meth c H locs ls C h1 h2 h3 h4 h5 hl => lv_pop C.1 C.2.1 hd hv (k p e s m args below meth c H locs ls C h1 h2 h3 h4 h5 hl)
theorem ea_if_eq {x : Int32} {off : Int} {tgt : Nat} (hd : decode M.2.1 pc = .ok (.ifCond .eq off, 3)) (ht : (pc : Int) + off = (tgt : Int)) {pc' : Nat} (hp : pc + 3 = pc') (kt : x = 0 → evAt G M F tgt lv st S) (kf : ¬ x = 0 → evAt G M F pc' lv st S) : evAt G M F pc lv (.int x :: st) S := by
  subst hp
  exact fun p e s m args below meth c H locs ls C h1 h2 h3 h4 h5 hl => lv_if_eq C.1 C.2.1 hd ht (fun hc => (kt hc p e s m args below meth c H locs ls C h1 h2 h3 h4 h5 hl)) (fun hc => (kf hc p e s m args below meth c H locs ls C h1 h2 h3 h4 h5 hl))
theorem ea_icmp_eq {x y : Int32} {off : Int} {tgt : Nat} (hd : decode M.2.1 pc = .ok (.if_icmp .eq off, 3)) (ht : (pc : Int) + off = (tgt : Int)) {pc' : Nat} (hp : pc + 3 = pc') (kt : x = y → evAt G M F tgt lv st S) (kf : ¬ x = y → evAt G M F pc' lv st S) : evAt G M F pc lv (.int y :: .int x :: st) S := by
  subst hp
  exact fun p e s m args below meth c H locs ls C h1 h2 h3 h4 h5 hl => lv_icmp_eq C.1 C.2.1 hd ht (fun hc => (kt hc p e s m args below meth c H locs ls C h1 h2 h3 h4 h5 hl)) (fun hc => (kf hc p e s m args below meth c H locs ls C h1 h2 h3 h4 h5 hl))
theorem ea_if_ne {x : Int32} {off : Int} {tgt : Nat} (hd : decode M.2.1 pc = .ok (.ifCond .ne off, 3)) (ht : (pc : Int) + off = (tgt : Int)) {pc' : Nat} (hp : pc + 3 = pc') (kt : ¬ x = 0 → evAt G M F tgt lv st S) (kf : x = 0 → evAt G M F pc' lv st S) : evAt G M F pc lv (.int x :: st) S := by
  subst hp
  exact fun p e s m args below meth c H locs ls C h1 h2 h3 h4 h5 hl => lv_if_ne C.1 C.2.1 hd ht (fun hc => (kt hc p e s m args below meth c H locs ls C h1 h2 h3 h4 h5 hl)) (fun hc => (kf hc p e s m args below meth c H locs ls C h1 h2 h3 h4 h5 hl))
theorem ea_icmp_ne {x y : Int32} {off : Int} {tgt : Nat} (hd : decode M.2.1 pc = .ok (.if_icmp .ne off, 3)) (ht : (pc : Int) + off = (tgt : Int)) {pc' : Nat} (hp : pc + 3 = pc') (kt : ¬ x = y → evAt G M F tgt lv st S) (kf : x = y → evAt G M F pc' lv st S) : evAt G M F pc lv (.int y :: .int x :: st) S := by
  subst hp
  exact fun p e s m args below meth c H locs ls C h1 h2 h3 h4 h5 hl => lv_icmp_ne C.1 C.2.1 hd ht (fun hc => (kt hc p e s m args below meth c H locs ls C h1 h2 h3 h4 h5 hl)) (fun hc => (kf hc p e s m args below meth c H locs ls C h1 h2 h3 h4 h5 hl))
theorem ea_if_lt {x : Int32} {off : Int} {tgt : Nat} (hd : decode M.2.1 pc = .ok (.ifCond .lt off, 3)) (ht : (pc : Int) + off = (tgt : Int)) {pc' : Nat} (hp : pc + 3 = pc') (kt : x < 0 → evAt G M F tgt lv st S) (kf : ¬ x < 0 → evAt G M F pc' lv st S) : evAt G M F pc lv (.int x :: st) S := by
  subst hp
  exact fun p e s m args below meth c H locs ls C h1 h2 h3 h4 h5 hl => lv_if_lt C.1 C.2.1 hd ht (fun hc => (kt hc p e s m args below meth c H locs ls C h1 h2 h3 h4 h5 hl)) (fun hc => (kf hc p e s m args below meth c H locs ls C h1 h2 h3 h4 h5 hl))
theorem ea_icmp_lt {x y : Int32} {off : Int} {tgt : Nat} (hd : decode M.2.1 pc = .ok (.if_icmp .lt off, 3)) (ht : (pc : Int) + off = (tgt : Int)) {pc' : Nat} (hp : pc + 3 = pc') (kt : x < y → evAt G M F tgt lv st S) (kf : ¬ x < y → evAt G M F pc' lv st S) : evAt G M F pc lv (.int y :: .int x :: st) S := by
  subst hp
  exact fun p e s m args below meth c H locs ls C h1 h2 h3 h4 h5 hl => lv_icmp_lt C.1 C.2.1 hd ht (fun hc => (kt hc p e s m args below meth c H locs ls C h1 h2 h3 h4 h5 hl)) (fun hc => (kf hc p e s m args below meth c H locs ls C h1 h2 h3 h4 h5 hl))
theorem ea_if_ge {x : Int32} {off : Int} {tgt : Nat} (hd : decode M.2.1 pc = .ok (.ifCond .ge off, 3)) (ht : (pc : Int) + off = (tgt : Int)) {pc' : Nat} (hp : pc + 3 = pc') (kt : 0 ≤ x → evAt G M F tgt lv st S) (kf : ¬ 0 ≤ x → evAt G M F pc' lv st S) : evAt G M F pc lv (.int x :: st) S := by
  subst hp
  exact fun p e s m args below meth c H locs ls C h1 h2 h3 h4 h5 hl => lv_if_ge C.1 C.2.1 hd ht (fun hc => (kt hc p e s m args below meth c H locs ls C h1 h2 h3 h4 h5 hl)) (fun hc => (kf hc p e s m args below meth c H locs ls C h1 h2 h3 h4 h5 hl))
theorem ea_icmp_ge {x y : Int32} {off : Int} {tgt : Nat} (hd : decode M.2.1 pc = .ok (.if_icmp .ge off, 3)) (ht : (pc : Int) + off = (tgt : Int)) {pc' : Nat} (hp : pc + 3 = pc') (kt : y ≤ x → evAt G M F tgt lv st S) (kf : ¬ y ≤ x → evAt G M F pc' lv st S) : evAt G M F pc lv (.int y :: .int x :: st) S := by
  subst hp
  exact fun p e s m args below meth c H locs ls C h1 h2 h3 h4 h5 hl => lv_icmp_ge C.1 C.2.1 hd ht (fun hc => (kt hc p e s m args below meth c H locs ls C h1 h2 h3 h4 h5 hl)) (fun hc => (kf hc p e s m args below meth c H locs ls C h1 h2 h3 h4 h5 hl))
theorem ea_if_gt {x : Int32} {off : Int} {tgt : Nat} (hd : decode M.2.1 pc = .ok (.ifCond .gt off, 3)) (ht : (pc : Int) + off = (tgt : Int)) {pc' : Nat} (hp : pc + 3 = pc') (kt : 0 < x → evAt G M F tgt lv st S) (kf : ¬ 0 < x → evAt G M F pc' lv st S) : evAt G M F pc lv (.int x :: st) S := by
  subst hp
  exact fun p e s m args below meth c H locs ls C h1 h2 h3 h4 h5 hl => lv_if_gt C.1 C.2.1 hd ht (fun hc => (kt hc p e s m args below meth c H locs ls C h1 h2 h3 h4 h5 hl)) (fun hc => (kf hc p e s m args below meth c H locs ls C h1 h2 h3 h4 h5 hl))
theorem ea_icmp_gt {x y : Int32} {off : Int} {tgt : Nat} (hd : decode M.2.1 pc = .ok (.if_icmp .gt off, 3)) (ht : (pc : Int) + off = (tgt : Int)) {pc' : Nat} (hp : pc + 3 = pc') (kt : y < x → evAt G M F tgt lv st S) (kf : ¬ y < x → evAt G M F pc' lv st S) : evAt G M F pc lv (.int y :: .int x :: st) S := by
  subst hp
  exact fun p e s m args below meth c H locs ls C h1 h2 h3 h4 h5 hl => lv_icmp_gt C.1 C.2.1 hd ht (fun hc => (kt hc p e s m args below meth c H locs ls C h1 h2 h3 h4 h5 hl)) (fun hc => (kf hc p e s m args below meth c H locs ls C h1 h2 h3 h4 h5 hl))
theorem ea_if_le {x : Int32} {off : Int} {tgt : Nat} (hd : decode M.2.1 pc = .ok (.ifCond .le off, 3)) (ht : (pc : Int) + off = (tgt : Int)) {pc' : Nat} (hp : pc + 3 = pc') (kt : x ≤ 0 → evAt G M F tgt lv st S) (kf : ¬ x ≤ 0 → evAt G M F pc' lv st S) : evAt G M F pc lv (.int x :: st) S := by
  subst hp
  exact fun p e s m args below meth c H locs ls C h1 h2 h3 h4 h5 hl => lv_if_le C.1 C.2.1 hd ht (fun hc => (kt hc p e s m args below meth c H locs ls C h1 h2 h3 h4 h5 hl)) (fun hc => (kf hc p e s m args below meth c H locs ls C h1 h2 h3 h4 h5 hl))
theorem ea_icmp_le {x y : Int32} {off : Int} {tgt : Nat} (hd : decode M.2.1 pc = .ok (.if_icmp .le off, 3)) (ht : (pc : Int) + off = (tgt : Int)) {pc' : Nat} (hp : pc + 3 = pc') (kt : x ≤ y → evAt G M F tgt lv st S) (kf : ¬ x ≤ y → evAt G M F pc' lv st S) : evAt G M F pc lv (.int y :: .int x :: st) S := by
  subst hp
  exact fun p e s m args below meth c H locs ls C h1 h2 h3 h4 h5 hl => lv_icmp_le C.1 C.2.1 hd ht (fun hc => (kt hc p e s m args below meth c H locs ls C h1 h2 h3 h4 h5 hl)) (fun hc => (kf hc p e s m args below meth c H locs ls C h1 h2 h3 h4 h5 hl))
theorem ev_lc (x y : Int64) : (y < x ∧ lg_cmp x y = 1) ∨ (x = y ∧ lg_cmp x y = 0) ∨ (x < y ∧ lg_cmp x y = -1) := by
  unfold lg_cmp
  by_cases h : x > y
  · exact Or.inl ⟨h, if_pos h⟩
  · by_cases h2 : x = y
    · exact Or.inr (Or.inl ⟨h2, by rw [if_neg h, if_pos h2]⟩)
    · refine Or.inr (Or.inr ⟨?_, by rw [if_neg h, if_neg h2]⟩)
      have h3 : ¬ y.toInt < x.toInt := fun q => h (Int64.lt_iff_toInt_lt.mpr q)
      have h4 : ¬ x.toInt = y.toInt := fun q => h2 (Int64.toInt_inj.mp q)
      exact Int64.lt_iff_toInt_lt.mpr (by omega)
theorem ev_lirr {x y : Int64} (h : x < y) : ¬ y < x ∧ ¬ x = y ∧ x ≤ y ∧ ¬ y ≤ x := by
  have h1 := Int64.lt_iff_toInt_lt.mp h
  refine ⟨fun q => ?_, fun q => ?_, Int64.le_iff_toInt_le.mpr (by omega), fun q => ?_⟩
  · have := Int64.lt_iff_toInt_lt.mp q; omega
  · rw [q] at h1; omega
  · have := Int64.le_iff_toInt_le.mp q; omega
theorem ev_lc_eq (x y : Int64) : ((lg_cmp x y) = 0) ↔ (x = y) := by
  rcases ev_lc x y with ⟨h, e⟩ | ⟨h, e⟩ | ⟨h, e⟩
  · rw [e]; have := ev_lirr h; simp [this, h]; (try decide); (try exact fun q => this.2.1 q.symm)
  · rw [e]; subst h; simp; try decide
  · rw [e]; have := ev_lirr h; simp [this, h]; try decide
theorem ea_lcmp_eq {x y : Int64} {off : Int} {tgt : Nat} (hd : decode M.2.1 pc = .ok (.lcmp, 1)) {pc1 : Nat} (hp1 : pc + 1 = pc1) (hd2 : decode M.2.1 pc1 = .ok (.ifCond .eq off, 3)) (ht : (pc1 : Int) + off = (tgt : Int)) {pc' : Nat} (hp : pc1 + 3 = pc') (kt : x = y → evAt G M F tgt lv st S) (kf : ¬ x = y → evAt G M F pc' lv st S) : evAt G M F pc lv (.long y :: .long x :: st) S := by
  subst hp1
  subst hp
  exact fun p e s m args below meth c H locs ls C h1 h2 h3 h4 h5 hl => W.lcmp C.1 C.2.1 hd (lv_if_eq C.1 C.2.1 hd2 ht (fun hc => (kt ((ev_lc_eq x y).mp hc) p e s m args below meth c H locs ls C h1 h2 h3 h4 h5 hl)) (fun hc => (kf (fun q => hc ((ev_lc_eq x y).mpr q)) p e s m args below meth c H locs ls C h1 h2 h3 h4 h5 hl)))
theorem ev_lc_ne (x y : Int64) : (¬ (lg_cmp x y) = 0) ↔ (¬ x = y) := by
  rcases ev_lc x y with ⟨h, e⟩ | ⟨h, e⟩ | ⟨h, e⟩
  · rw [e]; have := ev_lirr h; simp [this, h]; (try decide); (try exact fun q => this.2.1 q.symm)
  · rw [e]; subst h; simp; try decide
  · rw [e]; have := ev_lirr h; simp [this, h]; try decide
theorem ea_lcmp_ne {x y : Int64} {off : Int} {tgt : Nat} (hd : decode M.2.1 pc = .ok (.lcmp, 1)) {pc1 : Nat} (hp1 : pc + 1 = pc1) (hd2 : decode M.2.1 pc1 = .ok (.ifCond .ne off, 3)) (ht : (pc1 : Int) + off = (tgt : Int)) {pc' : Nat} (hp : pc1 + 3 = pc') (kt : ¬ x = y → evAt G M F tgt lv st S) (kf : x = y → evAt G M F pc' lv st S) : evAt G M F pc lv (.long y :: .long x :: st) S := by
  subst hp1
  subst hp
  exact fun p e s m args below meth c H locs ls C h1 h2 h3 h4 h5 hl => W.lcmp C.1 C.2.1 hd (lv_if_ne C.1 C.2.1 hd2 ht (fun hc => (kt ((ev_lc_ne x y).mp hc) p e s m args below meth c H locs ls C h1 h2 h3 h4 h5 hl)) (fun hc => (kf (Classical.not_not.mp (fun q => (ev_lc_ne x y).mpr q hc)) p e s m args below meth c H locs ls C h1 h2 h3 h4 h5 hl)))
theorem ev_lc_lt (x y : Int64) : ((lg_cmp x y) < 0) ↔ (x < y) := by
  rcases ev_lc x y with ⟨h, e⟩ | ⟨h, e⟩ | ⟨h, e⟩
  · rw [e]; have := ev_lirr h; simp [this, h]; (try decide); (try exact fun q => this.2.1 q.symm)
  · rw [e]; subst h; simp; try decide
  · rw [e]; have := ev_lirr h; simp [this, h]; try decide
theorem ea_lcmp_lt {x y : Int64} {off : Int} {tgt : Nat} (hd : decode M.2.1 pc = .ok (.lcmp, 1)) {pc1 : Nat} (hp1 : pc + 1 = pc1) (hd2 : decode M.2.1 pc1 = .ok (.ifCond .lt off, 3)) (ht : (pc1 : Int) + off = (tgt : Int)) {pc' : Nat} (hp : pc1 + 3 = pc') (kt : x < y → evAt G M F tgt lv st S) (kf : ¬ x < y → evAt G M F pc' lv st S) : evAt G M F pc lv (.long y :: .long x :: st) S := by
  subst hp1
  subst hp
  exact fun p e s m args below meth c H locs ls C h1 h2 h3 h4 h5 hl => W.lcmp C.1 C.2.1 hd (lv_if_lt C.1 C.2.1 hd2 ht (fun hc => (kt ((ev_lc_lt x y).mp hc) p e s m args below meth c H locs ls C h1 h2 h3 h4 h5 hl)) (fun hc => (kf (fun q => hc ((ev_lc_lt x y).mpr q)) p e s m args below meth c H locs ls C h1 h2 h3 h4 h5 hl)))
theorem ev_lc_ge (x y : Int64) : (0 ≤ (lg_cmp x y)) ↔ (y ≤ x) := by
  rcases ev_lc x y with ⟨h, e⟩ | ⟨h, e⟩ | ⟨h, e⟩
  · rw [e]; have := ev_lirr h; simp [this, h]; (try decide); (try exact fun q => this.2.1 q.symm)
  · rw [e]; subst h; simp; try decide
  · rw [e]; have := ev_lirr h; simp [this, h]; try decide
theorem ea_lcmp_ge {x y : Int64} {off : Int} {tgt : Nat} (hd : decode M.2.1 pc = .ok (.lcmp, 1)) {pc1 : Nat} (hp1 : pc + 1 = pc1) (hd2 : decode M.2.1 pc1 = .ok (.ifCond .ge off, 3)) (ht : (pc1 : Int) + off = (tgt : Int)) {pc' : Nat} (hp : pc1 + 3 = pc') (kt : y ≤ x → evAt G M F tgt lv st S) (kf : ¬ y ≤ x → evAt G M F pc' lv st S) : evAt G M F pc lv (.long y :: .long x :: st) S := by
  subst hp1
  subst hp
  exact fun p e s m args below meth c H locs ls C h1 h2 h3 h4 h5 hl => W.lcmp C.1 C.2.1 hd (lv_if_ge C.1 C.2.1 hd2 ht (fun hc => (kt ((ev_lc_ge x y).mp hc) p e s m args below meth c H locs ls C h1 h2 h3 h4 h5 hl)) (fun hc => (kf (fun q => hc ((ev_lc_ge x y).mpr q)) p e s m args below meth c H locs ls C h1 h2 h3 h4 h5 hl)))
theorem ev_lc_gt (x y : Int64) : (0 < (lg_cmp x y)) ↔ (y < x) := by
  rcases ev_lc x y with ⟨h, e⟩ | ⟨h, e⟩ | ⟨h, e⟩
  · rw [e]; have := ev_lirr h; simp [this, h]; (try decide); (try exact fun q => this.2.1 q.symm)
  · rw [e]; subst h; simp; try decide
  · rw [e]; have := ev_lirr h; simp [this, h]; try decide
theorem ea_lcmp_gt {x y : Int64} {off : Int} {tgt : Nat} (hd : decode M.2.1 pc = .ok (.lcmp, 1)) {pc1 : Nat} (hp1 : pc + 1 = pc1) (hd2 : decode M.2.1 pc1 = .ok (.ifCond .gt off, 3)) (ht : (pc1 : Int) + off = (tgt : Int)) {pc' : Nat} (hp : pc1 + 3 = pc') (kt : y < x → evAt G M F tgt lv st S) (kf : ¬ y < x → evAt G M F pc' lv st S) : evAt G M F pc lv (.long y :: .long x :: st) S := by
  subst hp1
  subst hp
  exact fun p e s m args below meth c H locs ls C h1 h2 h3 h4 h5 hl => W.lcmp C.1 C.2.1 hd (lv_if_gt C.1 C.2.1 hd2 ht (fun hc => (kt ((ev_lc_gt x y).mp hc) p e s m args below meth c H locs ls C h1 h2 h3 h4 h5 hl)) (fun hc => (kf (fun q => hc ((ev_lc_gt x y).mpr q)) p e s m args below meth c H locs ls C h1 h2 h3 h4 h5 hl)))
theorem ev_lc_le (x y : Int64) : ((lg_cmp x y) ≤ 0) ↔ (x ≤ y) := by
  rcases ev_lc x y with ⟨h, e⟩ | ⟨h, e⟩ | ⟨h, e⟩
  · rw [e]; have := ev_lirr h; simp [this, h]; (try decide); (try exact fun q => this.2.1 q.symm)
  · rw [e]; subst h; simp; try decide
  · rw [e]; have := ev_lirr h; simp [this, h]; try decide
theorem ea_lcmp_le {x y : Int64} {off : Int} {tgt : Nat} (hd : decode M.2.1 pc = .ok (.lcmp, 1)) {pc1 : Nat} (hp1 : pc + 1 = pc1) (hd2 : decode M.2.1 pc1 = .ok (.ifCond .le off, 3)) (ht : (pc1 : Int) + off = (tgt : Int)) {pc' : Nat} (hp : pc1 + 3 = pc') (kt : x ≤ y → evAt G M F tgt lv st S) (kf : ¬ x ≤ y → evAt G M F pc' lv st S) : evAt G M F pc lv (.long y :: .long x :: st) S := by
  subst hp1
  subst hp
  exact fun p e s m args below meth c H locs ls C h1 h2 h3 h4 h5 hl => W.lcmp C.1 C.2.1 hd (lv_if_le C.1 C.2.1 hd2 ht (fun hc => (kt ((ev_lc_le x y).mp hc) p e s m args below meth c H locs ls C h1 h2 h3 h4 h5 hl)) (fun hc => (kf (fun q => hc ((ev_lc_le x y).mpr q)) p e s m args below meth c H locs ls C h1 h2 h3 h4 h5 hl)))
theorem ea_goto {off : Int} {tgt : Nat} (hd : decode M.2.1 pc = .ok (.goto off, 3)) (ht : (pc : Int) + off = (tgt : Int)) (k : evAt G M F tgt lv st S) : evAt G M F pc lv st S :=
  fun p e s m args below meth c H locs ls C h1 h2 h3 h4 h5 hl => lv_goto C.1 C.2.1 hd ht (k p e s m args below meth c H locs ls C h1 h2 h3 h4 h5 hl)
theorem ea_table {dflt lo hi : Int} {offs : Array Int} {len n tgd : Nat} {x : Int32} (tg : Nat → Nat) (hd : decode M.2.1 pc = .ok (.tableswitch dflt lo hi offs, len)) (hn : hi + 1 = lo + n) (hin : ∀ j, j < n → (offs[j]?).map (fun off => (pc : Int) + off) = some ((tg j : Nat) : Int)) (ht : (pc : Int) + dflt = (tgd : Int))
    (k : ∀ j : Nat, j < n → x.toInt = lo + j → evAt G M F (tg j) lv st S) (ko : (x.toInt < lo ∨ hi < x.toInt) → evAt G M F tgd lv st S) : evAt G M F pc lv (.int x :: st) S := by
  intro p e s m args below meth c H locs ls C h1 h2 h3 h4 h5 hl
  by_cases h : x.toInt < lo ∨ hi < x.toInt
  · exact lv_tableOut C.1 C.2.1 hd h ht (ko h p e s m args below meth c H locs ls C h1 h2 h3 h4 h5 hl)
  · have ha : ¬ x.toInt < lo := fun q => h (Or.inl q)
    have hb : ¬ hi < x.toInt := fun q => h (Or.inr q)
    have hj : (x.toInt - lo).toNat < n := by omega
    have h7 := hin _ hj
    cases ho : offs[(x.toInt - lo).toNat]? with
    | none => rw [ho] at h7; cases h7
    | some off =>
      rw [ho] at h7
      exact lv_tableIn C.1 C.2.1 hd ha hb ho (Option.some.inj h7) (k _ hj (by omega) p e s m args below meth c H locs ls C h1 h2 h3 h4 h5 hl)
theorem ea_iret {v : Int32} (hr : M.2.2.2 = some .int) (hd : decode M.2.1 pc = .ok (.ireturn, 1)) (hq : Q (some (.int v)) S) : evAt G M (evFm G d Q) pc lv [.int v] S :=
  fun p e s m args below meth c H locs ls C h1 h2 h3 h4 h5 hl => W.iret (v := v) C.1 C.2.1 (C.2.2.2.2.2.1.trans hr) (fun t ht _ => ⟨⟨_, S, rfl, hq, by rw [ht]; exact h3, h4⟩, h5.F ht⟩) h5.2.2 hd C.2.2.2.2.2.2
theorem ea_zret {v : Int32} (hr : M.2.2.2 = some .boolean) (hd : decode M.2.1 pc = .ok (.ireturn, 1)) (hv : v = 0 ∨ v = 1) (hq : Q (some (.int v)) S) : evAt G M (evFm G d Q) pc lv [.int v] S :=
  fun p e s m args below meth c H locs ls C h1 h2 h3 h4 h5 hl => W.zret (v := v) C.1 C.2.1 (C.2.2.2.2.2.1.trans hr) (by rcases hv with rfl | rfl <;> decide +kernel) (fun t ht _ => ⟨⟨_, S, rfl, hq, by rw [ht]; exact h3, h4⟩, h5.F ht⟩) h5.2.2 hd C.2.2.2.2.2.2
theorem ea_lret {v : Int64} (hr : M.2.2.2 = some .long) (hd : decode M.2.1 pc = .ok (.lreturn, 1)) (hq : Q (some (.long v)) S) : evAt G M (evFm G d Q) pc lv [.long v] S :=
  fun p e s m args below meth c H locs ls C h1 h2 h3 h4 h5 hl => W.lret (v := v) C.1 C.2.1 (C.2.2.2.2.2.1.trans hr) (fun t ht _ => ⟨⟨_, S, rfl, hq, by rw [ht]; exact h3, h4⟩, h5.F ht⟩) h5.2.2 hd C.2.2.2.2.2.2
theorem ea_vret (hr : M.2.2.2 = none) (hd : decode M.2.1 pc = .ok (.return_, 1)) (hq : Q none S) : evAt G M (evFm G d Q) pc lv [] S :=
  fun p e s m args below meth c H locs ls C h1 h2 h3 h4 h5 hl => W.vret C.1 C.2.1 (C.2.2.2.2.2.1.trans hr) (fun t ht _ => ⟨⟨_, S, rfl, hq, by rw [ht]; exact h3, h4⟩, h5.F ht⟩) h5.2.2 hd C.2.2.2.2.2.2
theorem ea_aret {a : Nat} {n : String} (hr : M.2.2.2 = some (.object n)) (hd : decode M.2.1 pc = .ok (.areturn, 1)) (hq : Q (some (.ref a)) S) : evAt G M (evFm G d Q) pc lv [.ref a] S :=
  fun p e s m args below meth c H locs ls C h1 h2 h3 h4 h5 hl => W.aret (v := .ref a) C.1 C.2.1 (C.2.2.2.2.2.1.trans hr) (Or.inl ⟨_, rfl⟩) (Or.inr ⟨_, rfl⟩) (fun t ht _ => ⟨⟨_, S, rfl, hq, by rw [ht]; exact h3, h4⟩, h5.F ht⟩) h5.2.2 hd C.2.2.2.2.2.2
-- the heap
theorem ea_geti {idx kd x kf : Nat} (ok : evKOk kd) (hV : (kd, x) ∈ evKs G) (hk : kf < evN kd) (hr : evR kd kf = none) (hw : evFL M.1 idx kd kf) (hd : decode M.2.1 pc = .ok (.getfield idx, 3)) {pc' : Nat} (hp : pc + 3 = pc')
    (k : evAt G M F pc' lv (.int (S.1 kd x kf) :: st) S) : evAt G M F pc lv (.ref (evad G kd x) :: st) S := by
  subst hp
  intro p e s m args below meth c H locs ls C h1 h2 h3 h4 h5 hl
  obtain ⟨q0, h0⟩ := List.getElem?_of_mem hV
  obtain ⟨o1, o2, o3, o4, o5, o6⟩ := ok
  have he := evw_at (S := S) h0
  have hc : evc (evca G) (evad G) S kd x = .inr (evC kd, (List.range (evN kd)).map (evf (evad G) S kd x)) := by simp only [evc, o1]
  rw [hc] at he
  exact va_get (D := evD G) (C := (evQ kd).1) (T := (evQ kd).2.1) (N := (evQ kd).2.2) C.1 C.2.1 C.2.2.2.2.1 o3 C.2.2.2.1 h1.1 h3 q0 he o2 kf (by rw [← o6]; exact hk) (C.2.2.2.2.1 _ hw) (fun _ h9 => h9) (v := .int (S.1 kd x kf)) (by simp [hk, evf, hr]) hd (k p e s m args below meth c H locs ls C h1 h2 h3 h4 h5 hl)
theorem ea_getr {idx kd x kf k2 : Nat} (ok : evKOk kd) (hV : (kd, x) ∈ evKs G) (hk : kf < evN kd) (hr : evR kd kf = some k2) (hw : evFL M.1 idx kd kf) {x2 : Nat} (hx : evX kd kf x = x2) (hd : decode M.2.1 pc = .ok (.getfield idx, 3)) {pc' : Nat} (hp : pc + 3 = pc')
    (k : evAt G M F pc' lv (.ref (evad G k2 x2) :: st) S) : evAt G M F pc lv (.ref (evad G kd x) :: st) S := by
  subst hp
  subst hx
  intro p e s m args below meth c H locs ls C h1 h2 h3 h4 h5 hl
  obtain ⟨q0, h0⟩ := List.getElem?_of_mem hV
  obtain ⟨o1, o2, o3, o4, o5, o6⟩ := ok
  have he := evw_at (S := S) h0
  have hc : evc (evca G) (evad G) S kd x = .inr (evC kd, (List.range (evN kd)).map (evf (evad G) S kd x)) := by simp only [evc, o1]
  rw [hc] at he
  exact va_get (D := evD G) (C := (evQ kd).1) (T := (evQ kd).2.1) (N := (evQ kd).2.2) C.1 C.2.1 C.2.2.2.2.1 o3 C.2.2.2.1 h1.1 h3 q0 he o2 kf (by rw [← o6]; exact hk) (C.2.2.2.2.1 _ hw) (fun _ h9 => h9) (v := .ref (evad G k2 (evX kd kf x))) (by simp [hk, evf, hr]) hd (k p e s m args below meth c H locs ls C h1 h2 h3 h4 h5 hl)
theorem ea_getrN {idx kd x kf k2 : Nat} {host : String} (ok : evKOk kd) (hV : (kd, x) ∈ evKs G) (hk : kf < evN kd) (hr : evR kd kf = some k2) (hw : Cond.fieldLinkNest M.1 idx ((evQ kd).2.1 kf).1 ((evQ kd).2.1 kf).2.1 ((evQ kd).2.1 kf).2.2.1 host = evNF) {x2 : Nat} (hx : evX kd kf x = x2) (hd : decode M.2.1 pc = .ok (.getfield idx, 3)) {pc' : Nat} (hp : pc + 3 = pc')
    (k : evAt G M F pc' lv (.ref (evad G k2 x2) :: st) S) : evAt G M F pc lv (.ref (evad G kd x) :: st) S := by
  subst hp
  subst hx
  intro p e s m args below meth c H locs ls C h1 h2 h3 h4 h5 hl
  obtain ⟨q0, h0⟩ := List.getElem?_of_mem hV
  obtain ⟨o1, o2, o3, o4, o5, o6⟩ := ok
  have he := evw_at (S := S) h0
  have hc : evc (evca G) (evad G) S kd x = .inr (evC kd, (List.range (evN kd)).map (evf (evad G) S kd x)) := by simp only [evc, o1]
  rw [hc] at he
  exact va_getN (D := evD G) (C := (evQ kd).1) (T := (evQ kd).2.1) (N := (evQ kd).2.2) C.1 C.2.1 C.2.2.2.2.1 o3 C.2.2.2.1 h1.1 h3 q0 he o2 kf (by rw [← o6]; exact hk) (by rw [hw]; exact va_Nw.use rfl h1.2) (fun _ h9 => h9) (v := .ref (evad G k2 (evX kd kf x))) (by simp [hk, evf, hr]) hd (k p e s m args below meth c H locs ls C h1 h2 h3 h4 h5 hl)
theorem ea_putf {idx kd x kf : Nat} {v : Int32} (ok : evKOk kd) (hV : (kd, x) ∈ evKs G) (hk : kf < evN kd) (hr : evR kd kf = none) (hw : evFL M.1 idx kd kf) (hfin : ((evQ kd).2.1 kf).2.2.2 = false) {ty : FieldType} (hty : evY kd kf = ty) (hn : narrow ty (.int v) = .int v) (hfit : fits ty (.int v) = true) (hd : decode M.2.1 pc = .ok (.putfield idx, 3)) {pc' : Nat} (hp : pc + 3 = pc')
    (k : evAt G M F pc' lv st (evup S kd x kf v)) : evAt G M F pc lv (.int v :: .ref (evad G kd x) :: st) S := by
  subst hp
  intro p e s m args below meth c H locs ls C h1 h2 h3 h4 h5 hl
  obtain ⟨q0, h0⟩ := List.getElem?_of_mem hV
  obtain ⟨o1, o2, o3, o4, o5, o6⟩ := ok
  have he := evw_at (S := S) h0
  have hc : ∀ S : evS, evc (evca G) (evad G) S kd x = .inr (evC kd, (List.range (evN kd)).map (evf (evad G) S kd x)) := fun S => by simp only [evc, o1]
  rw [hc] at he
  have hD0 := h4
  refine va_put (D := evD G) (C := (evQ kd).1) (T := (evQ kd).2.1) (N := (evQ kd).2.2) C.1 C.2.1 C.2.2.2.2.1 o3 (evY kd) o4 o5 C.2.2.2.1 h1.1 h3 h4 h5 q0 he o2 kf (by rw [← o6]; exact hk) (C.2.2.2.2.1 _ hw) (fun _ h9 => h9) hfin (ty := ty) (v := .int v) (by rw [← hty]; exact o4 kf (by rw [← o6]; exact hk)) hn hfit (by simpa using hk) hd (fun H locs h3 h4 h5 => ?_)
  have e1 : (evw G S).set q0 (evad G kd x, .inr (evC kd, ((List.range (evN kd)).map (evf (evad G) S kd x)).set kf (.int v))) = evw G (evup S kd x kf v) := by
    refine evw_set hD0 h0 ?_ (fun a b h => evc_up (evup_ne h) rfl)
    rw [hc, evmap_set (g := evf (evad G) (evup S kd x kf v) kd x) hk]
    · simp [evf, hr, evup]
    · intro j hj
      unfold evf
      cases evR kd j <;> simp [evup, hj]
  rw [e1] at h3 h4
  exact (k p e s m args below meth c H locs ls C h1 h2 h3 h4 h5 hl)
theorem ea_puti {idx kd x kf : Nat} {v : Int32} (ok : evKOk kd) (hV : (kd, x) ∈ evKs G) (hk : kf < evN kd) (hr : evR kd kf = none) (hw : evFL M.1 idx kd kf) (hfin : ((evQ kd).2.1 kf).2.2.2 = false) (hty : evY kd kf = .int) (hd : decode M.2.1 pc = .ok (.putfield idx, 3)) {pc' : Nat} (hp : pc + 3 = pc')
    (k : evAt G M F pc' lv st (evup S kd x kf v)) : evAt G M F pc lv (.int v :: .ref (evad G kd x) :: st) S := ea_putf ok hV hk hr hw hfin hty rfl rfl hd hp k
theorem ea_putz {idx kd x kf : Nat} {v : Int32} (ok : evKOk kd) (hV : (kd, x) ∈ evKs G) (hk : kf < evN kd) (hr : evR kd kf = none) (hw : evFL M.1 idx kd kf) (hfin : ((evQ kd).2.1 kf).2.2.2 = false) (hty : evY kd kf = .boolean) (hv : v = 0 ∨ v = 1) (hd : decode M.2.1 pc = .ok (.putfield idx, 3)) {pc' : Nat} (hp : pc + 3 = pc')
    (k : evAt G M F pc' lv st (evup S kd x kf v)) : evAt G M F pc lv (.int v :: .ref (evad G kd x) :: st) S := ea_putf ok hV hk hr hw hfin hty (by rcases hv with rfl | rfl <;> decide +kernel) (by rcases hv with rfl | rfl <;> decide +kernel) hd hp k
theorem ea_iald {kd x : Nat} {i : Int32} (hV : (kd, x) ∈ evKs G) (hT : evT kd = 1) (hin : vp_in i (evN kd)) (hd : decode M.2.1 pc = .ok (.iaload, 1)) {j : Nat} (hj : i.toNatClampNeg = j) {pc' : Nat} (hp : pc + 1 = pc')
    (k : evAt G M F pc' lv (.int (S.1 kd x j) :: st) S) : evAt G M F pc lv (.int i :: .ref (evad G kd x) :: st) S := by
  subst hp
  subst hj
  intro p e s m args below meth c H locs ls C h1 h2 h3 h4 h5 hl
  obtain ⟨q0, h0⟩ := List.getElem?_of_mem hV
  have he := evw_at (S := S) h0
  have hc : evc (evca G) (evad G) S kd x = .inl (evca G 0, evN kd, .inl (S.1 kd x)) := by simp only [evc, hT]
  rw [hc] at he
  exact va_iald C.1 C.2.1 h1.1 h3 q0 0 he rfl hin hd (k p e s m args below meth c H locs ls C h1 h2 h3 h4 h5 hl)
theorem ea_lald {kd x : Nat} {i : Int32} (hV : (kd, x) ∈ evKs G) (hT : evT kd = 2) (hin : vp_in i (evN kd)) (hd : decode M.2.1 pc = .ok (.laload, 1)) {j : Nat} (hj : i.toNatClampNeg = j) {pc' : Nat} (hp : pc + 1 = pc')
    (k : evAt G M F pc' lv (.long (S.2 kd x j) :: st) S) : evAt G M F pc lv (.int i :: .ref (evad G kd x) :: st) S := by
  subst hp
  subst hj
  intro p e s m args below meth c H locs ls C h1 h2 h3 h4 h5 hl
  obtain ⟨q0, h0⟩ := List.getElem?_of_mem hV
  have he := evw_at (S := S) h0
  have hc : evc (evca G) (evad G) S kd x = .inl (evca G 1, evN kd, .inr (.inl (S.2 kd x))) := by simp only [evc, hT]
  rw [hc] at he
  exact va_lald C.1 C.2.1 h1.1 h3 q0 1 he rfl hin hd (k p e s m args below meth c H locs ls C h1 h2 h3 h4 h5 hl)
theorem ea_zald {kd x : Nat} {i : Int32} (hV : (kd, x) ∈ evKs G) (hT : evT kd = 3) (hin : vp_in i (evN kd)) (hd : decode M.2.1 pc = .ok (.baload, 1)) {j : Nat} (hj : i.toNatClampNeg = j) {pc' : Nat} (hp : pc + 1 = pc')
    (k : evAt G M F pc' lv (.int (S.1 kd x j) :: st) S) : evAt G M F pc lv (.int i :: .ref (evad G kd x) :: st) S := by
  subst hp
  subst hj
  intro p e s m args below meth c H locs ls C h1 h2 h3 h4 h5 hl
  obtain ⟨q0, h0⟩ := List.getElem?_of_mem hV
  have he := evw_at (S := S) h0
  have hc : evc (evca G) (evad G) S kd x = .inl (evca G 2, evN kd, .inl (S.1 kd x)) := by simp only [evc, hT]
  rw [hc] at he
  exact va_zald C.1 C.2.1 h1.1 h3 q0 2 he rfl hin hd (k p e s m args below meth c H locs ls C h1 h2 h3 h4 h5 hl)
theorem ea_aald {kd x t0 : Nat} {i : Int32} {cn : String} (hV : (kd, x) ∈ evKs G) (hT : evT kd = 4) (ht : (evtys (evca G))[t0]? = some (evca G (evA kd), .object cn)) (hin : vp_in i (evN kd)) (hd : decode M.2.1 pc = .ok (.aaload, 1)) {j : Nat} (hj : i.toNatClampNeg = j) {x2 : Nat} (hx : evEX kd x j = x2) {k2 : Nat} (hk2 : evE kd = k2) {pc' : Nat} (hp : pc + 1 = pc')
    (k : evAt G M F pc' lv (.ref (evad G k2 x2) :: st) S) : evAt G M F pc lv (.int i :: .ref (evad G kd x) :: st) S := by
  subst hp
  subst hx
  subst hk2
  subst hj
  intro p e s m args below meth c H locs ls C h1 h2 h3 h4 h5 hl
  obtain ⟨q0, h0⟩ := List.getElem?_of_mem hV
  have he := evw_at (S := S) h0
  have hc : evc (evca G) (evad G) S kd x = .inl (evca G (evA kd), evN kd, .inr (.inr (.inr (.inr (fun i => some (evad G (evE kd) (evEX kd x i))))))) := by simp only [evc, hT]
  rw [hc] at he
  exact va_aldq C.1 C.2.1 h1.1 h3 q0 t0 he ht hin hd (k p e s m args below meth c H locs ls C h1 h2 h3 h4 h5 hl)
theorem ea_iast {kd x : Nat} {i v : Int32} (hV : (kd, x) ∈ evKs G) (hT : evT kd = 1) (hin : vp_in i (evN kd)) (hd : decode M.2.1 pc = .ok (.iastore, 1)) {j : Nat} (hj : i.toNatClampNeg = j) {pc' : Nat} (hp : pc + 1 = pc')
    (k : evAt G M F pc' lv st (evup S kd x j v)) : evAt G M F pc lv (.int v :: .int i :: .ref (evad G kd x) :: st) S := by
  subst hp
  subst hj
  intro p e s m args below meth c H locs ls C h1 h2 h3 h4 h5 hl
  obtain ⟨q0, h0⟩ := List.getElem?_of_mem hV
  have he := evw_at (S := S) h0
  have hc : ∀ S : evS, evc (evca G) (evad G) S kd x = .inl (evca G 0, evN kd, .inl (S.1 kd x)) := fun S => by simp only [evc, hT]
  rw [hc] at he
  have hD0 := h4
  refine va_iast C.1 C.2.1 h1.1 h3 h4 h5 q0 0 he rfl hin hd (fun H locs h3 h4 h5 => ?_)
  have e1 : (evw G S).set q0 (evad G kd x, .inl (evca G 0, evN kd, .inl (upd (S.1 kd x) i.toNatClampNeg v))) = evw G (evup S kd x i.toNatClampNeg v) := by
    refine evw_set hD0 h0 ?_ (fun a b h => evc_up (evup_ne h) rfl)
    rw [hc, show (evup S kd x i.toNatClampNeg v).1 kd x = upd (S.1 kd x) i.toNatClampNeg v from by funext j; simp [evup, upd]]
  rw [e1] at h3 h4
  exact (k p e s m args below meth c H locs ls C h1 h2 h3 h4 h5 hl)
theorem ea_last {kd x : Nat} {i : Int32} {v : Int64} (hV : (kd, x) ∈ evKs G) (hT : evT kd = 2) (hin : vp_in i (evN kd)) (hd : decode M.2.1 pc = .ok (.lastore, 1)) {j : Nat} (hj : i.toNatClampNeg = j) {pc' : Nat} (hp : pc + 1 = pc')
    (k : evAt G M F pc' lv st (evupL S kd x j v)) : evAt G M F pc lv (.long v :: .int i :: .ref (evad G kd x) :: st) S := by
  subst hp
  subst hj
  intro p e s m args below meth c H locs ls C h1 h2 h3 h4 h5 hl
  obtain ⟨q0, h0⟩ := List.getElem?_of_mem hV
  have he := evw_at (S := S) h0
  have hc : ∀ S : evS, evc (evca G) (evad G) S kd x = .inl (evca G 1, evN kd, .inr (.inl (S.2 kd x))) := fun S => by simp only [evc, hT]
  rw [hc] at he
  have hD0 := h4
  refine va_last C.1 C.2.1 h1.1 h3 h4 h5 q0 1 he rfl hin hd (fun H locs h3 h4 h5 => ?_)
  have e1 : (evw G S).set q0 (evad G kd x, .inl (evca G 1, evN kd, .inr (.inl (vp_updL (S.2 kd x) i.toNatClampNeg v)))) = evw G (evupL S kd x i.toNatClampNeg v) := by
    refine evw_set hD0 h0 ?_ (fun a b h => evc_up rfl (evupL_ne h))
    rw [hc, show (evupL S kd x i.toNatClampNeg v).2 kd x = vp_updL (S.2 kd x) i.toNatClampNeg v from by funext j; simp [evupL, vp_updL]]
  rw [e1] at h3 h4
  exact (k p e s m args below meth c H locs ls C h1 h2 h3 h4 h5 hl)
theorem ea_zast {kd x : Nat} {i v : Int32} (hV : (kd, x) ∈ evKs G) (hT : evT kd = 3) (hv : v = 0 ∨ v = 1) (hin : vp_in i (evN kd)) (hd : decode M.2.1 pc = .ok (.bastore, 1)) {j : Nat} (hj : i.toNatClampNeg = j) {pc' : Nat} (hp : pc + 1 = pc')
    (k : evAt G M F pc' lv st (evup S kd x j v)) : evAt G M F pc lv (.int v :: .int i :: .ref (evad G kd x) :: st) S := by
  subst hp
  subst hj
  intro p e s m args below meth c H locs ls C h1 h2 h3 h4 h5 hl
  obtain ⟨q0, h0⟩ := List.getElem?_of_mem hV
  have he := evw_at (S := S) h0
  have hc : ∀ S : evS, evc (evca G) (evad G) S kd x = .inl (evca G 2, evN kd, .inl (S.1 kd x)) := fun S => by simp only [evc, hT]
  rw [hc] at he
  have hD0 := h4
  have hv' : vp_nar .boolean v = v := by rcases hv with rfl | rfl <;> decide +kernel
  refine va_zast C.1 C.2.1 h1.1 h3 h4 h5 q0 2 he rfl hin hd (fun H locs h3 h4 h5 => ?_)
  rw [hv'] at h3 h4
  have e1 : (evw G S).set q0 (evad G kd x, .inl (evca G 2, evN kd, .inl (upd (S.1 kd x) i.toNatClampNeg v))) = evw G (evup S kd x i.toNatClampNeg v) := by
    refine evw_set hD0 h0 ?_ (fun a b h => evc_up (evup_ne h) rfl)
    rw [hc, show (evup S kd x i.toNatClampNeg v).1 kd x = upd (S.1 kd x) i.toNatClampNeg v from by funext j; simp [evup, upd]]
  rw [e1] at h3 h4
  exact (k p e s m args below meth c H locs ls C h1 h2 h3 h4 h5 hl)
theorem ea_alen {kd x : Nat} {v : Int32} (hV : (kd, x) ∈ evKs G) (hT : evT kd = 1) (hv : Int32.ofNat (evN kd) = v) (hd : decode M.2.1 pc = .ok (.arraylength, 1)) {pc' : Nat} (hp : pc + 1 = pc')
    (k : evAt G M F pc' lv (.int v :: st) S) : evAt G M F pc lv (.ref (evad G kd x) :: st) S := by
  subst hp
  intro p e s m args below meth c H locs ls C h1 h2 h3 h4 h5 hl
  obtain ⟨q0, h0⟩ := List.getElem?_of_mem hV
  have he := evw_at (S := S) h0
  have hc : evc (evca G) (evad G) S kd x = .inl (evca G 0, evN kd, .inl (S.1 kd x)) := by simp only [evc, hT]
  rw [hc] at he
  exact va_alen C.1 C.2.1 h1.1 h3 q0 0 he rfl hv hd (k p e s m args below meth c H locs ls C h1 h2 h3 h4 h5 hl)
-- what nobody writes
theorem ea_slen (hd : decode M.2.1 pc = .ok (.arraylength, 1)) {pc' : Nat} (hp : pc + 1 = pc') (k : evAt G M F pc' lv (.int (Int32.ofNat (evL G)) :: st) S) : evAt G M F pc lv (.ref (evad G 60 0) :: st) S := by
  subst hp
  intro p e s m args below meth c H locs ls C h1 h2 h3 h4 h5 hl
  obtain ⟨cell, g1, g2, g3, g4, g5, g6, g7⟩ := h2.1
  exact W.alen (n := Int32.ofNat (evL G)) C.1 C.2.1 (by rw [h5.2.1 _ (Array.getElem?_eq_some_iff.mp g1).1 g7]; exact g1) g2 g5 rfl rfl hd (k p e s m args below meth c H locs ls C h1 h2 h3 h4 h5 hl)
theorem ea_sld {i : Int32} (hin : vp_in i (evL G)) (hd : decode M.2.1 pc = .ok (.iaload, 1)) {j : Nat} (hj : i.toNatClampNeg = j) {pc' : Nat} (hp : pc + 1 = pc') (k : evAt G M F pc' lv (.int (evxs G j) :: st) S) : evAt G M F pc lv (.int i :: .ref (evad G 60 0) :: st) S := by
  subst hp
  subst hj
  exact fun p e s m args below meth c H locs ls C h1 h2 h3 h4 h5 hl => va_ti C.1 C.2.1 h2.1 h5 hin rfl hd (k p e s m args below meth c H locs ls C h1 h2 h3 h4 h5 hl)
theorem ea_tl62 {i : Int32} (hin : vp_in i 4) (hd : decode M.2.1 pc = .ok (.iaload, 1)) {j : Nat} (hj : i.toNatClampNeg = j) {pc' : Nat} (hp : pc + 1 = pc') (k : evAt G M F pc' lv (.int (evst 62 j) :: st) S) : evAt G M F pc lv (.int i :: .ref (evad G 62 0) :: st) S := by
  subst hp
  subst hj
  exact fun p e s m args below meth c H locs ls C h1 h2 h3 h4 h5 hl => va_ti C.1 C.2.1 h2.2.2.1.2 h5 hin rfl hd (k p e s m args below meth c H locs ls C h1 h2 h3 h4 h5 hl)
theorem ea_tl63 {i : Int32} (hin : vp_in i 4) (hd : decode M.2.1 pc = .ok (.iaload, 1)) {j : Nat} (hj : i.toNatClampNeg = j) {pc' : Nat} (hp : pc + 1 = pc') (k : evAt G M F pc' lv (.int (evst 63 j) :: st) S) : evAt G M F pc lv (.int i :: .ref (evad G 63 0) :: st) S := by
  subst hp
  subst hj
  exact fun p e s m args below meth c H locs ls C h1 h2 h3 h4 h5 hl => va_ti C.1 C.2.1 h2.2.2.2.2 h5 hin rfl hd (k p e s m args below meth c H locs ls C h1 h2 h3 h4 h5 hl)
theorem ea_gs61 {idx : Nat} (hw : Cond.fieldLink M.1 idx RX3 "AT_FIRST" "[I" ∈ evtb) (hd : decode M.2.1 pc = .ok (.getstatic idx, 3)) {pc' : Nat} (hp : pc + 3 = pc') (k : evAt G M F pc' lv (.ref (evad G 61 0) :: st) S) : evAt G M F pc lv st S := by
  subst hp
  exact fun p e s m args below meth c H locs ls C h1 h2 h3 h4 h5 hl => va_gets C.1 C.2.1 h2.2.1.1 h5 C.2.2.2.1 (C.2.2.2.2.1 _ hw) (fun _ h9 => h9) hd (k p e s m args below meth c H locs ls C h1 h2 h3 h4 h5 hl)
theorem ea_gs62 {idx : Nat} (hw : Cond.fieldLink M.1 idx RX4 "LEAST_OF_LEG" "[I" ∈ evtb) (hd : decode M.2.1 pc = .ok (.getstatic idx, 3)) {pc' : Nat} (hp : pc + 3 = pc') (k : evAt G M F pc' lv (.ref (evad G 62 0) :: st) S) : evAt G M F pc lv st S := by
  subst hp
  exact fun p e s m args below meth c H locs ls C h1 h2 h3 h4 h5 hl => va_gets C.1 C.2.1 h2.2.2.1.1 h5 C.2.2.2.1 (C.2.2.2.2.1 _ hw) (fun _ h9 => h9) hd (k p e s m args below meth c H locs ls C h1 h2 h3 h4 h5 hl)
theorem ea_gs63 {idx : Nat} (hw : Cond.fieldLink M.1 idx RX4 "MOST_OF_LEG" "[I" ∈ evtb) (hd : decode M.2.1 pc = .ok (.getstatic idx, 3)) {pc' : Nat} (hp : pc + 3 = pc') (k : evAt G M F pc' lv (.ref (evad G 63 0) :: st) S) : evAt G M F pc lv st S := by
  subst hp
  exact fun p e s m args below meth c H locs ls C h1 h2 h3 h4 h5 hl => va_gets C.1 C.2.1 h2.2.2.2.1 h5 C.2.2.2.1 (C.2.2.2.2.1 _ hw) (fun _ h9 => h9) hd (k p e s m args below meth c H locs ls C h1 h2 h3 h4 h5 hl)
end EvRows
end
section
section EvCalls
variable {G : evG} {M : evM} {F : evF} {pc : Nat} {lv lv' : List (Nat × Value)} {st : List Value} {S : evS} {d : Nat} {Q : Option Value → evS → Prop}
set_option maxHeartbeats 4000000 in
/-- arraycopy out of a table that nobody writes -/
theorem ev_copyt {p : Program} {l : Launch} {e : Env} {R : Room} {s : State} {m : MethodId} {args : Array Value} {below : List Frame} {meth : Method} {c : Code} {H : Heap} {locs : List Loc} {cells slots : Nat} {Qw : State → Prop} {cc : ByteArray} {pc : Nat} {ls : Array Slot} {rest : List Value} {D : va_G} {cl : List vw_C} {A : Nat → Prop} {a : Nat} {tys : List (ClassId × FieldType)} {ws : va_W}
    (hexec : p.tables.exec = Jvm.exec) (hb : c.code = cc) (hml : c.maxLocals = ls.size) {own : String} {index : Nat} (hown : s.vm.findClass own = some m.cls) (hlink : (Cond.methodLink own index arraycopyName).before args s = true) (hnat : (Cond.native arraycopyName).before args s = true) (hstat : (Cond.static arraycopyName).before args s = true) (hini : (Cond.initialized "java/lang/System").before args s = true)
    (hK : va_K D cl tys s) (hP : va_P D cl ws H) (hD : va_D A ws) (hS : va_S A s.heap H locs) {b0 n0 : Nat} {f : Nat → Int32} (hX : va_T .int b0 n0 (fun j => .int (f j)) A s s.heap) (q1 t1 : Nat) {c1 : ClassId} {n1 : Nat} {g : Nat → Int32} (ha1 : ws[q1]? = some (a, .inl (c1, n1, .inl g))) (ht1 : tys[t1]? = some (c1, .int))
    {sp dp n : Int32} (h1 : ¬ sp < 0) (h2 : ¬ dp < 0) (h3 : ¬ n < 0) (h4 : sp.toNatClampNeg + n.toNatClampNeg ≤ n0) (h5 : dp.toNatClampNeg + n.toNatClampNeg ≤ n1)
    (hframes : 1 ≤ R.frames) (hlocals : (rest.map fun v => v.category).sum + (nativeFrameWords "java/lang/System" "arraycopy" 5 + 11) ≤ R.locals) (hdg : decode cc pc = .ok (.invokestatic index, 3))
    (kk : ∀ (H1 : Heap) (locs1 : List Loc), va_P D cl (ws.set q1 (a, .inl (c1, n1, .inl (va_cpy f g sp.toNatClampNeg dp.toNatClampNeg n.toNatClampNeg)))) H1 → va_D A (ws.set q1 (a, .inl (c1, n1, .inl (va_cpy f g sp.toNatClampNeg dp.toNatClampNeg n.toNatClampNeg)))) → va_S A s.heap H1 locs1 → W p l e R s m args below meth c H1 locs1 cells slots Qw (F0 m (pc + 3) ls rest)) : W p l e R s m args below meth c H locs cells slots Qw (F0 m pc ls (.int n :: .int dp :: .ref a :: .int sp :: .ref b0 :: rest)) := by
  have nn : ∀ z : Int32, ¬ z < 0 → z.toInt = (z.toNatClampNeg : Int) := by
    intro z hz
    have hz0 : (0 : Int) ≤ z.toInt := by
      have := Int32.not_lt.mp hz
      simpa using Int32.le_iff_toInt_le.mp this
    show z.toInt = ((z.toInt.toNat : Nat) : Int)
    omega
  intro T hT X
  obtain ⟨scr, hs1, hs2, hs3, hs4, -, hs5, hs7⟩ := hX
  have hc0 : H[b0]? = some scr := by rw [hS.2.1 b0 (Array.getElem?_eq_some_iff.mp hs1).1 hs7]; exact hs1
  have hc1 : H[a]? = some (vp_cell c1 (n1, .inl g)) := hP q1 _ ha1
  obtain ⟨hs6, k0, hk0, cm0, hkk0⟩ := hs2
  obtain ⟨-, k1, hk1, cm1, hkk1⟩ := (hK.2 t1 _ ht1).1 n1 (fun j => .int (g j))
  obtain ⟨vm', X', step⟩ := X.arraycopy hexec hown hlink hnat hstat hini (src := b0) (dst := a) (cs := scr) (cd := vp_cell c1 (n1, .inl g)) (srcPos := sp) (destPos := dp) (n := n) (by rw [hT]; exact hc0) (by rw [hT]; exact hc1)
    hs6 (fun _ h => by cases h) hs3 (fun h => by cases h) hk0 hk1 hkk0 hkk1 (by simp [refKind]) h1 h2 h3
    (by rw [nn sp h1, nn n h3]; omega)
    (by rw [nn dp h2, nn n h3]; show ¬ _ > ((arrV c1 n1 (fun j => .int (g j))).slots.size : Int); rw [arrV_size]; omega)
    (fun vm₁ _ i hi => by
      have e : scr.slots.getD (sp.toNatClampNeg + i) .null = .int (f (sp.toNatClampNeg + i)) := by
        rw [Array.getD_eq_getD_getElem?, hs5 _ (by omega)]
        rfl
      refine ⟨?_, ?_⟩
      · rw [e]
        rfl
      · rw [e]
        exact trivial)
    (g := F0 m pc ls (.int n :: .int dp :: .ref a :: .int sp :: .ref b0 :: rest)) rfl (by rw [hml]) (rest := rest) rfl (by rw [hb]; exact hdg) hframes (by show 2 * 0 + _ + _ ≤ _; omega)
  have e1 : copied scr (vp_cell c1 (n1, .inl g)) sp dp n = vp_cell c1 (n1, .inl (va_cpy f g sp.toNatClampNeg dp.toNatClampNeg n.toNatClampNeg)) := va_copiedX (fun z => .int z) scr c1 f g hs5 h4
  rw [e1] at X' step
  have hl : a < H.size := (Array.getElem?_eq_some_iff.mp hc1).1
  have hheap : ((T.setVm vm').setCell a (vp_cell c1 (n1, .inl (va_cpy f g sp.toNatClampNeg dp.toNatClampNeg n.toNatClampNeg)))).heap = H.setIfInBounds a (vp_cell c1 (n1, .inl (va_cpy f g sp.toNatClampNeg dp.toNatClampNeg n.toNatClampNeg))) := by rw [← hT]; rfl
  have oq : ∀ q : Nat, q ≠ a → (H.setIfInBounds a (vp_cell c1 (n1, .inl (va_cpy f g sp.toNatClampNeg dp.toNatClampNeg n.toNatClampNeg))))[q]? = H[q]? := fun q hq => by simp [Array.getElem?_setIfInBounds, Ne.symm hq]
  obtain ⟨t, a1, b1⟩ := kk _ _ (hP.set hD ha1 (show (H.setIfInBounds a _)[a]? = some _ by simp [Array.getElem?_setIfInBounds, hl]) oq) (hD.set ha1) ⟨by simp; exact hS.1, fun q g1 g2 => by
      rw [oq q (fun e => g2 (by rw [e]; exact hD.2 q1 _ ha1))]
      exact hS.2.1 q g1 g2, fun q hq => by
      rcases List.mem_append.mp hq with h | h
      · exact hS.2.2 q h
      · obtain ⟨z, -, hz⟩ := List.mem_map.mp h
        rw [← hz]
        exact hD.2 q1 _ ha1⟩ _ hheap X'
  exact ⟨t, step t a1, b1⟩
def evAC (own : String) (idx : Nat) : Prop := Cond.methodLink own idx arraycopyName ∈ evtb
theorem ev_ac1 : Cond.native arraycopyName ∈ evtb := ev_in (by decide +kernel) rfl
theorem ev_ac2 : Cond.static arraycopyName ∈ evtb := ev_in (by decide +kernel) rfl
theorem ev_ac3 : Cond.initialized "java/lang/System" ∈ evtb := ev_in (by decide +kernel) rfl
theorem ea_copyt {idx kd x : Nat} {n : Int32} (hV : (kd, x) ∈ evKs G) (hT : evT kd = 1) (hn : ¬ n < 0) (hn1 : n.toNatClampNeg ≤ 9) (hn2 : n.toNatClampNeg ≤ evN kd) (hw : evAC M.1 idx) (hfr : 1 ≤ F.1.frames) (hlo : (st.map fun v => v.category).sum + (nativeFrameWords "java/lang/System" "arraycopy" 5 + 11) ≤ F.1.locals) (hd : decode M.2.1 pc = .ok (.invokestatic idx, 3)) {pc' : Nat} (hp : pc + 3 = pc')
    (k : evAt G M F pc' lv st (evcpy S kd x (va_cpy (evst 61) (S.1 kd x) 0 0 n.toNatClampNeg))) : evAt G M F pc lv (.int n :: .int 0 :: .ref (evad G kd x) :: .int 0 :: .ref (evad G 61 0) :: st) S := by
  subst hp
  intro p e s m args below meth c H locs ls C h1 h2 h3 h4 h5 hl
  obtain ⟨q0, h0⟩ := List.getElem?_of_mem hV
  have he := evw_at (S := S) h0
  have hc : ∀ S : evS, evc (evca G) (evad G) S kd x = .inl (evca G 0, evN kd, .inl (S.1 kd x)) := fun S => by simp only [evc, hT]
  rw [hc] at he
  have hD0 := h4
  refine ev_copyt C.1 C.2.1 (by rw [C.2.2.1]; exact hl.1.symm) C.2.2.2.1 (C.2.2.2.2.1 _ hw) (C.2.2.2.2.1 _ ev_ac1) (C.2.2.2.2.1 _ ev_ac2) (C.2.2.2.2.1 _ ev_ac3) h1.1 h3 h4 h5 h2.2.1.2 q0 0 he rfl (by decide) (by decide) hn (by simpa using hn1) (by simpa using hn2) hfr hlo hd (fun H locs h3 h4 h5 => ?_)
  have e1 : (evw G S).set q0 (evad G kd x, .inl (evca G 0, evN kd, .inl (va_cpy (evst 61) (S.1 kd x) (0 : Int32).toNatClampNeg (0 : Int32).toNatClampNeg n.toNatClampNeg))) = evw G (evcpy S kd x (va_cpy (evst 61) (S.1 kd x) 0 0 n.toNatClampNeg)) := by
    refine evw_set hD0 h0 ?_ (fun a b h => evc_up (evcpy_ne h) rfl)
    rw [hc, show (evcpy S kd x (va_cpy (evst 61) (S.1 kd x) 0 0 n.toNatClampNeg)).1 kd x = va_cpy (evst 61) (S.1 kd x) 0 0 n.toNatClampNeg from by funext j; simp [evcpy]]
    rfl
  rw [e1] at h3 h4
  exact (k p e s m args below meth c H locs ls C h1 h2 h3 h4 h5 hl)
theorem ea_copyi {idx kd x kd2 x2 : Nat} {n : Int32} (hV : (kd, x) ∈ evKs G) (hT : evT kd = 1) (hV2 : (kd2, x2) ∈ evKs G) (hT2 : evT kd2 = 1) (hn : ¬ n < 0) (hn1 : n.toNatClampNeg ≤ evN kd2) (hn2 : n.toNatClampNeg ≤ evN kd) (hw : evAC M.1 idx) (hfr : 1 ≤ F.1.frames) (hlo : (st.map fun v => v.category).sum + (nativeFrameWords "java/lang/System" "arraycopy" 5 + 11) ≤ F.1.locals) (hd : decode M.2.1 pc = .ok (.invokestatic idx, 3)) {pc' : Nat} (hp : pc + 3 = pc')
    (k : evAt G M F pc' lv st (evcpy S kd x (va_cpy (S.1 kd2 x2) (S.1 kd x) 0 0 n.toNatClampNeg))) : evAt G M F pc lv (.int n :: .int 0 :: .ref (evad G kd x) :: .int 0 :: .ref (evad G kd2 x2) :: st) S := by
  subst hp
  intro p e s m args below meth c H locs ls C h1 h2 h3 h4 h5 hl
  obtain ⟨q0, h0⟩ := List.getElem?_of_mem hV
  obtain ⟨q2, h02⟩ := List.getElem?_of_mem hV2
  have he := evw_at (S := S) h0
  have he2 := evw_at (S := S) h02
  have hc : ∀ S : evS, evc (evca G) (evad G) S kd x = .inl (evca G 0, evN kd, .inl (S.1 kd x)) := fun S => by simp only [evc, hT]
  have hc2 : evc (evca G) (evad G) S kd2 x2 = .inl (evca G 0, evN kd2, .inl (S.1 kd2 x2)) := by simp only [evc, hT2]
  rw [hc] at he
  rw [hc2] at he2
  have hD0 := h4
  refine va_copyi C.1 C.2.1 (by rw [C.2.2.1]; exact hl.1.symm) C.2.2.2.1 (C.2.2.2.2.1 _ hw) (C.2.2.2.2.1 _ ev_ac1) (C.2.2.2.2.1 _ ev_ac2) (C.2.2.2.2.1 _ ev_ac3) h1.1 h3 h4 h5 q2 q0 0 0 he2 he rfl rfl rfl (by decide) (by decide) hn (by simpa using hn1) (by simpa using hn2) (fun _ _ => rfl) hfr hlo hd (fun H locs h3 h4 h5 => ?_)
  have e1 : (evw G S).set q0 (evad G kd x, .inl (evca G 0, evN kd, .inl (va_cpy (S.1 kd2 x2) (S.1 kd x) (0 : Int32).toNatClampNeg (0 : Int32).toNatClampNeg n.toNatClampNeg))) = evw G (evcpy S kd x (va_cpy (S.1 kd2 x2) (S.1 kd x) 0 0 n.toNatClampNeg)) := by
    refine evw_set hD0 h0 ?_ (fun a b h => evc_up (evcpy_ne h) rfl)
    rw [hc, show (evcpy S kd x (va_cpy (S.1 kd2 x2) (S.1 kd x) 0 0 n.toNatClampNeg)).1 kd x = va_cpy (S.1 kd2 x2) (S.1 kd x) 0 0 n.toNatClampNeg from by funext j; simp [evcpy]]
    rfl
  rw [e1] at h3 h4
  exact (k p e s m args below meth c H locs ls C h1 h2 h3 h4 h5 hl)
-- calls
theorem ev_good : ∀ w ∈ evtb, goodWord w = true := fun _ h => (List.mem_filter.mp h).2
def evMO (y : MethodName) (M : evM) (n : Nat) : Prop := (y.cls ≠ "java/lang/invoke/MethodHandle" ∧ y.cls ≠ "java/lang/invoke/VarHandle" ∧ (parseMethodDescriptor y.desc).map (fun d => d.parameters.length) = some n) ∧ Cond.code y M.2.1 M.2.2.1 M.2.2.2 ∈ evtb ∧ Cond.initialized y.cls ∈ evtb
def evMV (y : MethodName) (M : evM) (n : Nat) : Prop := evMO y M n ∧ Cond.instanceMethod y ∈ evtb ∧ Cond.selects y.cls y y ∈ evtb
def evMS (y : MethodName) (M : evM) (n : Nat) : Prop := evMO y M n ∧ Cond.static y ∈ evtb
def evML (own : String) (idx : Nat) (y : MethodName) : Prop := Cond.methodLink own idx y ∈ evtb
theorem ev_gw {ws : List Cond} (h : ∀ w ∈ ws, w ∈ evtb) : GoodIn evtb ws := fun w hw => ⟨h w hw, good_of_word (ev_good w (h w hw))⟩
theorem ev_blind {as : List Value} : FrameBlind (evPr G as S) := fun a U g mk q => by
  obtain ⟨q1, q2, q3, q4, q5⟩ := q
  exact ⟨q1, q2, q3, ⟨va_K.moved (u := U) (U := U.calling g mk a) (Vm.Alike.refl U.vm) q4.1, va_Nw.same rfl rfl q4.2⟩, evRO.moved (u := U) (U := U.calling g mk a) (Vm.Alike.refl U.vm) q5⟩
theorem ev_after {p : Program} {e : Env} {s : State} {m : MethodId} {args : Array Value} {below : List Frame} {meth : Method} {c : Code} {H : Heap} {locs : List Loc} {ls : Array Slot} {a : Array Value} {st0 : List Value}
    (C : evCx M p s m args meth c) (h1 : evKK G s) (h2 : evRO G s s.heap) (h5 : va_S (evAA G) s.heap H locs) (hl : lv_has ls M.2.2.1 lv)
    (hr : va_Run p (evl G) e F.1 s m args below meth c H locs F.2.1 F.2.2.1 0 0 (F0 m pc ls st0) st (evPo G Q a) (evAA G))
    (k : ∀ o S', Q o S' → evAt G M F (pc + 3) lv (o.toList ++ st) S') : W p (evl G) e F.1 s m args below meth c H locs F.2.1 F.2.2.1 (F.2.2.2 below args s) (F0 m pc ls st0) := by
  intro T hT X
  obtain ⟨v, st₀, t, T', L, h0, X', hL, e1, e2, ⟨⟨r, S', hv, hp, hb, hd⟩, hz, hk⟩, st9⟩ := hr T hT X
  cases hv
  rw [h0] at hz hk
  obtain ⟨t2, a1, b1⟩ := k _ S' hp p e s m args below meth c T'.heap (locs ++ L) ls C h1 h2 (by rw [e1]; exact hb) hd
    ⟨Nat.le_trans h5.1 (by rw [e1]; exact hz), fun q g1 g2 => by rw [e1, hk q (Nat.lt_of_lt_of_le g1 h5.1) g2]; exact h5.2.1 q g1 g2, fun q hq => by
      rcases List.mem_append.mp hq with h | h
      · exact h5.2.2 q h
      · exact hL q h⟩ hl T' rfl X'
  exact ⟨t2, st9 t2 a1, b1⟩
theorem ea_cv {y : MethodName} {M' : evM} {idx n kd x : Nat} {As : List Value} {stk : List Value} (hy : evMV y M' n) (hw : evML M.1 idx y) (ok : evKOk kd) (hV : (kd, x) ∈ evKs G) (hcl : (evQ kd).1 = y.cls) (hn : As.length = n) (hd : decode M.2.1 pc = .ok (.invokevirtual idx, 3)) (hstk : stk = As.reverse ++ .ref (evad G kd x) :: st) (hcat : (st.map fun v => v.category).sum ≤ 8) (hR : d + 1 ≤ F.1.frames ∧ 8 + (M'.2.2.1 + 11) + 40 * d ≤ F.1.locals) (hf : F.2.1 ≤ F.1.cells ∧ F.2.2.1 ≤ F.1.slots)
    (hS : evSp G y M' d (.ref (evad G kd x) :: As) S Q) {pc' : Nat} (hp : pc + 3 = pc') (k : ∀ o S', Q o S' → evAt G M F pc' lv (o.toList ++ st) S') : evAt G M F pc lv stk S := by
  subst hp
  subst hstk
  intro p e s m args below meth c H locs ls C h1 h2 h3 h4 h5 hl
  obtain ⟨q0, h0⟩ := List.getElem?_of_mem hV
  obtain ⟨o1, o2, o3, o4, o5, o6⟩ := ok
  have he := evw_at (S := S) h0
  have hc : evc (evca G) (evad G) S kd x = .inr (evC kd, (List.range (evN kd)).map (evf (evad G) S kd x)) := by simp only [evc, o1]
  rw [hc] at he
  have hrecv := va_recv h1.1 h3 o2 he
  rw [hcl] at hrecv
  refine ev_after C h1 h2 h5 hl (va_runV (As := As) (rest := st) (C := y.cls) (b := evad G kd x) (bytes := M'.2.1) (maxL := M'.2.2.1) (ret := M'.2.2.2) (n := n) (Ts := evtb) ⟨C.1, C.2.1, C.2.2.1, C.2.2.2.1, C.2.2.2.2.1⟩ hS (cwV n C.2.2.2.2.1 (ev_gw ?_) rfl rfl rfl ⟨rfl, hy.1.1⟩ hR) ⟨ev_blind, hrecv, fun U hU hW => ⟨rfl, by rw [hU]; exact h3, h4, ⟨va_K.moved hW.alike h1.1, h1.2.warmF hW⟩, ?_⟩⟩ rfl hn hl.1 rfl (lv_room hcat) hd ⟨hf.1, hf.2⟩) k
  · intro w hw'
    unfold wsV at hw'
    simp only [List.mem_append, List.mem_cons, List.mem_nil_iff, or_false] at hw'
    rcases hw' with (rfl | rfl | rfl | rfl) | rfl | h
    · exact hw
    · exact hy.2.1
    · exact hy.2.2
    · exact hy.1.2.2
    · exact hy.1.2.1
    · exact h
  · rw [hU]
    exact (h2.moved hW.alike).kept (fun a g1 g2 => h5.2.1 a g1 g2)
theorem ea_cs {y : MethodName} {M' : evM} {idx n : Nat} {As : List Value} {stk : List Value} (hy : evMS y M' n) (hw : evML M.1 idx y) (hn : As.length = n) (hd : decode M.2.1 pc = .ok (.invokestatic idx, 3)) (hstk : stk = As.reverse ++ st) (hcat : (st.map fun v => v.category).sum ≤ 8) (hR : d + 1 ≤ F.1.frames ∧ 8 + (M'.2.2.1 + 11) + 40 * d ≤ F.1.locals) (hf : F.2.1 ≤ F.1.cells ∧ F.2.2.1 ≤ F.1.slots)
    (hS : evSp G y M' d As S Q) {pc' : Nat} (hp : pc + 3 = pc') (k : ∀ o S', Q o S' → evAt G M F pc' lv (o.toList ++ st) S') : evAt G M F pc lv stk S := by
  subst hp
  subst hstk
  intro p e s m args below meth c H locs ls C h1 h2 h3 h4 h5 hl
  refine ev_after C h1 h2 h5 hl (va_runS (As := As) (rest := st) (bytes := M'.2.1) (maxL := M'.2.2.1) (ret := M'.2.2.2) (n := n) (Ts := evtb) ⟨C.1, C.2.1, C.2.2.1, C.2.2.2.1, C.2.2.2.2.1⟩ hS (va_cwS n C.2.2.2.2.1 (ev_gw ?_) rfl rfl rfl hy.1.1 hR) ⟨ev_blind, fun U hU hW => ⟨rfl, by rw [hU]; exact h3, h4, ⟨va_K.moved hW.alike h1.1, h1.2.warmF hW⟩, ?_⟩⟩ rfl hn hl.1 rfl (lv_room hcat) hd ⟨hf.1, hf.2⟩) k
  · intro w hw'
    unfold va_wsS at hw'
    simp only [List.mem_append, List.mem_cons, List.mem_nil_iff, or_false] at hw'
    rcases hw' with (rfl | rfl | rfl) | rfl | h
    · exact hw
    · exact hy.2
    · exact hy.1.2.2
    · exact hy.1.2.1
    · exact h
  · rw [hU]
    exact (h2.moved hW.alike).kept (fun a g1 g2 => h5.2.1 a g1 g2)
theorem ev_room {n d : Nat} (h : n ≤ 21) : d + 1 ≤ (evrm (d + 1)).frames ∧ 8 + (n + 11) + 40 * d ≤ (evrm (d + 1)).locals := by
  unfold evrm
  refine ⟨Nat.le_refl _, ?_⟩
  show 8 + (n + 11) + 40 * d ≤ 40 * (d + 1)
  omega
/-- what the keys refer to is there -/
def evCl (G : evG) : Prop := (∀ kd x k k2 : Nat, (kd, x) ∈ evKs G → evR kd k = some k2 → (k2, evX kd k x) ∈ evKs G) ∧ ∀ kd x i : Nat, (kd, x) ∈ evKs G → evT kd = 4 → i < evN kd → (evE kd, evEX kd x i) ∈ evKs G
theorem ev_cle {kd x n k2 x2 : Nat} {i : Int32} (h : evCl G) (hV : (kd, x) ∈ evKs G) (hT : evT kd = 4) (hn : evN kd = n) (hi : vp_in i n) {j : Nat} (hj : i.toNatClampNeg = j) (hk : evE kd = k2) (hx : evEX kd x j = x2) : (k2, x2) ∈ evKs G := by
  subst hk
  subst hx
  subst hj
  refine h.2 kd x _ hV hT ?_
  rw [hn]
  exact Nat.not_le.mp fun q => hi (Or.inr q)
theorem ea_cvi {y : MethodName} {M' : evM} {idx n kd x : Nat} {As : List Value} {stk : List Value} {q : Int32 → evS → Prop} (hy : evMV y M' n) (hw : evML M.1 idx y) (ok : evKOk kd) (hV : (kd, x) ∈ evKs G) (hcl : (evQ kd).1 = y.cls) (hn : As.length = n) (hd : decode M.2.1 pc = .ok (.invokevirtual idx, 3)) (hstk : stk = As.reverse ++ .ref (evad G kd x) :: st) (hcat : (st.map fun v => v.category).sum ≤ 8) (hR : d + 1 ≤ F.1.frames ∧ 8 + (M'.2.2.1 + 11) + 40 * d ≤ F.1.locals) (hf : F.2.1 ≤ F.1.cells ∧ F.2.2.1 ≤ F.1.slots)
    (hS : evSp G y M' d (.ref (evad G kd x) :: As) S (evQI q)) {pc' : Nat} (hp : pc + 3 = pc') (k : ∀ r S', q r S' → evAt G M F pc' lv (.int r :: st) S') : evAt G M F pc lv stk S :=
  ea_cv hy hw ok hV hcl hn hd hstk hcat hR hf hS hp (fun o S' h => by obtain ⟨r, rfl, h⟩ := h; exact k r S' h)
theorem ea_cvl {y : MethodName} {M' : evM} {idx n kd x : Nat} {As : List Value} {stk : List Value} {q : Int64 → evS → Prop} (hy : evMV y M' n) (hw : evML M.1 idx y) (ok : evKOk kd) (hV : (kd, x) ∈ evKs G) (hcl : (evQ kd).1 = y.cls) (hn : As.length = n) (hd : decode M.2.1 pc = .ok (.invokevirtual idx, 3)) (hstk : stk = As.reverse ++ .ref (evad G kd x) :: st) (hcat : (st.map fun v => v.category).sum ≤ 8) (hR : d + 1 ≤ F.1.frames ∧ 8 + (M'.2.2.1 + 11) + 40 * d ≤ F.1.locals) (hf : F.2.1 ≤ F.1.cells ∧ F.2.2.1 ≤ F.1.slots)
    (hS : evSp G y M' d (.ref (evad G kd x) :: As) S (evQL q)) {pc' : Nat} (hp : pc + 3 = pc') (k : ∀ r S', q r S' → evAt G M F pc' lv (.long r :: st) S') : evAt G M F pc lv stk S :=
  ea_cv hy hw ok hV hcl hn hd hstk hcat hR hf hS hp (fun o S' h => by obtain ⟨r, rfl, h⟩ := h; exact k r S' h)
theorem ea_cvv {y : MethodName} {M' : evM} {idx n kd x : Nat} {As : List Value} {stk : List Value} {q : evS → Prop} (hy : evMV y M' n) (hw : evML M.1 idx y) (ok : evKOk kd) (hV : (kd, x) ∈ evKs G) (hcl : (evQ kd).1 = y.cls) (hn : As.length = n) (hd : decode M.2.1 pc = .ok (.invokevirtual idx, 3)) (hstk : stk = As.reverse ++ .ref (evad G kd x) :: st) (hcat : (st.map fun v => v.category).sum ≤ 8) (hR : d + 1 ≤ F.1.frames ∧ 8 + (M'.2.2.1 + 11) + 40 * d ≤ F.1.locals) (hf : F.2.1 ≤ F.1.cells ∧ F.2.2.1 ≤ F.1.slots)
    (hS : evSp G y M' d (.ref (evad G kd x) :: As) S (evQV q)) {pc' : Nat} (hp : pc + 3 = pc') (k : ∀ S', q S' → evAt G M F pc' lv st S') : evAt G M F pc lv stk S :=
  ea_cv hy hw ok hV hcl hn hd hstk hcat hR hf hS hp (fun o S' h => by obtain ⟨rfl, h⟩ := h; exact k S' h)
theorem ea_cvr {y : MethodName} {M' : evM} {idx n kd x : Nat} {As : List Value} {stk : List Value} {q : evS → Prop} {a : Nat} (hy : evMV y M' n) (hw : evML M.1 idx y) (ok : evKOk kd) (hV : (kd, x) ∈ evKs G) (hcl : (evQ kd).1 = y.cls) (hn : As.length = n) (hd : decode M.2.1 pc = .ok (.invokevirtual idx, 3)) (hstk : stk = As.reverse ++ .ref (evad G kd x) :: st) (hcat : (st.map fun v => v.category).sum ≤ 8) (hR : d + 1 ≤ F.1.frames ∧ 8 + (M'.2.2.1 + 11) + 40 * d ≤ F.1.locals) (hf : F.2.1 ≤ F.1.cells ∧ F.2.2.1 ≤ F.1.slots)
    (hS : evSp G y M' d (.ref (evad G kd x) :: As) S (evQR a q)) {pc' : Nat} (hp : pc + 3 = pc') (k : ∀ S', q S' → evAt G M F pc' lv (.ref a :: st) S') : evAt G M F pc lv stk S :=
  ea_cv hy hw ok hV hcl hn hd hstk hcat hR hf hS hp (fun o S' h => by obtain ⟨rfl, h⟩ := h; exact k S' h)
theorem ea_csi {y : MethodName} {M' : evM} {idx n : Nat} {As : List Value} {stk : List Value} {q : Int32 → evS → Prop} (hy : evMS y M' n) (hw : evML M.1 idx y) (hn : As.length = n) (hd : decode M.2.1 pc = .ok (.invokestatic idx, 3)) (hstk : stk = As.reverse ++ st) (hcat : (st.map fun v => v.category).sum ≤ 8) (hR : d + 1 ≤ F.1.frames ∧ 8 + (M'.2.2.1 + 11) + 40 * d ≤ F.1.locals) (hf : F.2.1 ≤ F.1.cells ∧ F.2.2.1 ≤ F.1.slots)
    (hS : evSp G y M' d (As) S (evQI q)) {pc' : Nat} (hp : pc + 3 = pc') (k : ∀ r S', q r S' → evAt G M F pc' lv (.int r :: st) S') : evAt G M F pc lv stk S :=
  ea_cs hy hw hn hd hstk hcat hR hf hS hp (fun o S' h => by obtain ⟨r, rfl, h⟩ := h; exact k r S' h)
theorem ea_csl {y : MethodName} {M' : evM} {idx n : Nat} {As : List Value} {stk : List Value} {q : Int64 → evS → Prop} (hy : evMS y M' n) (hw : evML M.1 idx y) (hn : As.length = n) (hd : decode M.2.1 pc = .ok (.invokestatic idx, 3)) (hstk : stk = As.reverse ++ st) (hcat : (st.map fun v => v.category).sum ≤ 8) (hR : d + 1 ≤ F.1.frames ∧ 8 + (M'.2.2.1 + 11) + 40 * d ≤ F.1.locals) (hf : F.2.1 ≤ F.1.cells ∧ F.2.2.1 ≤ F.1.slots)
    (hS : evSp G y M' d (As) S (evQL q)) {pc' : Nat} (hp : pc + 3 = pc') (k : ∀ r S', q r S' → evAt G M F pc' lv (.long r :: st) S') : evAt G M F pc lv stk S :=
  ea_cs hy hw hn hd hstk hcat hR hf hS hp (fun o S' h => by obtain ⟨r, rfl, h⟩ := h; exact k r S' h)
theorem ea_csv {y : MethodName} {M' : evM} {idx n : Nat} {As : List Value} {stk : List Value} {q : evS → Prop} (hy : evMS y M' n) (hw : evML M.1 idx y) (hn : As.length = n) (hd : decode M.2.1 pc = .ok (.invokestatic idx, 3)) (hstk : stk = As.reverse ++ st) (hcat : (st.map fun v => v.category).sum ≤ 8) (hR : d + 1 ≤ F.1.frames ∧ 8 + (M'.2.2.1 + 11) + 40 * d ≤ F.1.locals) (hf : F.2.1 ≤ F.1.cells ∧ F.2.2.1 ≤ F.1.slots)
    (hS : evSp G y M' d (As) S (evQV q)) {pc' : Nat} (hp : pc + 3 = pc') (k : ∀ S', q S' → evAt G M F pc' lv st S') : evAt G M F pc lv stk S :=
  ea_cs hy hw hn hd hstk hcat hR hf hS hp (fun o S' h => by obtain ⟨rfl, h⟩ := h; exact k S' h)
theorem ea_csr {y : MethodName} {M' : evM} {idx n : Nat} {As : List Value} {stk : List Value} {q : evS → Prop} {a : Nat} (hy : evMS y M' n) (hw : evML M.1 idx y) (hn : As.length = n) (hd : decode M.2.1 pc = .ok (.invokestatic idx, 3)) (hstk : stk = As.reverse ++ st) (hcat : (st.map fun v => v.category).sum ≤ 8) (hR : d + 1 ≤ F.1.frames ∧ 8 + (M'.2.2.1 + 11) + 40 * d ≤ F.1.locals) (hf : F.2.1 ≤ F.1.cells ∧ F.2.2.1 ≤ F.1.slots)
    (hS : evSp G y M' d (As) S (evQR a q)) {pc' : Nat} (hp : pc + 3 = pc') (k : ∀ S', q S' → evAt G M F pc' lv (.ref a :: st) S') : evAt G M F pc lv stk S :=
  ea_cs hy hw hn hd hstk hcat hR hf hS hp (fun o S' h => by obtain ⟨rfl, h⟩ := h; exact k S' h)
end EvCalls
end
section
set_option maxRecDepth 100000 in
theorem kok_0 : evKOk 0 := ⟨rfl, rfl, fun w h => ev_in ((show ∀ w ∈ u_ws RX5 TX5 12, w ∈ lw_tbl ∧ goodWord w = true by decide +kernel) w h).1 ((show ∀ w ∈ u_ws RX5 TX5 12, w ∈ lw_tbl ∧ goodWord w = true by decide +kernel) w h).2, tyX5_ok, nmX5, rfl⟩
set_option maxRecDepth 100000 in
theorem kok_1 : evKOk 1 := ⟨rfl, rfl, fun w h => ev_in ((show ∀ w ∈ u_ws RX0 TX0 1, w ∈ lw_tbl ∧ goodWord w = true by decide +kernel) w h).1 ((show ∀ w ∈ u_ws RX0 TX0 1, w ∈ lw_tbl ∧ goodWord w = true by decide +kernel) w h).2, tyX0_ok, nmX0, rfl⟩
set_option maxRecDepth 100000 in
theorem kok_3 : evKOk 3 := ⟨rfl, rfl, fun w h => ev_in ((show ∀ w ∈ u_ws RX3 TX3 2, w ∈ lw_tbl ∧ goodWord w = true by decide +kernel) w h).1 ((show ∀ w ∈ u_ws RX3 TX3 2, w ∈ lw_tbl ∧ goodWord w = true by decide +kernel) w h).2, tyX3_ok, nmX3, rfl⟩
set_option maxRecDepth 100000 in
theorem kok_6 : evKOk 6 := ⟨rfl, rfl, fun w h => ev_in ((show ∀ w ∈ u_ws RX2 TX2 14, w ∈ lw_tbl ∧ goodWord w = true by decide +kernel) w h).1 ((show ∀ w ∈ u_ws RX2 TX2 14, w ∈ lw_tbl ∧ goodWord w = true by decide +kernel) w h).2, tyX2_ok, nmX2, rfl⟩
set_option maxRecDepth 100000 in
theorem kok_16 : evKOk 16 := ⟨rfl, rfl, fun w h => ev_in ((show ∀ w ∈ u_ws RX1 TX1 3, w ∈ lw_tbl ∧ goodWord w = true by decide +kernel) w h).1 ((show ∀ w ∈ u_ws RX1 TX1 3, w ∈ lw_tbl ∧ goodWord w = true by decide +kernel) w h).2, tyX1_ok, nmX1, rfl⟩
set_option maxRecDepth 100000 in
theorem kok_18 : evKOk 18 := ⟨rfl, rfl, fun w h => ev_in ((show ∀ w ∈ u_ws RX4 TX4 8, w ∈ lw_tbl ∧ goodWord w = true by decide +kernel) w h).1 ((show ∀ w ∈ u_ws RX4 TX4 8, w ∈ lw_tbl ∧ goodWord w = true by decide +kernel) w h).2, tyX4_ok, nmX4, rfl⟩
set_option maxRecDepth 100000 in
theorem kok_30 : evKOk 30 := ⟨rfl, rfl, fun w h => ev_in ((show ∀ w ∈ u_ws RX6 TX6 25, w ∈ lw_tbl ∧ goodWord w = true by decide +kernel) w h).1 ((show ∀ w ∈ u_ws RX6 TX6 25, w ∈ lw_tbl ∧ goodWord w = true by decide +kernel) w h).2, tyX6_ok, nmX6, rfl⟩
abbrev M_J6_bitCount_0f7a4 : evM := (RJ6, cJ6_bitCount_0f7a4, 1, (some FieldType.int))
set_option maxRecDepth 100000 in
theorem mv_J6_bitCount_0f7a4 : evMS yJ6_bitCount_0f7a4 M_J6_bitCount_0f7a4 1 := ⟨⟨⟨by decide +kernel, by decide +kernel, by decide +kernel⟩, ev_in (List.mem_of_getElem? (i := 611) rfl) rfl, ev_in (List.mem_of_getElem? (i := 68) rfl) rfl⟩, ev_in (List.mem_of_getElem? (i := 610) rfl) rfl⟩
abbrev M_J7_fill_53178 : evM := (RJ7, cJ7_fill_53178, 4, none)
set_option maxRecDepth 100000 in
theorem mv_J7_fill_53178 : evMS yJ7_fill_53178 M_J7_fill_53178 2 := ⟨⟨⟨by decide +kernel, by decide +kernel, by decide +kernel⟩, ev_in (List.mem_of_getElem? (i := 101) rfl) rfl, ev_in (List.mem_of_getElem? (i := 62) rfl) rfl⟩, ev_in (List.mem_of_getElem? (i := 100) rfl) rfl⟩
abbrev M_J9_abs_0f7a4 : evM := (RJ9, cJ9_abs_0f7a4, 1, (some FieldType.int))
set_option maxRecDepth 100000 in
theorem mv_J9_abs_0f7a4 : evMS yJ9_abs_0f7a4 M_J9_abs_0f7a4 1 := ⟨⟨⟨by decide +kernel, by decide +kernel, by decide +kernel⟩, ev_in (List.mem_of_getElem? (i := 409) rfl) rfl, ev_in (List.mem_of_getElem? (i := 67) rfl) rfl⟩, ev_in (List.mem_of_getElem? (i := 408) rfl) rfl⟩
abbrev M_J9_floorDiv_7cf53 : evM := (RJ9, cJ9_floorDiv_7cf53, 3, (some FieldType.int))
set_option maxRecDepth 100000 in
theorem mv_J9_floorDiv_7cf53 : evMS yJ9_floorDiv_7cf53 M_J9_floorDiv_7cf53 2 := ⟨⟨⟨by decide +kernel, by decide +kernel, by decide +kernel⟩, ev_in (List.mem_of_getElem? (i := 441) rfl) rfl, ev_in (List.mem_of_getElem? (i := 67) rfl) rfl⟩, ev_in (List.mem_of_getElem? (i := 440) rfl) rfl⟩
abbrev M_J9_max_7cf53 : evM := (RJ9, cJ9_max_7cf53, 2, (some FieldType.int))
set_option maxRecDepth 100000 in
theorem mv_J9_max_7cf53 : evMS yJ9_max_7cf53 M_J9_max_7cf53 2 := ⟨⟨⟨by decide +kernel, by decide +kernel, by decide +kernel⟩, ev_in (List.mem_of_getElem? (i := 377) rfl) rfl, ev_in (List.mem_of_getElem? (i := 67) rfl) rfl⟩, ev_in (List.mem_of_getElem? (i := 376) rfl) rfl⟩
abbrev M_J9_min_7cf53 : evM := (RJ9, cJ9_min_7cf53, 2, (some FieldType.int))
set_option maxRecDepth 100000 in
theorem mv_J9_min_7cf53 : evMS yJ9_min_7cf53 M_J9_min_7cf53 2 := ⟨⟨⟨by decide +kernel, by decide +kernel, by decide +kernel⟩, ev_in (List.mem_of_getElem? (i := 316) rfl) rfl, ev_in (List.mem_of_getElem? (i := 67) rfl) rfl⟩, ev_in (List.mem_of_getElem? (i := 315) rfl) rfl⟩
abbrev M_J9_min_f86c9 : evM := (RJ9, cJ9_min_f86c9, 4, (some FieldType.long))
set_option maxRecDepth 100000 in
theorem mv_J9_min_f86c9 : evMS yJ9_min_f86c9 M_J9_min_f86c9 2 := ⟨⟨⟨by decide +kernel, by decide +kernel, by decide +kernel⟩, ev_in (List.mem_of_getElem? (i := 455) rfl) rfl, ev_in (List.mem_of_getElem? (i := 67) rfl) rfl⟩, ev_in (List.mem_of_getElem? (i := 454) rfl) rfl⟩
abbrev M_X0_becomeLike : evM := (RX0, cX0_becomeLike, 3, none)
set_option maxRecDepth 100000 in
theorem mv_X0_becomeLike : evMV yX0_becomeLike M_X0_becomeLike 1 := ⟨⟨⟨by decide +kernel, by decide +kernel, by decide +kernel⟩, ev_in (List.mem_of_getElem? (i := 355) rfl) rfl, ev_in (List.mem_of_getElem? (i := 59) rfl) rfl⟩, ev_in (List.mem_of_getElem? (i := 353) rfl) rfl, ev_in (List.mem_of_getElem? (i := 354) rfl) rfl⟩
abbrev M_X0_init : evM := (RX0, cX0_init, 2, none)
abbrev M_X0_legsInAll : evM := (RX0, cX0_legsInAll, 3, (some FieldType.int))
set_option maxRecDepth 100000 in
theorem mv_X0_legsInAll : evMV yX0_legsInAll M_X0_legsInAll 0 := ⟨⟨⟨by decide +kernel, by decide +kernel, by decide +kernel⟩, ev_in (List.mem_of_getElem? (i := 628) rfl) rfl, ev_in (List.mem_of_getElem? (i := 59) rfl) rfl⟩, ev_in (List.mem_of_getElem? (i := 626) rfl) rfl, ev_in (List.mem_of_getElem? (i := 627) rfl) rfl⟩
abbrev M_X1_init : evM := (RX1, cX1_init, 2, none)
abbrev M_X1_known : evM := (RX1, cX1_known, 1, (some FieldType.int))
set_option maxRecDepth 100000 in
theorem mv_X1_known : evMV yX1_known M_X1_known 0 := ⟨⟨⟨by decide +kernel, by decide +kernel, by decide +kernel⟩, ev_in (List.mem_of_getElem? (i := 485) rfl) rfl, ev_in (List.mem_of_getElem? (i := 63) rfl) rfl⟩, ev_in (List.mem_of_getElem? (i := 483) rfl) rfl, ev_in (List.mem_of_getElem? (i := 484) rfl) rfl⟩
abbrev M_X1_lose : evM := (RX1, cX1_lose, 1, none)
set_option maxRecDepth 100000 in
theorem mv_X1_lose : evMV yX1_lose M_X1_lose 0 := ⟨⟨⟨by decide +kernel, by decide +kernel, by decide +kernel⟩, ev_in (List.mem_of_getElem? (i := 637) rfl) rfl, ev_in (List.mem_of_getElem? (i := 63) rfl) rfl⟩, ev_in (List.mem_of_getElem? (i := 635) rfl) rfl, ev_in (List.mem_of_getElem? (i := 636) rfl) rfl⟩
abbrev M_X1_remember : evM := (RX1, cX1_remember, 2, none)
set_option maxRecDepth 100000 in
theorem mv_X1_remember : evMV yX1_remember M_X1_remember 1 := ⟨⟨⟨by decide +kernel, by decide +kernel, by decide +kernel⟩, ev_in (List.mem_of_getElem? (i := 351) rfl) rfl, ev_in (List.mem_of_getElem? (i := 63) rfl) rfl⟩, ev_in (List.mem_of_getElem? (i := 349) rfl) rfl, ev_in (List.mem_of_getElem? (i := 350) rfl) rfl⟩
abbrev M_X1_restore : evM := (RX1, cX1_restore, 2, none)
set_option maxRecDepth 100000 in
theorem mv_X1_restore : evMV yX1_restore M_X1_restore 1 := ⟨⟨⟨by decide +kernel, by decide +kernel, by decide +kernel⟩, ev_in (List.mem_of_getElem? (i := 489) rfl) rfl, ev_in (List.mem_of_getElem? (i := 63) rfl) rfl⟩, ev_in (List.mem_of_getElem? (i := 487) rfl) rfl, ev_in (List.mem_of_getElem? (i := 488) rfl) rfl⟩
abbrev M_X2_burntInAll : evM := (RX2, cX2_burntInAll, 3, (some FieldType.int))
set_option maxRecDepth 100000 in
theorem mv_X2_burntInAll : evMV yX2_burntInAll M_X2_burntInAll 0 := ⟨⟨⟨by decide +kernel, by decide +kernel, by decide +kernel⟩, ev_in (List.mem_of_getElem? (i := 509) rfl) rfl, ev_in (List.mem_of_getElem? (i := 65) rfl) rfl⟩, ev_in (List.mem_of_getElem? (i := 507) rfl) rfl, ev_in (List.mem_of_getElem? (i := 508) rfl) rfl⟩
abbrev M_X2_burntOnLeg : evM := (RX2, cX2_burntOnLeg, 15, (some FieldType.int))
set_option maxRecDepth 100000 in
theorem mv_X2_burntOnLeg : evMV yX2_burntOnLeg M_X2_burntOnLeg 1 := ⟨⟨⟨by decide +kernel, by decide +kernel, by decide +kernel⟩, ev_in (List.mem_of_getElem? (i := 446) rfl) rfl, ev_in (List.mem_of_getElem? (i := 65) rfl) rfl⟩, ev_in (List.mem_of_getElem? (i := 444) rfl) rfl, ev_in (List.mem_of_getElem? (i := 445) rfl) rfl⟩
abbrev M_X2_draw : evM := (RX2, cX2_draw, 3, none)
set_option maxRecDepth 100000 in
theorem mv_X2_draw : evMV yX2_draw M_X2_draw 1 := ⟨⟨⟨by decide +kernel, by decide +kernel, by decide +kernel⟩, ev_in (List.mem_of_getElem? (i := 373) rfl) rfl, ev_in (List.mem_of_getElem? (i := 65) rfl) rfl⟩, ev_in (List.mem_of_getElem? (i := 371) rfl) rfl, ev_in (List.mem_of_getElem? (i := 372) rfl) rfl⟩
abbrev M_X2_evenHour : evM := (RX2, cX2_evenHour, 6, (some FieldType.int))
set_option maxRecDepth 100000 in
theorem mv_X2_evenHour : evMV yX2_evenHour M_X2_evenHour 3 := ⟨⟨⟨by decide +kernel, by decide +kernel, by decide +kernel⟩, ev_in (List.mem_of_getElem? (i := 406) rfl) rfl, ev_in (List.mem_of_getElem? (i := 65) rfl) rfl⟩, ev_in (List.mem_of_getElem? (i := 405) rfl) rfl, ev_in (List.mem_of_getElem? (i := 15) rfl) rfl⟩
abbrev M_X2_hourLower : evM := (RX2, cX2_hourLower, 2, (some FieldType.int))
set_option maxRecDepth 100000 in
theorem mv_X2_hourLower : evMV yX2_hourLower M_X2_hourLower 1 := ⟨⟨⟨by decide +kernel, by decide +kernel, by decide +kernel⟩, ev_in (List.mem_of_getElem? (i := 426) rfl) rfl, ev_in (List.mem_of_getElem? (i := 65) rfl) rfl⟩, ev_in (List.mem_of_getElem? (i := 424) rfl) rfl, ev_in (List.mem_of_getElem? (i := 425) rfl) rfl⟩
abbrev M_X2_hourRoundedUp : evM := (RX2, cX2_hourRoundedUp, 3, (some FieldType.int))
set_option maxRecDepth 100000 in
theorem mv_X2_hourRoundedUp : evMV yX2_hourRoundedUp M_X2_hourRoundedUp 1 := ⟨⟨⟨by decide +kernel, by decide +kernel, by decide +kernel⟩, ev_in (List.mem_of_getElem? (i := 422) rfl) rfl, ev_in (List.mem_of_getElem? (i := 65) rfl) rfl⟩, ev_in (List.mem_of_getElem? (i := 420) rfl) rfl, ev_in (List.mem_of_getElem? (i := 421) rfl) rfl⟩
abbrev M_X2_hourUpper : evM := (RX2, cX2_hourUpper, 3, (some FieldType.int))
set_option maxRecDepth 100000 in
theorem mv_X2_hourUpper : evMV yX2_hourUpper M_X2_hourUpper 1 := ⟨⟨⟨by decide +kernel, by decide +kernel, by decide +kernel⟩, ev_in (List.mem_of_getElem? (i := 438) rfl) rfl, ev_in (List.mem_of_getElem? (i := 65) rfl) rfl⟩, ev_in (List.mem_of_getElem? (i := 436) rfl) rfl, ev_in (List.mem_of_getElem? (i := 437) rfl) rfl⟩
abbrev M_X2_hoursAround : evM := (RX2, cX2_hoursAround, 2, (some FieldType.int))
set_option maxRecDepth 100000 in
theorem mv_X2_hoursAround : evMV yX2_hoursAround M_X2_hoursAround 1 := ⟨⟨⟨by decide +kernel, by decide +kernel, by decide +kernel⟩, ev_in (List.mem_of_getElem? (i := 450) rfl) rfl, ev_in (List.mem_of_getElem? (i := 65) rfl) rfl⟩, ev_in (List.mem_of_getElem? (i := 448) rfl) rfl, ev_in (List.mem_of_getElem? (i := 449) rfl) rfl⟩
abbrev M_X2_init : evM := (RX2, cX2_init, 1, none)
abbrev M_X2_isNoLeg : evM := (RX2, cX2_isNoLeg, 2, (some FieldType.boolean))
set_option maxRecDepth 100000 in
theorem mv_X2_isNoLeg : evMV yX2_isNoLeg M_X2_isNoLeg 1 := ⟨⟨⟨by decide +kernel, by decide +kernel, by decide +kernel⟩, ev_in (List.mem_of_getElem? (i := 434) rfl) rfl, ev_in (List.mem_of_getElem? (i := 65) rfl) rfl⟩, ev_in (List.mem_of_getElem? (i := 433) rfl) rfl, ev_in (List.mem_of_getElem? (i := 17) rfl) rfl⟩
abbrev M_X2_layPorts : evM := (RX2, cX2_layPorts, 4, none)
set_option maxRecDepth 100000 in
theorem mv_X2_layPorts : evMV yX2_layPorts M_X2_layPorts 1 := ⟨⟨⟨by decide +kernel, by decide +kernel, by decide +kernel⟩, ev_in (List.mem_of_getElem? (i := 382) rfl) rfl, ev_in (List.mem_of_getElem? (i := 65) rfl) rfl⟩, ev_in (List.mem_of_getElem? (i := 381) rfl) rfl, ev_in (List.mem_of_getElem? (i := 10) rfl) rfl⟩
abbrev M_X2_measureStretches : evM := (RX2, cX2_measureStretches, 7, none)
set_option maxRecDepth 100000 in
theorem mv_X2_measureStretches : evMV yX2_measureStretches M_X2_measureStretches 0 := ⟨⟨⟨by decide +kernel, by decide +kernel, by decide +kernel⟩, ev_in (List.mem_of_getElem? (i := 413) rfl) rfl, ev_in (List.mem_of_getElem? (i := 65) rfl) rfl⟩, ev_in (List.mem_of_getElem? (i := 412) rfl) rfl, ev_in (List.mem_of_getElem? (i := 16) rfl) rfl⟩
abbrev M_X2_meetingAt : evM := (RX2, cX2_meetingAt, 2, (some FieldType.int))
set_option maxRecDepth 100000 in
theorem mv_X2_meetingAt : evMV yX2_meetingAt M_X2_meetingAt 1 := ⟨⟨⟨by decide +kernel, by decide +kernel, by decide +kernel⟩, ev_in (List.mem_of_getElem? (i := 543) rfl) rfl, ev_in (List.mem_of_getElem? (i := 65) rfl) rfl⟩, ev_in (List.mem_of_getElem? (i := 541) rfl) rfl, ev_in (List.mem_of_getElem? (i := 542) rfl) rfl⟩
abbrev M_X2_mileAt : evM := (RX2, cX2_mileAt, 4, (some FieldType.int))
set_option maxRecDepth 100000 in
theorem mv_X2_mileAt : evMV yX2_mileAt M_X2_mileAt 1 := ⟨⟨⟨by decide +kernel, by decide +kernel, by decide +kernel⟩, ev_in (List.mem_of_getElem? (i := 575) rfl) rfl, ev_in (List.mem_of_getElem? (i := 65) rfl) rfl⟩, ev_in (List.mem_of_getElem? (i := 573) rfl) rfl, ev_in (List.mem_of_getElem? (i := 574) rfl) rfl⟩
abbrev M_X2_milesAround : evM := (RX2, cX2_milesAround, 2, (some FieldType.int))
set_option maxRecDepth 100000 in
theorem mv_X2_milesAround : evMV yX2_milesAround M_X2_milesAround 1 := ⟨⟨⟨by decide +kernel, by decide +kernel, by decide +kernel⟩, ev_in (List.mem_of_getElem? (i := 430) rfl) rfl, ev_in (List.mem_of_getElem? (i := 65) rfl) rfl⟩, ev_in (List.mem_of_getElem? (i := 428) rfl) rfl, ev_in (List.mem_of_getElem? (i := 429) rfl) rfl⟩
abbrev M_X2_milesOfLeg : evM := (RX2, cX2_milesOfLeg, 2, (some FieldType.int))
set_option maxRecDepth 100000 in
theorem mv_X2_milesOfLeg : evMV yX2_milesOfLeg M_X2_milesOfLeg 1 := ⟨⟨⟨by decide +kernel, by decide +kernel, by decide +kernel⟩, ev_in (List.mem_of_getElem? (i := 459) rfl) rfl, ev_in (List.mem_of_getElem? (i := 65) rfl) rfl⟩, ev_in (List.mem_of_getElem? (i := 458) rfl) rfl, ev_in (List.mem_of_getElem? (i := 18) rfl) rfl⟩
abbrev M_X2_missAt : evM := (RX2, cX2_missAt, 6, (some FieldType.int))
set_option maxRecDepth 100000 in
theorem mv_X2_missAt : evMV yX2_missAt M_X2_missAt 3 := ⟨⟨⟨by decide +kernel, by decide +kernel, by decide +kernel⟩, ev_in (List.mem_of_getElem? (i := 402) rfl) rfl, ev_in (List.mem_of_getElem? (i := 65) rfl) rfl⟩, ev_in (List.mem_of_getElem? (i := 401) rfl) rfl, ev_in (List.mem_of_getElem? (i := 14) rfl) rfl⟩
abbrev M_X2_mostMissed : evM := (RX2, cX2_mostMissed, 7, (some FieldType.int))
set_option maxRecDepth 100000 in
theorem mv_X2_mostMissed : evMV yX2_mostMissed M_X2_mostMissed 2 := ⟨⟨⟨by decide +kernel, by decide +kernel, by decide +kernel⟩, ev_in (List.mem_of_getElem? (i := 398) rfl) rfl, ev_in (List.mem_of_getElem? (i := 65) rfl) rfl⟩, ev_in (List.mem_of_getElem? (i := 397) rfl) rfl, ev_in (List.mem_of_getElem? (i := 13) rfl) rfl⟩
abbrev M_X2_neededSpeed : evM := (RX2, cX2_neededSpeed, 1, (some FieldType.int))
set_option maxRecDepth 100000 in
theorem mv_X2_neededSpeed : evMV yX2_neededSpeed M_X2_neededSpeed 0 := ⟨⟨⟨by decide +kernel, by decide +kernel, by decide +kernel⟩, ev_in (List.mem_of_getElem? (i := 559) rfl) rfl, ev_in (List.mem_of_getElem? (i := 65) rfl) rfl⟩, ev_in (List.mem_of_getElem? (i := 557) rfl) rfl, ev_in (List.mem_of_getElem? (i := 558) rfl) rfl⟩
abbrev M_X2_nextEnd : evM := (RX2, cX2_nextEnd, 3, (some FieldType.int))
set_option maxRecDepth 100000 in
theorem mv_X2_nextEnd : evMV yX2_nextEnd M_X2_nextEnd 1 := ⟨⟨⟨by decide +kernel, by decide +kernel, by decide +kernel⟩, ev_in (List.mem_of_getElem? (i := 394) rfl) rfl, ev_in (List.mem_of_getElem? (i := 65) rfl) rfl⟩, ev_in (List.mem_of_getElem? (i := 393) rfl) rfl, ev_in (List.mem_of_getElem? (i := 12) rfl) rfl⟩
abbrev M_X2_sailedOnLeg : evM := (RX2, cX2_sailedOnLeg, 7, (some FieldType.int))
set_option maxRecDepth 100000 in
theorem mv_X2_sailedOnLeg : evMV yX2_sailedOnLeg M_X2_sailedOnLeg 2 := ⟨⟨⟨by decide +kernel, by decide +kernel, by decide +kernel⟩, ev_in (List.mem_of_getElem? (i := 580) rfl) rfl, ev_in (List.mem_of_getElem? (i := 65) rfl) rfl⟩, ev_in (List.mem_of_getElem? (i := 579) rfl) rfl, ev_in (List.mem_of_getElem? (i := 20) rfl) rfl⟩
abbrev M_X2_splitStretches : evM := (RX2, cX2_splitStretches, 5, none)
set_option maxRecDepth 100000 in
theorem mv_X2_splitStretches : evMV yX2_splitStretches M_X2_splitStretches 0 := ⟨⟨⟨by decide +kernel, by decide +kernel, by decide +kernel⟩, ev_in (List.mem_of_getElem? (i := 390) rfl) rfl, ev_in (List.mem_of_getElem? (i := 65) rfl) rfl⟩, ev_in (List.mem_of_getElem? (i := 389) rfl) rfl, ev_in (List.mem_of_getElem? (i := 11) rfl) rfl⟩
abbrev M_X2_stands : evM := (RX2, cX2_stands, 1, (some FieldType.boolean))
set_option maxRecDepth 100000 in
theorem mv_X2_stands : evMV yX2_stands M_X2_stands 0 := ⟨⟨⟨by decide +kernel, by decide +kernel, by decide +kernel⟩, ev_in (List.mem_of_getElem? (i := 417) rfl) rfl, ev_in (List.mem_of_getElem? (i := 65) rfl) rfl⟩, ev_in (List.mem_of_getElem? (i := 415) rfl) rfl, ev_in (List.mem_of_getElem? (i := 416) rfl) rfl⟩
abbrev M_X2_stretchCount : evM := (RX2, cX2_stretchCount, 1, (some FieldType.int))
set_option maxRecDepth 100000 in
theorem mv_X2_stretchCount : evMV yX2_stretchCount M_X2_stretchCount 0 := ⟨⟨⟨by decide +kernel, by decide +kernel, by decide +kernel⟩, ev_in (List.mem_of_getElem? (i := 505) rfl) rfl, ev_in (List.mem_of_getElem? (i := 65) rfl) rfl⟩, ev_in (List.mem_of_getElem? (i := 503) rfl) rfl, ev_in (List.mem_of_getElem? (i := 504) rfl) rfl⟩
abbrev M_X3_becomeLike : evM := (RX3, cX3_becomeLike, 2, none)
set_option maxRecDepth 100000 in
theorem mv_X3_becomeLike : evMV yX3_becomeLike M_X3_becomeLike 1 := ⟨⟨⟨by decide +kernel, by decide +kernel, by decide +kernel⟩, ev_in (List.mem_of_getElem? (i := 359) rfl) rfl, ev_in (List.mem_of_getElem? (i := 60) rfl) rfl⟩, ev_in (List.mem_of_getElem? (i := 357) rfl) rfl, ev_in (List.mem_of_getElem? (i := 358) rfl) rfl⟩
abbrev M_X3_becomeNew : evM := (RX3, cX3_becomeNew, 1, none)
set_option maxRecDepth 100000 in
theorem mv_X3_becomeNew : evMV yX3_becomeNew M_X3_becomeNew 0 := ⟨⟨⟨by decide +kernel, by decide +kernel, by decide +kernel⟩, ev_in (List.mem_of_getElem? (i := 93) rfl) rfl, ev_in (List.mem_of_getElem? (i := 60) rfl) rfl⟩, ev_in (List.mem_of_getElem? (i := 91) rfl) rfl, ev_in (List.mem_of_getElem? (i := 92) rfl) rfl⟩
abbrev M_X3_init : evM := (RX3, cX3_init, 1, none)
abbrev M_X3_isLegAhead : evM := (RX3, cX3_isLegAhead, 2, (some FieldType.boolean))
set_option maxRecDepth 100000 in
theorem mv_X3_isLegAhead : evMV yX3_isLegAhead M_X3_isLegAhead 1 := ⟨⟨⟨by decide +kernel, by decide +kernel, by decide +kernel⟩, ev_in (List.mem_of_getElem? (i := 533) rfl) rfl, ev_in (List.mem_of_getElem? (i := 60) rfl) rfl⟩, ev_in (List.mem_of_getElem? (i := 531) rfl) rfl, ev_in (List.mem_of_getElem? (i := 532) rfl) rfl⟩
abbrev M_X3_isPortAhead : evM := (RX3, cX3_isPortAhead, 2, (some FieldType.boolean))
set_option maxRecDepth 100000 in
theorem mv_X3_isPortAhead : evMV yX3_isPortAhead M_X3_isPortAhead 1 := ⟨⟨⟨by decide +kernel, by decide +kernel, by decide +kernel⟩, ev_in (List.mem_of_getElem? (i := 472) rfl) rfl, ev_in (List.mem_of_getElem? (i := 60) rfl) rfl⟩, ev_in (List.mem_of_getElem? (i := 470) rfl) rfl, ev_in (List.mem_of_getElem? (i := 471) rfl) rfl⟩
abbrev M_X3_ofLeg : evM := (RX3, cX3_ofLeg, 4, (some FieldType.int))
set_option maxRecDepth 100000 in
theorem mv_X3_ofLeg : evMV yX3_ofLeg M_X3_ofLeg 2 := ⟨⟨⟨by decide +kernel, by decide +kernel, by decide +kernel⟩, ev_in (List.mem_of_getElem? (i := 386) rfl) rfl, ev_in (List.mem_of_getElem? (i := 60) rfl) rfl⟩, ev_in (List.mem_of_getElem? (i := 384) rfl) rfl, ev_in (List.mem_of_getElem? (i := 385) rfl) rfl⟩
abbrev M_X3_placeOf : evM := (RX3, cX3_placeOf, 2, (some FieldType.int))
set_option maxRecDepth 100000 in
theorem mv_X3_placeOf : evMS yX3_placeOf M_X3_placeOf 2 := ⟨⟨⟨by decide +kernel, by decide +kernel, by decide +kernel⟩, ev_in (List.mem_of_getElem? (i := 343) rfl) rfl, ev_in (List.mem_of_getElem? (i := 60) rfl) rfl⟩, ev_in (List.mem_of_getElem? (i := 342) rfl) rfl⟩
abbrev M_X3_setOfLeg : evM := (RX3, cX3_setOfLeg, 5, none)
set_option maxRecDepth 100000 in
theorem mv_X3_setOfLeg : evMV yX3_setOfLeg M_X3_setOfLeg 3 := ⟨⟨⟨by decide +kernel, by decide +kernel, by decide +kernel⟩, ev_in (List.mem_of_getElem? (i := 340) rfl) rfl, ev_in (List.mem_of_getElem? (i := 60) rfl) rfl⟩, ev_in (List.mem_of_getElem? (i := 338) rfl) rfl, ev_in (List.mem_of_getElem? (i := 339) rfl) rfl⟩
abbrev M_X3_setTrait : evM := (RX3, cX3_setTrait, 3, none)
set_option maxRecDepth 100000 in
theorem mv_X3_setTrait : evMV yX3_setTrait M_X3_setTrait 2 := ⟨⟨⟨by decide +kernel, by decide +kernel, by decide +kernel⟩, ev_in (List.mem_of_getElem? (i := 347) rfl) rfl, ev_in (List.mem_of_getElem? (i := 60) rfl) rfl⟩, ev_in (List.mem_of_getElem? (i := 345) rfl) rfl, ev_in (List.mem_of_getElem? (i := 346) rfl) rfl⟩
abbrev M_X3_trait : evM := (RX3, cX3_trait, 2, (some FieldType.int))
set_option maxRecDepth 100000 in
theorem mv_X3_trait : evMV yX3_trait M_X3_trait 1 := ⟨⟨⟨by decide +kernel, by decide +kernel, by decide +kernel⟩, ev_in (List.mem_of_getElem? (i := 298) rfl) rfl, ev_in (List.mem_of_getElem? (i := 60) rfl) rfl⟩, ev_in (List.mem_of_getElem? (i := 296) rfl) rfl, ev_in (List.mem_of_getElem? (i := 297) rfl) rfl⟩
abbrev M_X4_becomeEmpty : evM := (RX4, cX4_becomeEmpty, 1, none)
set_option maxRecDepth 100000 in
theorem mv_X4_becomeEmpty : evMV yX4_becomeEmpty M_X4_becomeEmpty 0 := ⟨⟨⟨by decide +kernel, by decide +kernel, by decide +kernel⟩, ev_in (List.mem_of_getElem? (i := 274) rfl) rfl, ev_in (List.mem_of_getElem? (i := 64) rfl) rfl⟩, ev_in (List.mem_of_getElem? (i := 272) rfl) rfl, ev_in (List.mem_of_getElem? (i := 273) rfl) rfl⟩
abbrev M_X4_beginsItem : evM := (RX4, cX4_beginsItem, 4, (some FieldType.boolean))
set_option maxRecDepth 100000 in
theorem mv_X4_beginsItem : evMV yX4_beginsItem M_X4_beginsItem 2 := ⟨⟨⟨by decide +kernel, by decide +kernel, by decide +kernel⟩, ev_in (List.mem_of_getElem? (i := 294) rfl) rfl, ev_in (List.mem_of_getElem? (i := 64) rfl) rfl⟩, ev_in (List.mem_of_getElem? (i := 293) rfl) rfl, ev_in (List.mem_of_getElem? (i := 1) rfl) rfl⟩
abbrev M_X4_endItem : evM := (RX4, cX4_endItem, 4, none)
set_option maxRecDepth 100000 in
theorem mv_X4_endItem : evMV yX4_endItem M_X4_endItem 1 := ⟨⟨⟨by decide +kernel, by decide +kernel, by decide +kernel⟩, ev_in (List.mem_of_getElem? (i := 336) rfl) rfl, ev_in (List.mem_of_getElem? (i := 64) rfl) rfl⟩, ev_in (List.mem_of_getElem? (i := 335) rfl) rfl, ev_in (List.mem_of_getElem? (i := 8) rfl) rfl⟩
abbrev M_X4_greatest : evM := (RX4, cX4_greatest, 1, (some FieldType.int))
set_option maxRecDepth 100000 in
theorem mv_X4_greatest : evMV yX4_greatest M_X4_greatest 0 := ⟨⟨⟨by decide +kernel, by decide +kernel, by decide +kernel⟩, ev_in (List.mem_of_getElem? (i := 330) rfl) rfl, ev_in (List.mem_of_getElem? (i := 64) rfl) rfl⟩, ev_in (List.mem_of_getElem? (i := 329) rfl) rfl, ev_in (List.mem_of_getElem? (i := 7) rfl) rfl⟩
abbrev M_X4_init : evM := (RX4, cX4_init, 1, none)
abbrev M_X4_isFigure : evM := (RX4, cX4_isFigure, 1, (some FieldType.boolean))
set_option maxRecDepth 100000 in
theorem mv_X4_isFigure : evMS yX4_isFigure M_X4_isFigure 1 := ⟨⟨⟨by decide +kernel, by decide +kernel, by decide +kernel⟩, ev_in (List.mem_of_getElem? (i := 305) rfl) rfl, ev_in (List.mem_of_getElem? (i := 64) rfl) rfl⟩, ev_in (List.mem_of_getElem? (i := 304) rfl) rfl⟩
abbrev M_X4_least : evM := (RX4, cX4_least, 2, (some FieldType.int))
set_option maxRecDepth 100000 in
theorem mv_X4_least : evMV yX4_least M_X4_least 0 := ⟨⟨⟨by decide +kernel, by decide +kernel, by decide +kernel⟩, ev_in (List.mem_of_getElem? (i := 324) rfl) rfl, ev_in (List.mem_of_getElem? (i := 64) rfl) rfl⟩, ev_in (List.mem_of_getElem? (i := 323) rfl) rfl, ev_in (List.mem_of_getElem? (i := 6) rfl) rfl⟩
abbrev M_X4_length : evM := (RX4, cX4_length, 1, (some FieldType.int))
set_option maxRecDepth 100000 in
theorem mv_X4_length : evMV yX4_length M_X4_length 0 := ⟨⟨⟨by decide +kernel, by decide +kernel, by decide +kernel⟩, ev_in (List.mem_of_getElem? (i := 266) rfl) rfl, ev_in (List.mem_of_getElem? (i := 64) rfl) rfl⟩, ev_in (List.mem_of_getElem? (i := 264) rfl) rfl, ev_in (List.mem_of_getElem? (i := 265) rfl) rfl⟩
abbrev M_X4_numberAt : evM := (RX4, cX4_numberAt, 5, (some FieldType.int))
set_option maxRecDepth 100000 in
theorem mv_X4_numberAt : evMV yX4_numberAt M_X4_numberAt 1 := ⟨⟨⟨by decide +kernel, by decide +kernel, by decide +kernel⟩, ev_in (List.mem_of_getElem? (i := 309) rfl) rfl, ev_in (List.mem_of_getElem? (i := 64) rfl) rfl⟩, ev_in (List.mem_of_getElem? (i := 308) rfl) rfl, ev_in (List.mem_of_getElem? (i := 3) rfl) rfl⟩
abbrev M_X4_numbersOfItem : evM := (RX4, cX4_numbersOfItem, 1, (some FieldType.int))
set_option maxRecDepth 100000 in
theorem mv_X4_numbersOfItem : evMV yX4_numbersOfItem M_X4_numbersOfItem 0 := ⟨⟨⟨by decide +kernel, by decide +kernel, by decide +kernel⟩, ev_in (List.mem_of_getElem? (i := 302) rfl) rfl, ev_in (List.mem_of_getElem? (i := 64) rfl) rfl⟩, ev_in (List.mem_of_getElem? (i := 301) rfl) rfl, ev_in (List.mem_of_getElem? (i := 2) rfl) rfl⟩
abbrev M_X4_takesLetter : evM := (RX4, cX4_takesLetter, 2, (some FieldType.boolean))
set_option maxRecDepth 100000 in
theorem mv_X4_takesLetter : evMV yX4_takesLetter M_X4_takesLetter 1 := ⟨⟨⟨by decide +kernel, by decide +kernel, by decide +kernel⟩, ev_in (List.mem_of_getElem? (i := 262) rfl) rfl, ev_in (List.mem_of_getElem? (i := 64) rfl) rfl⟩, ev_in (List.mem_of_getElem? (i := 260) rfl) rfl, ev_in (List.mem_of_getElem? (i := 261) rfl) rfl⟩
abbrev M_X4_takesNumber : evM := (RX4, cX4_takesNumber, 2, (some FieldType.boolean))
set_option maxRecDepth 100000 in
theorem mv_X4_takesNumber : evMV yX4_takesNumber M_X4_takesNumber 1 := ⟨⟨⟨by decide +kernel, by decide +kernel, by decide +kernel⟩, ev_in (List.mem_of_getElem? (i := 320) rfl) rfl, ev_in (List.mem_of_getElem? (i := 64) rfl) rfl⟩, ev_in (List.mem_of_getElem? (i := 319) rfl) rfl, ev_in (List.mem_of_getElem? (i := 5) rfl) rfl⟩
abbrev M_X4_takesToken : evM := (RX4, cX4_takesToken, 4, (some FieldType.boolean))
set_option maxRecDepth 100000 in
theorem mv_X4_takesToken : evMV yX4_takesToken M_X4_takesToken 2 := ⟨⟨⟨by decide +kernel, by decide +kernel, by decide +kernel⟩, ev_in (List.mem_of_getElem? (i := 290) rfl) rfl, ev_in (List.mem_of_getElem? (i := 64) rfl) rfl⟩, ev_in (List.mem_of_getElem? (i := 289) rfl) rfl, ev_in (List.mem_of_getElem? (i := 0) rfl) rfl⟩
abbrev M_X4_tellShip : evM := (RX4, cX4_tellShip, 4, (some FieldType.int))
set_option maxRecDepth 100000 in
theorem mv_X4_tellShip : evMV yX4_tellShip M_X4_tellShip 1 := ⟨⟨⟨by decide +kernel, by decide +kernel, by decide +kernel⟩, ev_in (List.mem_of_getElem? (i := 285) rfl) rfl, ev_in (List.mem_of_getElem? (i := 64) rfl) rfl⟩, ev_in (List.mem_of_getElem? (i := 283) rfl) rfl, ev_in (List.mem_of_getElem? (i := 284) rfl) rfl⟩
abbrev M_X4_tokenEnd : evM := (RX4, cX4_tokenEnd, 3, (some FieldType.int))
set_option maxRecDepth 100000 in
theorem mv_X4_tokenEnd : evMV yX4_tokenEnd M_X4_tokenEnd 1 := ⟨⟨⟨by decide +kernel, by decide +kernel, by decide +kernel⟩, ev_in (List.mem_of_getElem? (i := 313) rfl) rfl, ev_in (List.mem_of_getElem? (i := 64) rfl) rfl⟩, ev_in (List.mem_of_getElem? (i := 312) rfl) rfl, ev_in (List.mem_of_getElem? (i := 4) rfl) rfl⟩
abbrev M_X5_agrees : evM := (RX5, cX5_agrees, 3, (some FieldType.boolean))
set_option maxRecDepth 100000 in
theorem mv_X5_agrees : evMV yX5_agrees M_X5_agrees 1 := ⟨⟨⟨by decide +kernel, by decide +kernel, by decide +kernel⟩, ev_in (List.mem_of_getElem? (i := 604) rfl) rfl, ev_in (List.mem_of_getElem? (i := 58) rfl) rfl⟩, ev_in (List.mem_of_getElem? (i := 603) rfl) rfl, ev_in (List.mem_of_getElem? (i := 23) rfl) rfl⟩
abbrev M_X5_back : evM := (RX5, cX5_back, 2, (some FieldType.int))
set_option maxRecDepth 100000 in
theorem mv_X5_back : evMV yX5_back M_X5_back 1 := ⟨⟨⟨by decide +kernel, by decide +kernel, by decide +kernel⟩, ev_in (List.mem_of_getElem? (i := 633) rfl) rfl, ev_in (List.mem_of_getElem? (i := 58) rfl) rfl⟩, ev_in (List.mem_of_getElem? (i := 631) rfl) rfl, ev_in (List.mem_of_getElem? (i := 632) rfl) rfl⟩
abbrev M_X5_clear : evM := (RX5, cX5_clear, 2, (some FieldType.int))
set_option maxRecDepth 100000 in
theorem mv_X5_clear : evMV yX5_clear M_X5_clear 0 := ⟨⟨⟨by decide +kernel, by decide +kernel, by decide +kernel⟩, ev_in (List.mem_of_getElem? (i := 270) rfl) rfl, ev_in (List.mem_of_getElem? (i := 58) rfl) rfl⟩, ev_in (List.mem_of_getElem? (i := 268) rfl) rfl, ev_in (List.mem_of_getElem? (i := 269) rfl) rfl⟩
abbrev M_X5_closed : evM := (RX5, cX5_closed, 4, (some FieldType.int))
set_option maxRecDepth 100000 in
theorem mv_X5_closed : evMV yX5_closed M_X5_closed 2 := ⟨⟨⟨by decide +kernel, by decide +kernel, by decide +kernel⟩, ev_in (List.mem_of_getElem? (i := 539) rfl) rfl, ev_in (List.mem_of_getElem? (i := 58) rfl) rfl⟩, ev_in (List.mem_of_getElem? (i := 537) rfl) rfl, ev_in (List.mem_of_getElem? (i := 538) rfl) rfl⟩
abbrev M_X5_commonMeasure : evM := (RX5, cX5_commonMeasure, 6, (some FieldType.int))
set_option maxRecDepth 100000 in
theorem mv_X5_commonMeasure : evMS yX5_commonMeasure M_X5_commonMeasure 2 := ⟨⟨⟨by decide +kernel, by decide +kernel, by decide +kernel⟩, ev_in (List.mem_of_getElem? (i := 524) rfl) rfl, ev_in (List.mem_of_getElem? (i := 58) rfl) rfl⟩, ev_in (List.mem_of_getElem? (i := 523) rfl) rfl⟩
abbrev M_X5_cost : evM := (RX5, cX5_cost, 4, (some FieldType.int))
set_option maxRecDepth 100000 in
theorem mv_X5_cost : evMV yX5_cost M_X5_cost 2 := ⟨⟨⟨by decide +kernel, by decide +kernel, by decide +kernel⟩, ev_in (List.mem_of_getElem? (i := 547) rfl) rfl, ev_in (List.mem_of_getElem? (i := 58) rfl) rfl⟩, ev_in (List.mem_of_getElem? (i := 545) rfl) rfl, ev_in (List.mem_of_getElem? (i := 546) rfl) rfl⟩
abbrev M_X5_count : evM := (RX5, cX5_count, 2, (some FieldType.int))
set_option maxRecDepth 100000 in
theorem mv_X5_count : evMV yX5_count M_X5_count 1 := ⟨⟨⟨by decide +kernel, by decide +kernel, by decide +kernel⟩, ev_in (List.mem_of_getElem? (i := 641) rfl) rfl, ev_in (List.mem_of_getElem? (i := 58) rfl) rfl⟩, ev_in (List.mem_of_getElem? (i := 639) rfl) rfl, ev_in (List.mem_of_getElem? (i := 640) rfl) rfl⟩
abbrev M_X5_drawAllPlans : evM := (RX5, cX5_drawAllPlans, 2, none)
set_option maxRecDepth 100000 in
theorem mv_X5_drawAllPlans : evMV yX5_drawAllPlans M_X5_drawAllPlans 0 := ⟨⟨⟨by decide +kernel, by decide +kernel, by decide +kernel⟩, ev_in (List.mem_of_getElem? (i := 596) rfl) rfl, ev_in (List.mem_of_getElem? (i := 58) rfl) rfl⟩, ev_in (List.mem_of_getElem? (i := 595) rfl) rfl, ev_in (List.mem_of_getElem? (i := 21) rfl) rfl⟩
abbrev M_X5_drawEased : evM := (RX5, cX5_drawEased, 5, none)
set_option maxRecDepth 100000 in
theorem mv_X5_drawEased : evMV yX5_drawEased M_X5_drawEased 3 := ⟨⟨⟨by decide +kernel, by decide +kernel, by decide +kernel⟩, ev_in (List.mem_of_getElem? (i := 567) rfl) rfl, ev_in (List.mem_of_getElem? (i := 58) rfl) rfl⟩, ev_in (List.mem_of_getElem? (i := 566) rfl) rfl, ev_in (List.mem_of_getElem? (i := 19) rfl) rfl⟩
abbrev M_X5_drawnPlan : evM := (RX5, cX5_drawnPlan, 3, (some (FieldType.object "EvenVoyage$Plan")))
set_option maxRecDepth 100000 in
theorem mv_X5_drawnPlan : evMV yX5_drawnPlan M_X5_drawnPlan 1 := ⟨⟨⟨by decide +kernel, by decide +kernel, by decide +kernel⟩, ev_in (List.mem_of_getElem? (i := 369) rfl) rfl, ev_in (List.mem_of_getElem? (i := 58) rfl) rfl⟩, ev_in (List.mem_of_getElem? (i := 368) rfl) rfl, ev_in (List.mem_of_getElem? (i := 9) rfl) rfl⟩
abbrev M_X5_eased : evM := (RX5, cX5_eased, 10, (some FieldType.int))
set_option maxRecDepth 100000 in
theorem mv_X5_eased : evMV yX5_eased M_X5_eased 1 := ⟨⟨⟨by decide +kernel, by decide +kernel, by decide +kernel⟩, ev_in (List.mem_of_getElem? (i := 563) rfl) rfl, ev_in (List.mem_of_getElem? (i := 58) rfl) rfl⟩, ev_in (List.mem_of_getElem? (i := 561) rfl) rfl, ev_in (List.mem_of_getElem? (i := 562) rfl) rfl⟩
abbrev M_X5_fastens : evM := (RX5, cX5_fastens, 5, (some FieldType.int))
set_option maxRecDepth 100000 in
theorem mv_X5_fastens : evMV yX5_fastens M_X5_fastens 2 := ⟨⟨⟨by decide +kernel, by decide +kernel, by decide +kernel⟩, ev_in (List.mem_of_getElem? (i := 477) rfl) rfl, ev_in (List.mem_of_getElem? (i := 58) rfl) rfl⟩, ev_in (List.mem_of_getElem? (i := 475) rfl) rfl, ev_in (List.mem_of_getElem? (i := 476) rfl) rfl⟩
abbrev M_X5_forget : evM := (RX5, cX5_forget, 2, (some FieldType.int))
set_option maxRecDepth 100000 in
theorem mv_X5_forget : evMV yX5_forget M_X5_forget 0 := ⟨⟨⟨by decide +kernel, by decide +kernel, by decide +kernel⟩, ev_in (List.mem_of_getElem? (i := 588) rfl) rfl, ev_in (List.mem_of_getElem? (i := 58) rfl) rfl⟩, ev_in (List.mem_of_getElem? (i := 586) rfl) rfl, ev_in (List.mem_of_getElem? (i := 587) rfl) rfl⟩
abbrev M_X5_holds : evM := (RX5, cX5_holds, 5, (some FieldType.int))
set_option maxRecDepth 100000 in
theorem mv_X5_holds : evMV yX5_holds M_X5_holds 2 := ⟨⟨⟨by decide +kernel, by decide +kernel, by decide +kernel⟩, ev_in (List.mem_of_getElem? (i := 464) rfl) rfl, ev_in (List.mem_of_getElem? (i := 58) rfl) rfl⟩, ev_in (List.mem_of_getElem? (i := 462) rfl) rfl, ev_in (List.mem_of_getElem? (i := 463) rfl) rfl⟩
abbrev M_X5_init : evM := (RX5, cX5_init, 2, none)
abbrev M_X5_isNoShip : evM := (RX5, cX5_isNoShip, 1, (some FieldType.boolean))
set_option maxRecDepth 100000 in
theorem mv_X5_isNoShip : evMS yX5_isNoShip M_X5_isNoShip 1 := ⟨⟨⟨by decide +kernel, by decide +kernel, by decide +kernel⟩, ev_in (List.mem_of_getElem? (i := 281) rfl) rfl, ev_in (List.mem_of_getElem? (i := 58) rfl) rfl⟩, ev_in (List.mem_of_getElem? (i := 280) rfl) rfl⟩
abbrev M_X5_keep : evM := (RX5, cX5_keep, 2, (some FieldType.int))
set_option maxRecDepth 100000 in
theorem mv_X5_keep : evMV yX5_keep M_X5_keep 1 := ⟨⟨⟨by decide +kernel, by decide +kernel, by decide +kernel⟩, ev_in (List.mem_of_getElem? (i := 623) rfl) rfl, ev_in (List.mem_of_getElem? (i := 58) rfl) rfl⟩, ev_in (List.mem_of_getElem? (i := 621) rfl) rfl, ev_in (List.mem_of_getElem? (i := 622) rfl) rfl⟩
abbrev M_X5_leg : evM := (RX5, cX5_leg, 5, (some FieldType.int))
set_option maxRecDepth 100000 in
theorem mv_X5_leg : evMV yX5_leg M_X5_leg 3 := ⟨⟨⟨by decide +kernel, by decide +kernel, by decide +kernel⟩, ev_in (List.mem_of_getElem? (i := 497) rfl) rfl, ev_in (List.mem_of_getElem? (i := 58) rfl) rfl⟩, ev_in (List.mem_of_getElem? (i := 495) rfl) rfl, ev_in (List.mem_of_getElem? (i := 496) rfl) rfl⟩
abbrev M_X5_look : evM := (RX5, cX5_look, 6, (some FieldType.int))
set_option maxRecDepth 100000 in
theorem mv_X5_look : evMV yX5_look M_X5_look 0 := ⟨⟨⟨by decide +kernel, by decide +kernel, by decide +kernel⟩, ev_in (List.mem_of_getElem? (i := 608) rfl) rfl, ev_in (List.mem_of_getElem? (i := 58) rfl) rfl⟩, ev_in (List.mem_of_getElem? (i := 606) rfl) rfl, ev_in (List.mem_of_getElem? (i := 607) rfl) rfl⟩
abbrev M_X5_mile : evM := (RX5, cX5_mile, 3, (some FieldType.int))
set_option maxRecDepth 100000 in
theorem mv_X5_mile : evMV yX5_mile M_X5_mile 2 := ⟨⟨⟨by decide +kernel, by decide +kernel, by decide +kernel⟩, ev_in (List.mem_of_getElem? (i := 571) rfl) rfl, ev_in (List.mem_of_getElem? (i := 58) rfl) rfl⟩, ev_in (List.mem_of_getElem? (i := 569) rfl) rfl, ev_in (List.mem_of_getElem? (i := 570) rfl) rfl⟩
abbrev M_X5_mostAlike : evM := (RX5, cX5_mostAlike, 7, (some FieldType.int))
set_option maxRecDepth 100000 in
theorem mv_X5_mostAlike : evMV yX5_mostAlike M_X5_mostAlike 2 := ⟨⟨⟨by decide +kernel, by decide +kernel, by decide +kernel⟩, ev_in (List.mem_of_getElem? (i := 618) rfl) rfl, ev_in (List.mem_of_getElem? (i := 58) rfl) rfl⟩, ev_in (List.mem_of_getElem? (i := 617) rfl) rfl, ev_in (List.mem_of_getElem? (i := 24) rfl) rfl⟩
abbrev M_X5_moves : evM := (RX5, cX5_moves, 7, (some FieldType.int))
set_option maxRecDepth 100000 in
theorem mv_X5_moves : evMV yX5_moves M_X5_moves 4 := ⟨⟨⟨by decide +kernel, by decide +kernel, by decide +kernel⟩, ev_in (List.mem_of_getElem? (i := 468) rfl) rfl, ev_in (List.mem_of_getElem? (i := 58) rfl) rfl⟩, ev_in (List.mem_of_getElem? (i := 466) rfl) rfl, ev_in (List.mem_of_getElem? (i := 467) rfl) rfl⟩
abbrev M_X5_needs : evM := (RX5, cX5_needs, 3, (some FieldType.int))
set_option maxRecDepth 100000 in
theorem mv_X5_needs : evMV yX5_needs M_X5_needs 1 := ⟨⟨⟨by decide +kernel, by decide +kernel, by decide +kernel⟩, ev_in (List.mem_of_getElem? (i := 555) rfl) rfl, ev_in (List.mem_of_getElem? (i := 58) rfl) rfl⟩, ev_in (List.mem_of_getElem? (i := 553) rfl) rfl, ev_in (List.mem_of_getElem? (i := 554) rfl) rfl⟩
abbrev M_X5_partOf : evM := (RX5, cX5_partOf, 5, (some FieldType.int))
set_option maxRecDepth 100000 in
theorem mv_X5_partOf : evMS yX5_partOf M_X5_partOf 3 := ⟨⟨⟨by decide +kernel, by decide +kernel, by decide +kernel⟩, ev_in (List.mem_of_getElem? (i := 521) rfl) rfl, ev_in (List.mem_of_getElem? (i := 58) rfl) rfl⟩, ev_in (List.mem_of_getElem? (i := 520) rfl) rfl⟩
abbrev M_X5_plan : evM := (RX5, cX5_plan, 4, (some FieldType.int))
set_option maxRecDepth 100000 in
theorem mv_X5_plan : evMV yX5_plan M_X5_plan 2 := ⟨⟨⟨by decide +kernel, by decide +kernel, by decide +kernel⟩, ev_in (List.mem_of_getElem? (i := 501) rfl) rfl, ev_in (List.mem_of_getElem? (i := 58) rfl) rfl⟩, ev_in (List.mem_of_getElem? (i := 499) rfl) rfl, ev_in (List.mem_of_getElem? (i := 500) rfl) rfl⟩
abbrev M_X5_sails : evM := (RX5, cX5_sails, 8, (some FieldType.int))
set_option maxRecDepth 100000 in
theorem mv_X5_sails : evMV yX5_sails M_X5_sails 1 := ⟨⟨⟨by decide +kernel, by decide +kernel, by decide +kernel⟩, ev_in (List.mem_of_getElem? (i := 365) rfl) rfl, ev_in (List.mem_of_getElem? (i := 58) rfl) rfl⟩, ev_in (List.mem_of_getElem? (i := 363) rfl) rfl, ev_in (List.mem_of_getElem? (i := 364) rfl) rfl⟩
abbrev M_X5_sees : evM := (RX5, cX5_sees, 3, (some FieldType.int))
set_option maxRecDepth 100000 in
theorem mv_X5_sees : evMV yX5_sees M_X5_sees 2 := ⟨⟨⟨by decide +kernel, by decide +kernel, by decide +kernel⟩, ev_in (List.mem_of_getElem? (i := 584) rfl) rfl, ev_in (List.mem_of_getElem? (i := 58) rfl) rfl⟩, ev_in (List.mem_of_getElem? (i := 582) rfl) rfl, ev_in (List.mem_of_getElem? (i := 583) rfl) rfl⟩
abbrev M_X5_ship : evM := (RX5, cX5_ship, 3, (some FieldType.int))
set_option maxRecDepth 100000 in
theorem mv_X5_ship : evMV yX5_ship M_X5_ship 2 := ⟨⟨⟨by decide +kernel, by decide +kernel, by decide +kernel⟩, ev_in (List.mem_of_getElem? (i := 493) rfl) rfl, ev_in (List.mem_of_getElem? (i := 58) rfl) rfl⟩, ev_in (List.mem_of_getElem? (i := 491) rfl) rfl, ev_in (List.mem_of_getElem? (i := 492) rfl) rfl⟩
abbrev M_X5_slack : evM := (RX5, cX5_slack, 4, (some FieldType.int))
set_option maxRecDepth 100000 in
theorem mv_X5_slack : evMV yX5_slack M_X5_slack 1 := ⟨⟨⟨by decide +kernel, by decide +kernel, by decide +kernel⟩, ev_in (List.mem_of_getElem? (i := 551) rfl) rfl, ev_in (List.mem_of_getElem? (i := 58) rfl) rfl⟩, ev_in (List.mem_of_getElem? (i := 549) rfl) rfl, ev_in (List.mem_of_getElem? (i := 550) rfl) rfl⟩
abbrev M_X5_speed : evM := (RX5, cX5_speed, 5, (some FieldType.int))
set_option maxRecDepth 100000 in
theorem mv_X5_speed : evMV yX5_speed M_X5_speed 3 := ⟨⟨⟨by decide +kernel, by decide +kernel, by decide +kernel⟩, ev_in (List.mem_of_getElem? (i := 529) rfl) rfl, ev_in (List.mem_of_getElem? (i := 58) rfl) rfl⟩, ev_in (List.mem_of_getElem? (i := 527) rfl) rfl, ev_in (List.mem_of_getElem? (i := 528) rfl) rfl⟩
abbrev M_X5_suspects : evM := (RX5, cX5_suspects, 3, (some FieldType.int))
set_option maxRecDepth 100000 in
theorem mv_X5_suspects : evMV yX5_suspects M_X5_suspects 0 := ⟨⟨⟨by decide +kernel, by decide +kernel, by decide +kernel⟩, ev_in (List.mem_of_getElem? (i := 600) rfl) rfl, ev_in (List.mem_of_getElem? (i := 58) rfl) rfl⟩, ev_in (List.mem_of_getElem? (i := 599) rfl) rfl, ev_in (List.mem_of_getElem? (i := 22) rfl) rfl⟩
abbrev M_X5_tells : evM := (RX5, cX5_tells, 3, (some FieldType.int))
set_option maxRecDepth 100000 in
theorem mv_X5_tells : evMV yX5_tells M_X5_tells 1 := ⟨⟨⟨by decide +kernel, by decide +kernel, by decide +kernel⟩, ev_in (List.mem_of_getElem? (i := 278) rfl) rfl, ev_in (List.mem_of_getElem? (i := 58) rfl) rfl⟩, ev_in (List.mem_of_getElem? (i := 276) rfl) rfl, ev_in (List.mem_of_getElem? (i := 277) rfl) rfl⟩
abbrev M_X5_time : evM := (RX5, cX5_time, 5, (some FieldType.int))
set_option maxRecDepth 100000 in
theorem mv_X5_time : evMV yX5_time M_X5_time 3 := ⟨⟨⟨by decide +kernel, by decide +kernel, by decide +kernel⟩, ev_in (List.mem_of_getElem? (i := 514) rfl) rfl, ev_in (List.mem_of_getElem? (i := 58) rfl) rfl⟩, ev_in (List.mem_of_getElem? (i := 512) rfl) rfl, ev_in (List.mem_of_getElem? (i := 513) rfl) rfl⟩
abbrev M_X5_type : evM := (RX5, cX5_type, 2, (some FieldType.int))
set_option maxRecDepth 100000 in
theorem mv_X5_type : evMV yX5_type M_X5_type 1 := ⟨⟨⟨by decide +kernel, by decide +kernel, by decide +kernel⟩, ev_in (List.mem_of_getElem? (i := 258) rfl) rfl, ev_in (List.mem_of_getElem? (i := 58) rfl) rfl⟩, ev_in (List.mem_of_getElem? (i := 256) rfl) rfl, ev_in (List.mem_of_getElem? (i := 257) rfl) rfl⟩
abbrev M_X5_undo : evM := (RX5, cX5_undo, 1, (some FieldType.int))
set_option maxRecDepth 100000 in
theorem mv_X5_undo : evMV yX5_undo M_X5_undo 0 := ⟨⟨⟨by decide +kernel, by decide +kernel, by decide +kernel⟩, ev_in (List.mem_of_getElem? (i := 481) rfl) rfl, ev_in (List.mem_of_getElem? (i := 58) rfl) rfl⟩, ev_in (List.mem_of_getElem? (i := 479) rfl) rfl, ev_in (List.mem_of_getElem? (i := 480) rfl) rfl⟩
abbrev M_X5_which : evM := (RX5, cX5_which, 1, (some FieldType.int))
set_option maxRecDepth 100000 in
theorem mv_X5_which : evMV yX5_which M_X5_which 0 := ⟨⟨⟨by decide +kernel, by decide +kernel, by decide +kernel⟩, ev_in (List.mem_of_getElem? (i := 592) rfl) rfl, ev_in (List.mem_of_getElem? (i := 58) rfl) rfl⟩, ev_in (List.mem_of_getElem? (i := 590) rfl) rfl, ev_in (List.mem_of_getElem? (i := 591) rfl) rfl⟩
abbrev M_X6_alikeAt : evM := (RX6, cX6_alikeAt, 7, (some FieldType.int))
set_option maxRecDepth 100000 in
theorem mv_X6_alikeAt : evMV yX6_alikeAt M_X6_alikeAt 2 := ⟨⟨⟨by decide +kernel, by decide +kernel, by decide +kernel⟩, ev_in (List.mem_of_getElem? (i := 962) rfl) rfl, ev_in (List.mem_of_getElem? (i := 66) rfl) rfl⟩, ev_in (List.mem_of_getElem? (i := 961) rfl) rfl, ev_in (List.mem_of_getElem? (i := 55) rfl) rfl⟩
abbrev M_X6_back : evM := (RX6, cX6_back, 3, (some FieldType.int))
set_option maxRecDepth 100000 in
theorem mv_X6_back : evMV yX6_back M_X6_back 1 := ⟨⟨⟨by decide +kernel, by decide +kernel, by decide +kernel⟩, ev_in (List.mem_of_getElem? (i := 974) rfl) rfl, ev_in (List.mem_of_getElem? (i := 66) rfl) rfl⟩, ev_in (List.mem_of_getElem? (i := 972) rfl) rfl, ev_in (List.mem_of_getElem? (i := 973) rfl) rfl⟩
abbrev M_X6_begins : evM := (RX6, cX6_begins, 3, none)
set_option maxRecDepth 100000 in
theorem mv_X6_begins : evMS yX6_begins M_X6_begins 2 := ⟨⟨⟨by decide +kernel, by decide +kernel, by decide +kernel⟩, ev_in (List.mem_of_getElem? (i := 650) rfl) rfl, ev_in (List.mem_of_getElem? (i := 66) rfl) rfl⟩, ev_in (List.mem_of_getElem? (i := 649) rfl) rfl⟩
abbrev M_X6_blanks : evM := (RX6, cX6_blanks, 1, none)
set_option maxRecDepth 100000 in
theorem mv_X6_blanks : evMV yX6_blanks M_X6_blanks 0 := ⟨⟨⟨by decide +kernel, by decide +kernel, by decide +kernel⟩, ev_in (List.mem_of_getElem? (i := 757) rfl) rfl, ev_in (List.mem_of_getElem? (i := 66) rfl) rfl⟩, ev_in (List.mem_of_getElem? (i := 756) rfl) rfl, ev_in (List.mem_of_getElem? (i := 26) rfl) rfl⟩
abbrev M_X6_clear : evM := (RX6, cX6_clear, 2, (some FieldType.int))
set_option maxRecDepth 100000 in
theorem mv_X6_clear : evMV yX6_clear M_X6_clear 0 := ⟨⟨⟨by decide +kernel, by decide +kernel, by decide +kernel⟩, ev_in (List.mem_of_getElem? (i := 742) rfl) rfl, ev_in (List.mem_of_getElem? (i := 66) rfl) rfl⟩, ev_in (List.mem_of_getElem? (i := 740) rfl) rfl, ev_in (List.mem_of_getElem? (i := 741) rfl) rfl⟩
abbrev M_X6_closed : evM := (RX6, cX6_closed, 3, (some FieldType.int))
set_option maxRecDepth 100000 in
theorem mv_X6_closed : evMV yX6_closed M_X6_closed 2 := ⟨⟨⟨by decide +kernel, by decide +kernel, by decide +kernel⟩, ev_in (List.mem_of_getElem? (i := 910) rfl) rfl, ev_in (List.mem_of_getElem? (i := 66) rfl) rfl⟩, ev_in (List.mem_of_getElem? (i := 908) rfl) rfl, ev_in (List.mem_of_getElem? (i := 909) rfl) rfl⟩
abbrev M_X6_common : evM := (RX6, cX6_common, 10, (some FieldType.long))
set_option maxRecDepth 100000 in
theorem mv_X6_common : evMS yX6_common M_X6_common 2 := ⟨⟨⟨by decide +kernel, by decide +kernel, by decide +kernel⟩, ev_in (List.mem_of_getElem? (i := 901) rfl) rfl, ev_in (List.mem_of_getElem? (i := 66) rfl) rfl⟩, ev_in (List.mem_of_getElem? (i := 900) rfl) rfl⟩
abbrev M_X6_cost : evM := (RX6, cX6_cost, 3, (some FieldType.int))
set_option maxRecDepth 100000 in
theorem mv_X6_cost : evMV yX6_cost M_X6_cost 2 := ⟨⟨⟨by decide +kernel, by decide +kernel, by decide +kernel⟩, ev_in (List.mem_of_getElem? (i := 914) rfl) rfl, ev_in (List.mem_of_getElem? (i := 66) rfl) rfl⟩, ev_in (List.mem_of_getElem? (i := 912) rfl) rfl, ev_in (List.mem_of_getElem? (i := 913) rfl) rfl⟩
abbrev M_X6_costOf : evM := (RX6, cX6_costOf, 17, (some FieldType.int))
set_option maxRecDepth 100000 in
theorem mv_X6_costOf : evMV yX6_costOf M_X6_costOf 1 := ⟨⟨⟨by decide +kernel, by decide +kernel, by decide +kernel⟩, ev_in (List.mem_of_getElem? (i := 852) rfl) rfl, ev_in (List.mem_of_getElem? (i := 66) rfl) rfl⟩, ev_in (List.mem_of_getElem? (i := 851) rfl) rfl, ev_in (List.mem_of_getElem? (i := 48) rfl) rfl⟩
abbrev M_X6_costsAhead : evM := (RX6, cX6_costsAhead, 3, (some FieldType.int))
set_option maxRecDepth 100000 in
theorem mv_X6_costsAhead : evMV yX6_costsAhead M_X6_costsAhead 0 := ⟨⟨⟨by decide +kernel, by decide +kernel, by decide +kernel⟩, ev_in (List.mem_of_getElem? (i := 890) rfl) rfl, ev_in (List.mem_of_getElem? (i := 66) rfl) rfl⟩, ev_in (List.mem_of_getElem? (i := 889) rfl) rfl, ev_in (List.mem_of_getElem? (i := 51) rfl) rfl⟩
abbrev M_X6_count : evM := (RX6, cX6_count, 2, (some FieldType.int))
set_option maxRecDepth 100000 in
theorem mv_X6_count : evMV yX6_count M_X6_count 1 := ⟨⟨⟨by decide +kernel, by decide +kernel, by decide +kernel⟩, ev_in (List.mem_of_getElem? (i := 978) rfl) rfl, ev_in (List.mem_of_getElem? (i := 66) rfl) rfl⟩, ev_in (List.mem_of_getElem? (i := 976) rfl) rfl, ev_in (List.mem_of_getElem? (i := 977) rfl) rfl⟩
abbrev M_X6_eased : evM := (RX6, cX6_eased, 8, (some FieldType.int))
set_option maxRecDepth 100000 in
theorem mv_X6_eased : evMV yX6_eased M_X6_eased 1 := ⟨⟨⟨by decide +kernel, by decide +kernel, by decide +kernel⟩, ev_in (List.mem_of_getElem? (i := 926) rfl) rfl, ev_in (List.mem_of_getElem? (i := 66) rfl) rfl⟩, ev_in (List.mem_of_getElem? (i := 924) rfl) rfl, ev_in (List.mem_of_getElem? (i := 925) rfl) rfl⟩
abbrev M_X6_evenTimes : evM := (RX6, cX6_evenTimes, 4, (some FieldType.long))
set_option maxRecDepth 100000 in
theorem mv_X6_evenTimes : evMV yX6_evenTimes M_X6_evenTimes 3 := ⟨⟨⟨by decide +kernel, by decide +kernel, by decide +kernel⟩, ev_in (List.mem_of_getElem? (i := 828) rfl) rfl, ev_in (List.mem_of_getElem? (i := 66) rfl) rfl⟩, ev_in (List.mem_of_getElem? (i := 827) rfl) rfl, ev_in (List.mem_of_getElem? (i := 42) rfl) rfl⟩
abbrev M_X6_fastNeeded : evM := (RX6, cX6_fastNeeded, 9, (some FieldType.int))
set_option maxRecDepth 100000 in
theorem mv_X6_fastNeeded : evMV yX6_fastNeeded M_X6_fastNeeded 0 := ⟨⟨⟨by decide +kernel, by decide +kernel, by decide +kernel⟩, ev_in (List.mem_of_getElem? (i := 836) rfl) rfl, ev_in (List.mem_of_getElem? (i := 66) rfl) rfl⟩, ev_in (List.mem_of_getElem? (i := 835) rfl) rfl, ev_in (List.mem_of_getElem? (i := 44) rfl) rfl⟩
abbrev M_X6_fastens : evM := (RX6, cX6_fastens, 4, (some FieldType.int))
set_option maxRecDepth 100000 in
theorem mv_X6_fastens : evMV yX6_fastens M_X6_fastens 2 := ⟨⟨⟨by decide +kernel, by decide +kernel, by decide +kernel⟩, ev_in (List.mem_of_getElem? (i := 870) rfl) rfl, ev_in (List.mem_of_getElem? (i := 66) rfl) rfl⟩, ev_in (List.mem_of_getElem? (i := 868) rfl) rfl, ev_in (List.mem_of_getElem? (i := 869) rfl) rfl⟩
abbrev M_X6_forget : evM := (RX6, cX6_forget, 2, (some FieldType.int))
set_option maxRecDepth 100000 in
theorem mv_X6_forget : evMV yX6_forget M_X6_forget 0 := ⟨⟨⟨by decide +kernel, by decide +kernel, by decide +kernel⟩, ev_in (List.mem_of_getElem? (i := 946) rfl) rfl, ev_in (List.mem_of_getElem? (i := 66) rfl) rfl⟩, ev_in (List.mem_of_getElem? (i := 944) rfl) rfl, ev_in (List.mem_of_getElem? (i := 945) rfl) rfl⟩
abbrev M_X6_hasPlan : evM := (RX6, cX6_hasPlan, 2, (some FieldType.boolean))
set_option maxRecDepth 100000 in
theorem mv_X6_hasPlan : evMV yX6_hasPlan M_X6_hasPlan 0 := ⟨⟨⟨by decide +kernel, by decide +kernel, by decide +kernel⟩, ev_in (List.mem_of_getElem? (i := 832) rfl) rfl, ev_in (List.mem_of_getElem? (i := 66) rfl) rfl⟩, ev_in (List.mem_of_getElem? (i := 831) rfl) rfl, ev_in (List.mem_of_getElem? (i := 43) rfl) rfl⟩
abbrev M_X6_holds : evM := (RX6, cX6_holds, 3, (some FieldType.int))
set_option maxRecDepth 100000 in
theorem mv_X6_holds : evMV yX6_holds M_X6_holds 2 := ⟨⟨⟨by decide +kernel, by decide +kernel, by decide +kernel⟩, ev_in (List.mem_of_getElem? (i := 858) rfl) rfl, ev_in (List.mem_of_getElem? (i := 66) rfl) rfl⟩, ev_in (List.mem_of_getElem? (i := 856) rfl) rfl, ev_in (List.mem_of_getElem? (i := 857) rfl) rfl⟩
abbrev M_X6_in : evM := (RX6, cX6_in, 3, (some FieldType.boolean))
set_option maxRecDepth 100000 in
theorem mv_X6_in : evMS yX6_in M_X6_in 3 := ⟨⟨⟨by decide +kernel, by decide +kernel, by decide +kernel⟩, ev_in (List.mem_of_getElem? (i := 738) rfl) rfl, ev_in (List.mem_of_getElem? (i := 66) rfl) rfl⟩, ev_in (List.mem_of_getElem? (i := 737) rfl) rfl⟩
abbrev M_X6_init : evM := (RX6, cX6_init, 2, none)
abbrev M_X6_isAhead : evM := (RX6, cX6_isAhead, 3, (some FieldType.boolean))
set_option maxRecDepth 100000 in
theorem mv_X6_isAhead : evMV yX6_isAhead M_X6_isAhead 2 := ⟨⟨⟨by decide +kernel, by decide +kernel, by decide +kernel⟩, ev_in (List.mem_of_getElem? (i := 866) rfl) rfl, ev_in (List.mem_of_getElem? (i := 66) rfl) rfl⟩, ev_in (List.mem_of_getElem? (i := 865) rfl) rfl, ev_in (List.mem_of_getElem? (i := 49) rfl) rfl⟩
abbrev M_X6_isAt : evM := (RX6, cX6_isAt, 3, (some FieldType.boolean))
set_option maxRecDepth 100000 in
theorem mv_X6_isAt : evMV yX6_isAt M_X6_isAt 2 := ⟨⟨⟨by decide +kernel, by decide +kernel, by decide +kernel⟩, ev_in (List.mem_of_getElem? (i := 772) rfl) rfl, ev_in (List.mem_of_getElem? (i := 66) rfl) rfl⟩, ev_in (List.mem_of_getElem? (i := 771) rfl) rfl, ev_in (List.mem_of_getElem? (i := 29) rfl) rfl⟩
abbrev M_X6_isShip : evM := (RX6, cX6_isShip, 1, (some FieldType.boolean))
set_option maxRecDepth 100000 in
theorem mv_X6_isShip : evMS yX6_isShip M_X6_isShip 1 := ⟨⟨⟨by decide +kernel, by decide +kernel, by decide +kernel⟩, ev_in (List.mem_of_getElem? (i := 749) rfl) rfl, ev_in (List.mem_of_getElem? (i := 66) rfl) rfl⟩, ev_in (List.mem_of_getElem? (i := 748) rfl) rfl⟩
abbrev M_X6_keep : evM := (RX6, cX6_keep, 3, (some FieldType.int))
set_option maxRecDepth 100000 in
theorem mv_X6_keep : evMV yX6_keep M_X6_keep 1 := ⟨⟨⟨by decide +kernel, by decide +kernel, by decide +kernel⟩, ev_in (List.mem_of_getElem? (i := 966) rfl) rfl, ev_in (List.mem_of_getElem? (i := 66) rfl) rfl⟩, ev_in (List.mem_of_getElem? (i := 964) rfl) rfl, ev_in (List.mem_of_getElem? (i := 965) rfl) rfl⟩
abbrev M_X6_lays : evM := (RX6, cX6_lays, 8, none)
set_option maxRecDepth 100000 in
theorem mv_X6_lays : evMV yX6_lays M_X6_lays 4 := ⟨⟨⟨by decide +kernel, by decide +kernel, by decide +kernel⟩, ev_in (List.mem_of_getElem? (i := 800) rfl) rfl, ev_in (List.mem_of_getElem? (i := 66) rfl) rfl⟩, ev_in (List.mem_of_getElem? (i := 799) rfl) rfl, ev_in (List.mem_of_getElem? (i := 35) rfl) rfl⟩
abbrev M_X6_leg : evM := (RX6, cX6_leg, 4, (some FieldType.int))
set_option maxRecDepth 100000 in
theorem mv_X6_leg : evMV yX6_leg M_X6_leg 3 := ⟨⟨⟨by decide +kernel, by decide +kernel, by decide +kernel⟩, ev_in (List.mem_of_getElem? (i := 878) rfl) rfl, ev_in (List.mem_of_getElem? (i := 66) rfl) rfl⟩, ev_in (List.mem_of_getElem? (i := 876) rfl) rfl, ev_in (List.mem_of_getElem? (i := 877) rfl) rfl⟩
abbrev M_X6_legPlace : evM := (RX6, cX6_legPlace, 2, (some FieldType.int))
set_option maxRecDepth 100000 in
theorem mv_X6_legPlace : evMS yX6_legPlace M_X6_legPlace 2 := ⟨⟨⟨by decide +kernel, by decide +kernel, by decide +kernel⟩, ev_in (List.mem_of_getElem? (i := 764) rfl) rfl, ev_in (List.mem_of_getElem? (i := 66) rfl) rfl⟩, ev_in (List.mem_of_getElem? (i := 763) rfl) rfl⟩
abbrev M_X6_legsOfAll : evM := (RX6, cX6_legsOfAll, 3, (some FieldType.int))
set_option maxRecDepth 100000 in
theorem mv_X6_legsOfAll : evMV yX6_legsOfAll M_X6_legsOfAll 0 := ⟨⟨⟨by decide +kernel, by decide +kernel, by decide +kernel⟩, ev_in (List.mem_of_getElem? (i := 970) rfl) rfl, ev_in (List.mem_of_getElem? (i := 66) rfl) rfl⟩, ev_in (List.mem_of_getElem? (i := 969) rfl) rfl, ev_in (List.mem_of_getElem? (i := 56) rfl) rfl⟩
abbrev M_X6_look : evM := (RX6, cX6_look, 6, (some FieldType.int))
set_option maxRecDepth 100000 in
theorem mv_X6_look : evMV yX6_look M_X6_look 0 := ⟨⟨⟨by decide +kernel, by decide +kernel, by decide +kernel⟩, ev_in (List.mem_of_getElem? (i := 958) rfl) rfl, ev_in (List.mem_of_getElem? (i := 66) rfl) rfl⟩, ev_in (List.mem_of_getElem? (i := 956) rfl) rfl, ev_in (List.mem_of_getElem? (i := 957) rfl) rfl⟩
abbrev M_X6_lowest : evM := (RX6, cX6_lowest, 7, (some FieldType.int))
set_option maxRecDepth 100000 in
theorem mv_X6_lowest : evMS yX6_lowest M_X6_lowest 3 := ⟨⟨⟨by decide +kernel, by decide +kernel, by decide +kernel⟩, ev_in (List.mem_of_getElem? (i := 898) rfl) rfl, ev_in (List.mem_of_getElem? (i := 66) rfl) rfl⟩, ev_in (List.mem_of_getElem? (i := 897) rfl) rfl⟩
abbrev M_X6_markAhead : evM := (RX6, cX6_markAhead, 3, (some FieldType.int))
set_option maxRecDepth 100000 in
theorem mv_X6_markAhead : evMV yX6_markAhead M_X6_markAhead 1 := ⟨⟨⟨by decide +kernel, by decide +kernel, by decide +kernel⟩, ev_in (List.mem_of_getElem? (i := 844) rfl) rfl, ev_in (List.mem_of_getElem? (i := 66) rfl) rfl⟩, ev_in (List.mem_of_getElem? (i := 843) rfl) rfl, ev_in (List.mem_of_getElem? (i := 46) rfl) rfl⟩
abbrev M_X6_markBehind : evM := (RX6, cX6_markBehind, 3, (some FieldType.int))
set_option maxRecDepth 100000 in
theorem mv_X6_markBehind : evMV yX6_markBehind M_X6_markBehind 1 := ⟨⟨⟨by decide +kernel, by decide +kernel, by decide +kernel⟩, ev_in (List.mem_of_getElem? (i := 816) rfl) rfl, ev_in (List.mem_of_getElem? (i := 66) rfl) rfl⟩, ev_in (List.mem_of_getElem? (i := 815) rfl) rfl, ev_in (List.mem_of_getElem? (i := 39) rfl) rfl⟩
abbrev M_X6_marksAll : evM := (RX6, cX6_marksAll, 3, none)
set_option maxRecDepth 100000 in
theorem mv_X6_marksAll : evMV yX6_marksAll M_X6_marksAll 0 := ⟨⟨⟨by decide +kernel, by decide +kernel, by decide +kernel⟩, ev_in (List.mem_of_getElem? (i := 812) rfl) rfl, ev_in (List.mem_of_getElem? (i := 66) rfl) rfl⟩, ev_in (List.mem_of_getElem? (i := 811) rfl) rfl, ev_in (List.mem_of_getElem? (i := 38) rfl) rfl⟩
abbrev M_X6_marksOne : evM := (RX6, cX6_marksOne, 7, (some FieldType.boolean))
set_option maxRecDepth 100000 in
theorem mv_X6_marksOne : evMV yX6_marksOne M_X6_marksOne 2 := ⟨⟨⟨by decide +kernel, by decide +kernel, by decide +kernel⟩, ev_in (List.mem_of_getElem? (i := 820) rfl) rfl, ev_in (List.mem_of_getElem? (i := 66) rfl) rfl⟩, ev_in (List.mem_of_getElem? (i := 819) rfl) rfl, ev_in (List.mem_of_getElem? (i := 40) rfl) rfl⟩
abbrev M_X6_mile : evM := (RX6, cX6_mile, 3, (some FieldType.int))
set_option maxRecDepth 100000 in
theorem mv_X6_mile : evMV yX6_mile M_X6_mile 2 := ⟨⟨⟨by decide +kernel, by decide +kernel, by decide +kernel⟩, ev_in (List.mem_of_getElem? (i := 930) rfl) rfl, ev_in (List.mem_of_getElem? (i := 66) rfl) rfl⟩, ev_in (List.mem_of_getElem? (i := 928) rfl) rfl, ev_in (List.mem_of_getElem? (i := 929) rfl) rfl⟩
abbrev M_X6_mileAt : evM := (RX6, cX6_mileAt, 9, (some FieldType.int))
set_option maxRecDepth 100000 in
theorem mv_X6_mileAt : evMV yX6_mileAt M_X6_mileAt 1 := ⟨⟨⟨by decide +kernel, by decide +kernel, by decide +kernel⟩, ev_in (List.mem_of_getElem? (i := 938) rfl) rfl, ev_in (List.mem_of_getElem? (i := 66) rfl) rfl⟩, ev_in (List.mem_of_getElem? (i := 937) rfl) rfl, ev_in (List.mem_of_getElem? (i := 53) rfl) rfl⟩
abbrev M_X6_mileOf : evM := (RX6, cX6_mileOf, 3, (some FieldType.int))
set_option maxRecDepth 100000 in
theorem mv_X6_mileOf : evMV yX6_mileOf M_X6_mileOf 2 := ⟨⟨⟨by decide +kernel, by decide +kernel, by decide +kernel⟩, ev_in (List.mem_of_getElem? (i := 934) rfl) rfl, ev_in (List.mem_of_getElem? (i := 66) rfl) rfl⟩, ev_in (List.mem_of_getElem? (i := 933) rfl) rfl, ev_in (List.mem_of_getElem? (i := 52) rfl) rfl⟩
abbrev M_X6_milesAt : evM := (RX6, cX6_milesAt, 3, (some FieldType.long))
set_option maxRecDepth 100000 in
theorem mv_X6_milesAt : evMV yX6_milesAt M_X6_milesAt 1 := ⟨⟨⟨by decide +kernel, by decide +kernel, by decide +kernel⟩, ev_in (List.mem_of_getElem? (i := 840) rfl) rfl, ev_in (List.mem_of_getElem? (i := 66) rfl) rfl⟩, ev_in (List.mem_of_getElem? (i := 839) rfl) rfl, ev_in (List.mem_of_getElem? (i := 45) rfl) rfl⟩
abbrev M_X6_missedTimes : evM := (RX6, cX6_missedTimes, 12, (some FieldType.long))
set_option maxRecDepth 100000 in
theorem mv_X6_missedTimes : evMV yX6_missedTimes M_X6_missedTimes 3 := ⟨⟨⟨by decide +kernel, by decide +kernel, by decide +kernel⟩, ev_in (List.mem_of_getElem? (i := 824) rfl) rfl, ev_in (List.mem_of_getElem? (i := 66) rfl) rfl⟩, ev_in (List.mem_of_getElem? (i := 823) rfl) rfl, ev_in (List.mem_of_getElem? (i := 41) rfl) rfl⟩
abbrev M_X6_moves : evM := (RX6, cX6_moves, 6, (some FieldType.int))
set_option maxRecDepth 100000 in
theorem mv_X6_moves : evMV yX6_moves M_X6_moves 4 := ⟨⟨⟨by decide +kernel, by decide +kernel, by decide +kernel⟩, ev_in (List.mem_of_getElem? (i := 862) rfl) rfl, ev_in (List.mem_of_getElem? (i := 66) rfl) rfl⟩, ev_in (List.mem_of_getElem? (i := 860) rfl) rfl, ev_in (List.mem_of_getElem? (i := 861) rfl) rfl⟩
abbrev M_X6_needs : evM := (RX6, cX6_needs, 2, (some FieldType.int))
set_option maxRecDepth 100000 in
theorem mv_X6_needs : evMV yX6_needs M_X6_needs 1 := ⟨⟨⟨by decide +kernel, by decide +kernel, by decide +kernel⟩, ev_in (List.mem_of_getElem? (i := 922) rfl) rfl, ev_in (List.mem_of_getElem? (i := 66) rfl) rfl⟩, ev_in (List.mem_of_getElem? (i := 920) rfl) rfl, ev_in (List.mem_of_getElem? (i := 921) rfl) rfl⟩
abbrev M_X6_of : evM := (RX6, cX6_of, 3, (some FieldType.int))
set_option maxRecDepth 100000 in
theorem mv_X6_of : evMV yX6_of M_X6_of 2 := ⟨⟨⟨by decide +kernel, by decide +kernel, by decide +kernel⟩, ev_in (List.mem_of_getElem? (i := 804) rfl) rfl, ev_in (List.mem_of_getElem? (i := 66) rfl) rfl⟩, ev_in (List.mem_of_getElem? (i := 803) rfl) rfl, ev_in (List.mem_of_getElem? (i := 36) rfl) rfl⟩
abbrev M_X6_ofLeg : evM := (RX6, cX6_ofLeg, 4, (some FieldType.int))
set_option maxRecDepth 100000 in
theorem mv_X6_ofLeg : evMV yX6_ofLeg M_X6_ofLeg 3 := ⟨⟨⟨by decide +kernel, by decide +kernel, by decide +kernel⟩, ev_in (List.mem_of_getElem? (i := 808) rfl) rfl, ev_in (List.mem_of_getElem? (i := 66) rfl) rfl⟩, ev_in (List.mem_of_getElem? (i := 807) rfl) rfl, ev_in (List.mem_of_getElem? (i := 37) rfl) rfl⟩
abbrev M_X6_plan : evM := (RX6, cX6_plan, 3, (some FieldType.int))
set_option maxRecDepth 100000 in
theorem mv_X6_plan : evMV yX6_plan M_X6_plan 2 := ⟨⟨⟨by decide +kernel, by decide +kernel, by decide +kernel⟩, ev_in (List.mem_of_getElem? (i := 882) rfl) rfl, ev_in (List.mem_of_getElem? (i := 66) rfl) rfl⟩, ev_in (List.mem_of_getElem? (i := 880) rfl) rfl, ev_in (List.mem_of_getElem? (i := 881) rfl) rfl⟩
abbrev M_X6_plans : evM := (RX6, cX6_plans, 2, (some FieldType.boolean))
set_option maxRecDepth 100000 in
theorem mv_X6_plans : evMV yX6_plans M_X6_plans 1 := ⟨⟨⟨by decide +kernel, by decide +kernel, by decide +kernel⟩, ev_in (List.mem_of_getElem? (i := 796) rfl) rfl, ev_in (List.mem_of_getElem? (i := 66) rfl) rfl⟩, ev_in (List.mem_of_getElem? (i := 795) rfl) rfl, ev_in (List.mem_of_getElem? (i := 34) rfl) rfl⟩
abbrev M_X6_reads : evM := (RX6, cX6_reads, 4, (some FieldType.int))
set_option maxRecDepth 100000 in
theorem mv_X6_reads : evMV yX6_reads M_X6_reads 0 := ⟨⟨⟨by decide +kernel, by decide +kernel, by decide +kernel⟩, ev_in (List.mem_of_getElem? (i := 753) rfl) rfl, ev_in (List.mem_of_getElem? (i := 66) rfl) rfl⟩, ev_in (List.mem_of_getElem? (i := 752) rfl) rfl, ev_in (List.mem_of_getElem? (i := 25) rfl) rfl⟩
abbrev M_X6_remembers : evM := (RX6, cX6_remembers, 2, none)
set_option maxRecDepth 100000 in
theorem mv_X6_remembers : evMV yX6_remembers M_X6_remembers 0 := ⟨⟨⟨by decide +kernel, by decide +kernel, by decide +kernel⟩, ev_in (List.mem_of_getElem? (i := 788) rfl) rfl, ev_in (List.mem_of_getElem? (i := 66) rfl) rfl⟩, ev_in (List.mem_of_getElem? (i := 787) rfl) rfl, ev_in (List.mem_of_getElem? (i := 33) rfl) rfl⟩
abbrev M_X6_sails : evM := (RX6, cX6_sails, 9, (some FieldType.int))
set_option maxRecDepth 100000 in
theorem mv_X6_sails : evMV yX6_sails M_X6_sails 1 := ⟨⟨⟨by decide +kernel, by decide +kernel, by decide +kernel⟩, ev_in (List.mem_of_getElem? (i := 792) rfl) rfl, ev_in (List.mem_of_getElem? (i := 66) rfl) rfl⟩, ev_in (List.mem_of_getElem? (i := 790) rfl) rfl, ev_in (List.mem_of_getElem? (i := 791) rfl) rfl⟩
abbrev M_X6_sees : evM := (RX6, cX6_sees, 3, (some FieldType.int))
set_option maxRecDepth 100000 in
theorem mv_X6_sees : evMV yX6_sees M_X6_sees 2 := ⟨⟨⟨by decide +kernel, by decide +kernel, by decide +kernel⟩, ev_in (List.mem_of_getElem? (i := 942) rfl) rfl, ev_in (List.mem_of_getElem? (i := 66) rfl) rfl⟩, ev_in (List.mem_of_getElem? (i := 940) rfl) rfl, ev_in (List.mem_of_getElem? (i := 941) rfl) rfl⟩
abbrev M_X6_ship : evM := (RX6, cX6_ship, 3, (some FieldType.int))
set_option maxRecDepth 100000 in
theorem mv_X6_ship : evMV yX6_ship M_X6_ship 2 := ⟨⟨⟨by decide +kernel, by decide +kernel, by decide +kernel⟩, ev_in (List.mem_of_getElem? (i := 874) rfl) rfl, ev_in (List.mem_of_getElem? (i := 66) rfl) rfl⟩, ev_in (List.mem_of_getElem? (i := 872) rfl) rfl, ev_in (List.mem_of_getElem? (i := 873) rfl) rfl⟩
abbrev M_X6_slack : evM := (RX6, cX6_slack, 3, (some FieldType.int))
set_option maxRecDepth 100000 in
theorem mv_X6_slack : evMV yX6_slack M_X6_slack 1 := ⟨⟨⟨by decide +kernel, by decide +kernel, by decide +kernel⟩, ev_in (List.mem_of_getElem? (i := 918) rfl) rfl, ev_in (List.mem_of_getElem? (i := 66) rfl) rfl⟩, ev_in (List.mem_of_getElem? (i := 916) rfl) rfl, ev_in (List.mem_of_getElem? (i := 917) rfl) rfl⟩
abbrev M_X6_speed : evM := (RX6, cX6_speed, 6, (some FieldType.int))
set_option maxRecDepth 100000 in
theorem mv_X6_speed : evMV yX6_speed M_X6_speed 3 := ⟨⟨⟨by decide +kernel, by decide +kernel, by decide +kernel⟩, ev_in (List.mem_of_getElem? (i := 906) rfl) rfl, ev_in (List.mem_of_getElem? (i := 66) rfl) rfl⟩, ev_in (List.mem_of_getElem? (i := 904) rfl) rfl, ev_in (List.mem_of_getElem? (i := 905) rfl) rfl⟩
abbrev M_X6_stretches : evM := (RX6, cX6_stretches, 3, (some FieldType.int))
set_option maxRecDepth 100000 in
theorem mv_X6_stretches : evMV yX6_stretches M_X6_stretches 0 := ⟨⟨⟨by decide +kernel, by decide +kernel, by decide +kernel⟩, ev_in (List.mem_of_getElem? (i := 886) rfl) rfl, ev_in (List.mem_of_getElem? (i := 66) rfl) rfl⟩, ev_in (List.mem_of_getElem? (i := 885) rfl) rfl, ev_in (List.mem_of_getElem? (i := 50) rfl) rfl⟩
abbrev M_X6_takesFastest : evM := (RX6, cX6_takesFastest, 1, (some FieldType.boolean))
set_option maxRecDepth 100000 in
theorem mv_X6_takesFastest : evMV yX6_takesFastest M_X6_takesFastest 0 := ⟨⟨⟨by decide +kernel, by decide +kernel, by decide +kernel⟩, ev_in (List.mem_of_getElem? (i := 780) rfl) rfl, ev_in (List.mem_of_getElem? (i := 66) rfl) rfl⟩, ev_in (List.mem_of_getElem? (i := 779) rfl) rfl, ev_in (List.mem_of_getElem? (i := 31) rfl) rfl⟩
abbrev M_X6_takesLeg : evM := (RX6, cX6_takesLeg, 4, (some FieldType.boolean))
set_option maxRecDepth 100000 in
theorem mv_X6_takesLeg : evMV yX6_takesLeg M_X6_takesLeg 0 := ⟨⟨⟨by decide +kernel, by decide +kernel, by decide +kernel⟩, ev_in (List.mem_of_getElem? (i := 761) rfl) rfl, ev_in (List.mem_of_getElem? (i := 66) rfl) rfl⟩, ev_in (List.mem_of_getElem? (i := 760) rfl) rfl, ev_in (List.mem_of_getElem? (i := 27) rfl) rfl⟩
abbrev M_X6_takesNumber : evM := (RX6, cX6_takesNumber, 4, (some FieldType.boolean))
set_option maxRecDepth 100000 in
theorem mv_X6_takesNumber : evMV yX6_takesNumber M_X6_takesNumber 2 := ⟨⟨⟨by decide +kernel, by decide +kernel, by decide +kernel⟩, ev_in (List.mem_of_getElem? (i := 768) rfl) rfl, ev_in (List.mem_of_getElem? (i := 66) rfl) rfl⟩, ev_in (List.mem_of_getElem? (i := 767) rfl) rfl, ev_in (List.mem_of_getElem? (i := 28) rfl) rfl⟩
abbrev M_X6_takesStop : evM := (RX6, cX6_takesStop, 2, (some FieldType.boolean))
set_option maxRecDepth 100000 in
theorem mv_X6_takesStop : evMV yX6_takesStop M_X6_takesStop 0 := ⟨⟨⟨by decide +kernel, by decide +kernel, by decide +kernel⟩, ev_in (List.mem_of_getElem? (i := 776) rfl) rfl, ev_in (List.mem_of_getElem? (i := 66) rfl) rfl⟩, ev_in (List.mem_of_getElem? (i := 775) rfl) rfl, ev_in (List.mem_of_getElem? (i := 30) rfl) rfl⟩
abbrev M_X6_takesTable : evM := (RX6, cX6_takesTable, 4, (some FieldType.boolean))
set_option maxRecDepth 100000 in
theorem mv_X6_takesTable : evMV yX6_takesTable M_X6_takesTable 0 := ⟨⟨⟨by decide +kernel, by decide +kernel, by decide +kernel⟩, ev_in (List.mem_of_getElem? (i := 784) rfl) rfl, ev_in (List.mem_of_getElem? (i := 66) rfl) rfl⟩, ev_in (List.mem_of_getElem? (i := 783) rfl) rfl, ev_in (List.mem_of_getElem? (i := 32) rfl) rfl⟩
abbrev M_X6_tells : evM := (RX6, cX6_tells, 4, (some FieldType.int))
set_option maxRecDepth 100000 in
theorem mv_X6_tells : evMV yX6_tells M_X6_tells 1 := ⟨⟨⟨by decide +kernel, by decide +kernel, by decide +kernel⟩, ev_in (List.mem_of_getElem? (i := 746) rfl) rfl, ev_in (List.mem_of_getElem? (i := 66) rfl) rfl⟩, ev_in (List.mem_of_getElem? (i := 744) rfl) rfl, ev_in (List.mem_of_getElem? (i := 745) rfl) rfl⟩
abbrev M_X6_time : evM := (RX6, cX6_time, 4, (some FieldType.int))
set_option maxRecDepth 100000 in
theorem mv_X6_time : evMV yX6_time M_X6_time 3 := ⟨⟨⟨by decide +kernel, by decide +kernel, by decide +kernel⟩, ev_in (List.mem_of_getElem? (i := 894) rfl) rfl, ev_in (List.mem_of_getElem? (i := 66) rfl) rfl⟩, ev_in (List.mem_of_getElem? (i := 892) rfl) rfl, ev_in (List.mem_of_getElem? (i := 893) rfl) rfl⟩
abbrev M_X6_timeTimes : evM := (RX6, cX6_timeTimes, 4, (some FieldType.long))
set_option maxRecDepth 100000 in
theorem mv_X6_timeTimes : evMV yX6_timeTimes M_X6_timeTimes 1 := ⟨⟨⟨by decide +kernel, by decide +kernel, by decide +kernel⟩, ev_in (List.mem_of_getElem? (i := 848) rfl) rfl, ev_in (List.mem_of_getElem? (i := 66) rfl) rfl⟩, ev_in (List.mem_of_getElem? (i := 847) rfl) rfl, ev_in (List.mem_of_getElem? (i := 47) rfl) rfl⟩
abbrev M_X6_type : evM := (RX6, cX6_type, 2, (some FieldType.int))
set_option maxRecDepth 100000 in
theorem mv_X6_type : evMV yX6_type M_X6_type 1 := ⟨⟨⟨by decide +kernel, by decide +kernel, by decide +kernel⟩, ev_in (List.mem_of_getElem? (i := 735) rfl) rfl, ev_in (List.mem_of_getElem? (i := 66) rfl) rfl⟩, ev_in (List.mem_of_getElem? (i := 733) rfl) rfl, ev_in (List.mem_of_getElem? (i := 734) rfl) rfl⟩
abbrev M_X6_undo : evM := (RX6, cX6_undo, 2, (some FieldType.int))
set_option maxRecDepth 100000 in
theorem mv_X6_undo : evMV yX6_undo M_X6_undo 0 := ⟨⟨⟨by decide +kernel, by decide +kernel, by decide +kernel⟩, ev_in (List.mem_of_getElem? (i := 731) rfl) rfl, ev_in (List.mem_of_getElem? (i := 66) rfl) rfl⟩, ev_in (List.mem_of_getElem? (i := 729) rfl) rfl, ev_in (List.mem_of_getElem? (i := 730) rfl) rfl⟩
abbrev M_X6_which : evM := (RX6, cX6_which, 1, (some FieldType.int))
set_option maxRecDepth 100000 in
theorem mv_X6_which : evMV yX6_which M_X6_which 0 := ⟨⟨⟨by decide +kernel, by decide +kernel, by decide +kernel⟩, ev_in (List.mem_of_getElem? (i := 950) rfl) rfl, ev_in (List.mem_of_getElem? (i := 66) rfl) rfl⟩, ev_in (List.mem_of_getElem? (i := 948) rfl) rfl, ev_in (List.mem_of_getElem? (i := 949) rfl) rfl⟩
abbrev M_X6_whichNow : evM := (RX6, cX6_whichNow, 5, (some FieldType.int))
set_option maxRecDepth 100000 in
theorem mv_X6_whichNow : evMV yX6_whichNow M_X6_whichNow 0 := ⟨⟨⟨by decide +kernel, by decide +kernel, by decide +kernel⟩, ev_in (List.mem_of_getElem? (i := 954) rfl) rfl, ev_in (List.mem_of_getElem? (i := 66) rfl) rfl⟩, ev_in (List.mem_of_getElem? (i := 953) rfl) rfl, ev_in (List.mem_of_getElem? (i := 54) rfl) rfl⟩
set_option maxRecDepth 100000 in
theorem fl_X5_10 : evFL RX5 10 0 0 := ev_in (List.mem_of_getElem? (i := 218) rfl) rfl
set_option maxRecDepth 100000 in
theorem fl_X5_19 : evFL RX5 19 0 1 := ev_in (List.mem_of_getElem? (i := 219) rfl) rfl
set_option maxRecDepth 100000 in
theorem fl_X5_23 : evFL RX5 23 0 2 := ev_in (List.mem_of_getElem? (i := 220) rfl) rfl
set_option maxRecDepth 100000 in
theorem fl_X5_27 : evFL RX5 27 0 3 := ev_in (List.mem_of_getElem? (i := 221) rfl) rfl
set_option maxRecDepth 100000 in
theorem fl_X5_34 : evFL RX5 34 0 4 := ev_in (List.mem_of_getElem? (i := 222) rfl) rfl
set_option maxRecDepth 100000 in
theorem fl_X5_41 : evFL RX5 41 0 5 := ev_in (List.mem_of_getElem? (i := 223) rfl) rfl
set_option maxRecDepth 100000 in
theorem fl_X5_48 : evFL RX5 48 0 6 := ev_in (List.mem_of_getElem? (i := 224) rfl) rfl
set_option maxRecDepth 100000 in
theorem fl_X5_52 : evFL RX5 52 0 7 := ev_in (List.mem_of_getElem? (i := 225) rfl) rfl
set_option maxRecDepth 100000 in
theorem fl_X5_56 : evFL RX5 56 0 8 := ev_in (List.mem_of_getElem? (i := 226) rfl) rfl
set_option maxRecDepth 100000 in
theorem fl_X5_60 : evFL RX5 60 0 9 := ev_in (List.mem_of_getElem? (i := 227) rfl) rfl
set_option maxRecDepth 100000 in
theorem fl_X5_63 : evFL RX5 63 0 10 := ev_in (List.mem_of_getElem? (i := 228) rfl) rfl
set_option maxRecDepth 100000 in
theorem fl_X5_67 : evFL RX5 67 0 11 := ev_in (List.mem_of_getElem? (i := 229) rfl) rfl
set_option maxRecDepth 100000 in
theorem fl_X0_11 : evFL RX0 11 1 0 := ev_in (List.mem_of_getElem? (i := 110) rfl) rfl
set_option maxRecDepth 100000 in
theorem fl_X1_11 : evFL RX1 11 16 0 := ev_in (List.mem_of_getElem? (i := 124) rfl) rfl
set_option maxRecDepth 100000 in
theorem fl_X1_15 : evFL RX1 15 16 1 := ev_in (List.mem_of_getElem? (i := 125) rfl) rfl
set_option maxRecDepth 100000 in
theorem fl_X1_19 : evFL RX1 19 16 2 := ev_in (List.mem_of_getElem? (i := 126) rfl) rfl
set_option maxRecDepth 100000 in
theorem fl_X2_11 : evFL RX2 11 6 0 := ev_in (List.mem_of_getElem? (i := 174) rfl) rfl
set_option maxRecDepth 100000 in
theorem fl_X2_17 : evFL RX2 17 6 1 := ev_in (List.mem_of_getElem? (i := 175) rfl) rfl
set_option maxRecDepth 100000 in
theorem fl_X2_20 : evFL RX2 20 6 2 := ev_in (List.mem_of_getElem? (i := 176) rfl) rfl
set_option maxRecDepth 100000 in
theorem fl_X2_24 : evFL RX2 24 6 3 := ev_in (List.mem_of_getElem? (i := 177) rfl) rfl
set_option maxRecDepth 100000 in
theorem fl_X2_27 : evFL RX2 27 6 4 := ev_in (List.mem_of_getElem? (i := 178) rfl) rfl
set_option maxRecDepth 100000 in
theorem fl_X2_30 : evFL RX2 30 6 5 := ev_in (List.mem_of_getElem? (i := 179) rfl) rfl
set_option maxRecDepth 100000 in
theorem fl_X2_33 : evFL RX2 33 6 6 := ev_in (List.mem_of_getElem? (i := 180) rfl) rfl
set_option maxRecDepth 100000 in
theorem fl_X2_36 : evFL RX2 36 6 7 := ev_in (List.mem_of_getElem? (i := 181) rfl) rfl
set_option maxRecDepth 100000 in
theorem fl_X2_39 : evFL RX2 39 6 8 := ev_in (List.mem_of_getElem? (i := 182) rfl) rfl
set_option maxRecDepth 100000 in
theorem fl_X2_42 : evFL RX2 42 6 9 := ev_in (List.mem_of_getElem? (i := 183) rfl) rfl
set_option maxRecDepth 100000 in
theorem fl_X2_45 : evFL RX2 45 6 10 := ev_in (List.mem_of_getElem? (i := 184) rfl) rfl
set_option maxRecDepth 100000 in
theorem fl_X2_48 : evFL RX2 48 6 11 := ev_in (List.mem_of_getElem? (i := 185) rfl) rfl
set_option maxRecDepth 100000 in
theorem fl_X2_51 : evFL RX2 51 6 12 := ev_in (List.mem_of_getElem? (i := 186) rfl) rfl
set_option maxRecDepth 100000 in
theorem fl_X2_54 : evFL RX2 54 6 13 := ev_in (List.mem_of_getElem? (i := 187) rfl) rfl
set_option maxRecDepth 100000 in
theorem fl_X3_9 : evFL RX3 9 3 0 := ev_in (List.mem_of_getElem? (i := 102) rfl) rfl
set_option maxRecDepth 100000 in
theorem fl_X3_13 : evFL RX3 13 3 1 := ev_in (List.mem_of_getElem? (i := 103) rfl) rfl
set_option maxRecDepth 100000 in
theorem fs_X3_19 : Cond.fieldLink RX3 19 RX3 "AT_FIRST" "[I" ∈ evtb := ev_in (List.mem_of_getElem? (i := 94) rfl) rfl
set_option maxRecDepth 100000 in
theorem fl_X4_9 : evFL RX4 9 18 0 := ev_in (List.mem_of_getElem? (i := 140) rfl) rfl
set_option maxRecDepth 100000 in
theorem fl_X4_13 : evFL RX4 13 18 1 := ev_in (List.mem_of_getElem? (i := 141) rfl) rfl
set_option maxRecDepth 100000 in
theorem fl_X4_17 : evFL RX4 17 18 2 := ev_in (List.mem_of_getElem? (i := 142) rfl) rfl
set_option maxRecDepth 100000 in
theorem fl_X4_20 : evFL RX4 20 18 3 := ev_in (List.mem_of_getElem? (i := 143) rfl) rfl
set_option maxRecDepth 100000 in
theorem fl_X4_23 : evFL RX4 23 18 4 := ev_in (List.mem_of_getElem? (i := 144) rfl) rfl
set_option maxRecDepth 100000 in
theorem fl_X4_26 : evFL RX4 26 18 5 := ev_in (List.mem_of_getElem? (i := 145) rfl) rfl
set_option maxRecDepth 100000 in
theorem fl_X4_29 : evFL RX4 29 18 6 := ev_in (List.mem_of_getElem? (i := 146) rfl) rfl
set_option maxRecDepth 100000 in
theorem fl_X4_33 : evFL RX4 33 18 7 := ev_in (List.mem_of_getElem? (i := 147) rfl) rfl
set_option maxRecDepth 100000 in
theorem fs_X4_79 : Cond.fieldLink RX4 79 RX4 "LEAST_OF_LEG" "[I" ∈ evtb := ev_in (List.mem_of_getElem? (i := 325) rfl) rfl
set_option maxRecDepth 100000 in
theorem fs_X4_82 : Cond.fieldLink RX4 82 RX4 "MOST_OF_LEG" "[I" ∈ evtb := ev_in (List.mem_of_getElem? (i := 331) rfl) rfl
set_option maxRecDepth 100000 in
theorem fl_X6_7 : evFL RX6 7 30 0 := ev_in (List.mem_of_getElem? (i := 651) rfl) rfl
set_option maxRecDepth 100000 in
theorem fl_X6_13 : evFL RX6 13 30 1 := ev_in (List.mem_of_getElem? (i := 652) rfl) rfl
set_option maxRecDepth 100000 in
theorem fl_X6_16 : evFL RX6 16 30 3 := ev_in (List.mem_of_getElem? (i := 654) rfl) rfl
set_option maxRecDepth 100000 in
theorem fl_X6_19 : evFL RX6 19 30 4 := ev_in (List.mem_of_getElem? (i := 655) rfl) rfl
set_option maxRecDepth 100000 in
theorem fl_X6_23 : evFL RX6 23 30 5 := ev_in (List.mem_of_getElem? (i := 656) rfl) rfl
set_option maxRecDepth 100000 in
theorem fl_X6_26 : evFL RX6 26 30 7 := ev_in (List.mem_of_getElem? (i := 658) rfl) rfl
set_option maxRecDepth 100000 in
theorem fl_X6_29 : evFL RX6 29 30 9 := ev_in (List.mem_of_getElem? (i := 660) rfl) rfl
set_option maxRecDepth 100000 in
theorem fl_X6_32 : evFL RX6 32 30 18 := ev_in (List.mem_of_getElem? (i := 669) rfl) rfl
set_option maxRecDepth 100000 in
theorem fl_X6_35 : evFL RX6 35 30 19 := ev_in (List.mem_of_getElem? (i := 670) rfl) rfl
set_option maxRecDepth 100000 in
theorem fl_X6_38 : evFL RX6 38 30 20 := ev_in (List.mem_of_getElem? (i := 671) rfl) rfl
set_option maxRecDepth 100000 in
theorem fl_X6_41 : evFL RX6 41 30 21 := ev_in (List.mem_of_getElem? (i := 672) rfl) rfl
set_option maxRecDepth 100000 in
theorem fl_X6_44 : evFL RX6 44 30 22 := ev_in (List.mem_of_getElem? (i := 673) rfl) rfl
set_option maxRecDepth 100000 in
theorem fl_X6_47 : evFL RX6 47 30 23 := ev_in (List.mem_of_getElem? (i := 674) rfl) rfl
set_option maxRecDepth 100000 in
theorem fl_X6_51 : evFL RX6 51 30 24 := ev_in (List.mem_of_getElem? (i := 675) rfl) rfl
set_option maxRecDepth 100000 in
theorem fl_X6_58 : evFL RX6 58 30 2 := ev_in (List.mem_of_getElem? (i := 653) rfl) rfl
set_option maxRecDepth 100000 in
theorem fl_X6_73 : evFL RX6 73 30 6 := ev_in (List.mem_of_getElem? (i := 657) rfl) rfl
set_option maxRecDepth 100000 in
theorem fl_X6_76 : evFL RX6 76 30 10 := ev_in (List.mem_of_getElem? (i := 661) rfl) rfl
set_option maxRecDepth 100000 in
theorem fl_X6_79 : evFL RX6 79 30 11 := ev_in (List.mem_of_getElem? (i := 662) rfl) rfl
set_option maxRecDepth 100000 in
theorem fl_X6_85 : evFL RX6 85 30 12 := ev_in (List.mem_of_getElem? (i := 663) rfl) rfl
set_option maxRecDepth 100000 in
theorem fl_X6_99 : evFL RX6 99 30 13 := ev_in (List.mem_of_getElem? (i := 664) rfl) rfl
set_option maxRecDepth 100000 in
theorem fl_X6_103 : evFL RX6 103 30 14 := ev_in (List.mem_of_getElem? (i := 665) rfl) rfl
set_option maxRecDepth 100000 in
theorem fl_X6_126 : evFL RX6 126 30 15 := ev_in (List.mem_of_getElem? (i := 666) rfl) rfl
set_option maxRecDepth 100000 in
theorem fl_X6_129 : evFL RX6 129 30 16 := ev_in (List.mem_of_getElem? (i := 667) rfl) rfl
set_option maxRecDepth 100000 in
theorem fl_X6_132 : evFL RX6 132 30 17 := ev_in (List.mem_of_getElem? (i := 668) rfl) rfl
set_option maxRecDepth 100000 in
theorem fl_X6_211 : evFL RX6 211 30 8 := ev_in (List.mem_of_getElem? (i := 659) rfl) rfl
set_option maxRecDepth 100000 in
theorem ml_X5_9 : evML RX5 9 yX0_init := ev_in (List.mem_of_getElem? (i := 79) rfl) rfl
set_option maxRecDepth 100000 in
theorem ml_X5_18 : evML RX5 18 yX1_init := ev_in (List.mem_of_getElem? (i := 117) rfl) rfl
set_option maxRecDepth 100000 in
theorem ml_X5_40 : evML RX5 40 yX3_init := ev_in (List.mem_of_getElem? (i := 167) rfl) rfl
set_option maxRecDepth 100000 in
theorem ml_X5_70 : evML RX5 70 yX4_takesLetter := ev_in (List.mem_of_getElem? (i := 259) rfl) rfl
set_option maxRecDepth 100000 in
theorem ml_X5_74 : evML RX5 74 yX4_length := ev_in (List.mem_of_getElem? (i := 263) rfl) rfl
set_option maxRecDepth 100000 in
theorem ml_X5_78 : evML RX5 78 yX4_becomeEmpty := ev_in (List.mem_of_getElem? (i := 271) rfl) rfl
set_option maxRecDepth 100000 in
theorem ml_X5_81 : evML RX5 81 yX5_isNoShip := ev_in (List.mem_of_getElem? (i := 279) rfl) rfl
set_option maxRecDepth 100000 in
theorem ml_X5_84 : evML RX5 84 yX4_tellShip := ev_in (List.mem_of_getElem? (i := 282) rfl) rfl
set_option maxRecDepth 100000 in
theorem ml_X5_88 : evML RX5 88 yX1_remember := ev_in (List.mem_of_getElem? (i := 348) rfl) rfl
set_option maxRecDepth 100000 in
theorem ml_X5_96 : evML RX5 96 yX3_becomeLike := ev_in (List.mem_of_getElem? (i := 361) rfl) rfl
set_option maxRecDepth 100000 in
theorem ml_X5_100 : evML RX5 100 yX5_drawnPlan := ev_in (List.mem_of_getElem? (i := 366) rfl) rfl
set_option maxRecDepth 100000 in
theorem ml_X5_104 : evML RX5 104 yX2_stands := ev_in (List.mem_of_getElem? (i := 414) rfl) rfl
set_option maxRecDepth 100000 in
theorem ml_X5_108 : evML RX5 108 yX3_trait := ev_in (List.mem_of_getElem? (i := 418) rfl) rfl
set_option maxRecDepth 100000 in
theorem ml_X5_112 : evML RX5 112 yX2_hourRoundedUp := ev_in (List.mem_of_getElem? (i := 419) rfl) rfl
set_option maxRecDepth 100000 in
theorem ml_X5_115 : evML RX5 115 yX3_ofLeg := ev_in (List.mem_of_getElem? (i := 442) rfl) rfl
set_option maxRecDepth 100000 in
theorem ml_X5_119 : evML RX5 119 yX2_burntOnLeg := ev_in (List.mem_of_getElem? (i := 443) rfl) rfl
set_option maxRecDepth 100000 in
theorem ml_X5_122 : evML RX5 122 yX3_setTrait := ev_in (List.mem_of_getElem? (i := 460) rfl) rfl
set_option maxRecDepth 100000 in
theorem ml_X5_126 : evML RX5 126 yX3_isPortAhead := ev_in (List.mem_of_getElem? (i := 469) rfl) rfl
set_option maxRecDepth 100000 in
theorem ml_X5_129 : evML RX5 129 yX3_setOfLeg := ev_in (List.mem_of_getElem? (i := 473) rfl) rfl
set_option maxRecDepth 100000 in
theorem ml_X5_133 : evML RX5 133 yX1_known := ev_in (List.mem_of_getElem? (i := 482) rfl) rfl
set_option maxRecDepth 100000 in
theorem ml_X5_136 : evML RX5 136 yX1_restore := ev_in (List.mem_of_getElem? (i := 486) rfl) rfl
set_option maxRecDepth 100000 in
theorem ml_X5_139 : evML RX5 139 yX2_stretchCount := ev_in (List.mem_of_getElem? (i := 502) rfl) rfl
set_option maxRecDepth 100000 in
theorem ml_X5_142 : evML RX5 142 yX2_burntInAll := ev_in (List.mem_of_getElem? (i := 506) rfl) rfl
set_option maxRecDepth 100000 in
theorem ml_X5_147 : evML RX5 147 yX2_hourUpper := ev_in (List.mem_of_getElem? (i := 517) rfl) rfl
set_option maxRecDepth 100000 in
theorem ml_X5_150 : evML RX5 150 yX2_hourLower := ev_in (List.mem_of_getElem? (i := 518) rfl) rfl
set_option maxRecDepth 100000 in
theorem ml_X5_153 : evML RX5 153 yX5_partOf := ev_in (List.mem_of_getElem? (i := 519) rfl) rfl
set_option maxRecDepth 100000 in
theorem ml_X5_157 : evML RX5 157 yX3_isLegAhead := ev_in (List.mem_of_getElem? (i := 530) rfl) rfl
set_option maxRecDepth 100000 in
theorem ml_X5_160 : evML RX5 160 yX2_milesAround := ev_in (List.mem_of_getElem? (i := 534) rfl) rfl
set_option maxRecDepth 100000 in
theorem ml_X5_163 : evML RX5 163 yX2_hoursAround := ev_in (List.mem_of_getElem? (i := 535) rfl) rfl
set_option maxRecDepth 100000 in
theorem ml_X5_166 : evML RX5 166 yX2_meetingAt := ev_in (List.mem_of_getElem? (i := 540) rfl) rfl
set_option maxRecDepth 100000 in
theorem ml_X5_169 : evML RX5 169 yX2_draw := ev_in (List.mem_of_getElem? (i := 370) rfl) rfl
set_option maxRecDepth 100000 in
theorem ml_X5_172 : evML RX5 172 yX2_neededSpeed := ev_in (List.mem_of_getElem? (i := 556) rfl) rfl
set_option maxRecDepth 100000 in
theorem ml_X5_175 : evML RX5 175 yX5_drawEased := ev_in (List.mem_of_getElem? (i := 564) rfl) rfl
set_option maxRecDepth 100000 in
theorem ml_X5_179 : evML RX5 179 yX2_mileAt := ev_in (List.mem_of_getElem? (i := 572) rfl) rfl
set_option maxRecDepth 100000 in
theorem ml_X5_182 : evML RX5 182 yX5_drawAllPlans := ev_in (List.mem_of_getElem? (i := 593) rfl) rfl
set_option maxRecDepth 100000 in
theorem ml_X5_185 : evML RX5 185 yX5_suspects := ev_in (List.mem_of_getElem? (i := 597) rfl) rfl
set_option maxRecDepth 100000 in
theorem ml_X5_188 : evML RX5 188 yJ6_bitCount_0f7a4 := ev_in (List.mem_of_getElem? (i := 609) rfl) rfl
set_option maxRecDepth 100000 in
theorem ml_X5_193 : evML RX5 193 yX5_mostAlike := ev_in (List.mem_of_getElem? (i := 615) rfl) rfl
set_option maxRecDepth 100000 in
theorem ml_X5_196 : evML RX5 196 yX0_becomeLike := ev_in (List.mem_of_getElem? (i := 624) rfl) rfl
set_option maxRecDepth 100000 in
theorem ml_X5_198 : evML RX5 198 yX0_legsInAll := ev_in (List.mem_of_getElem? (i := 625) rfl) rfl
set_option maxRecDepth 100000 in
theorem ml_X5_201 : evML RX5 201 yX1_lose := ev_in (List.mem_of_getElem? (i := 634) rfl) rfl
set_option maxRecDepth 100000 in
theorem ml_X5_204 : evML RX5 204 yX5_agrees := ev_in (List.mem_of_getElem? (i := 601) rfl) rfl
set_option maxRecDepth 100000 in
theorem ml_X5_208 : evML RX5 208 yJ9_max_7cf53 := ev_in (List.mem_of_getElem? (i := 619) rfl) rfl
set_option maxRecDepth 100000 in
theorem ml_X5_213 : evML RX5 213 yX5_commonMeasure := ev_in (List.mem_of_getElem? (i := 522) rfl) rfl
set_option maxRecDepth 100000 in
theorem ml_X5_216 : evML RX5 216 yJ9_abs_0f7a4 := ev_in (List.mem_of_getElem? (i := 525) rfl) rfl
set_option maxRecDepth 100000 in
theorem ml_X0_17 : evML RX0 17 yX3_init := ev_in (List.mem_of_getElem? (i := 86) rfl) rfl
set_option maxRecDepth 100000 in
theorem ml_X0_18 : evML RX0 18 yX3_becomeLike := ev_in (List.mem_of_getElem? (i := 356) rfl) rfl
set_option maxRecDepth 100000 in
theorem ml_X0_22 : evML RX0 22 yX3_trait := ev_in (List.mem_of_getElem? (i := 629) rfl) rfl
set_option maxRecDepth 100000 in
theorem ml_X1_22 : evML RX1 22 yX0_init := ev_in (List.mem_of_getElem? (i := 123) rfl) rfl
set_option maxRecDepth 100000 in
theorem ml_X1_23 : evML RX1 23 yX0_becomeLike := ev_in (List.mem_of_getElem? (i := 352) rfl) rfl
set_option maxRecDepth 100000 in
theorem ml_X1_27 : evML RX1 27 yJ9_min_7cf53 := ev_in (List.mem_of_getElem? (i := 360) rfl) rfl
set_option maxRecDepth 100000 in
theorem ml_X2_57 : evML RX2 57 yX3_trait := ev_in (List.mem_of_getElem? (i := 374) rfl) rfl
set_option maxRecDepth 100000 in
theorem ml_X2_61 : evML RX2 61 yJ9_max_7cf53 := ev_in (List.mem_of_getElem? (i := 375) rfl) rfl
set_option maxRecDepth 100000 in
theorem ml_X2_67 : evML RX2 67 yJ9_min_7cf53 := ev_in (List.mem_of_getElem? (i := 378) rfl) rfl
set_option maxRecDepth 100000 in
theorem ml_X2_70 : evML RX2 70 yX2_layPorts := ev_in (List.mem_of_getElem? (i := 379) rfl) rfl
set_option maxRecDepth 100000 in
theorem ml_X2_74 : evML RX2 74 yX2_splitStretches := ev_in (List.mem_of_getElem? (i := 387) rfl) rfl
set_option maxRecDepth 100000 in
theorem ml_X2_77 : evML RX2 77 yX2_measureStretches := ev_in (List.mem_of_getElem? (i := 410) rfl) rfl
set_option maxRecDepth 100000 in
theorem ml_X2_80 : evML RX2 80 yX2_isNoLeg := ev_in (List.mem_of_getElem? (i := 431) rfl) rfl
set_option maxRecDepth 100000 in
theorem ml_X2_84 : evML RX2 84 yX2_evenHour := ev_in (List.mem_of_getElem? (i := 403) rfl) rfl
set_option maxRecDepth 100000 in
theorem ml_X2_88 : evML RX2 88 yX2_milesAround := ev_in (List.mem_of_getElem? (i := 427) rfl) rfl
set_option maxRecDepth 100000 in
theorem ml_X2_91 : evML RX2 91 yX2_hourLower := ev_in (List.mem_of_getElem? (i := 423) rfl) rfl
set_option maxRecDepth 100000 in
theorem ml_X2_94 : evML RX2 94 yX2_hourUpper := ev_in (List.mem_of_getElem? (i := 435) rfl) rfl
set_option maxRecDepth 100000 in
theorem ml_X2_97 : evML RX2 97 yJ9_floorDiv_7cf53 := ev_in (List.mem_of_getElem? (i := 439) rfl) rfl
set_option maxRecDepth 100000 in
theorem ml_X2_100 : evML RX2 100 yX2_hoursAround := ev_in (List.mem_of_getElem? (i := 447) rfl) rfl
set_option maxRecDepth 100000 in
theorem ml_X2_107 : evML RX2 107 yJ9_min_f86c9 := ev_in (List.mem_of_getElem? (i := 453) rfl) rfl
set_option maxRecDepth 100000 in
theorem ml_X2_110 : evML RX2 110 yX2_milesOfLeg := ev_in (List.mem_of_getElem? (i := 456) rfl) rfl
set_option maxRecDepth 100000 in
theorem ml_X2_113 : evML RX2 113 yX2_burntOnLeg := ev_in (List.mem_of_getElem? (i := 510) rfl) rfl
set_option maxRecDepth 100000 in
theorem ml_X2_116 : evML RX2 116 yX2_stands := ev_in (List.mem_of_getElem? (i := 576) rfl) rfl
set_option maxRecDepth 100000 in
theorem ml_X2_120 : evML RX2 120 yX2_sailedOnLeg := ev_in (List.mem_of_getElem? (i := 577) rfl) rfl
set_option maxRecDepth 100000 in
theorem ml_X2_123 : evML RX2 123 yX3_ofLeg := ev_in (List.mem_of_getElem? (i := 383) rfl) rfl
set_option maxRecDepth 100000 in
theorem ml_X2_126 : evML RX2 126 yX2_nextEnd := ev_in (List.mem_of_getElem? (i := 391) rfl) rfl
set_option maxRecDepth 100000 in
theorem ml_X2_129 : evML RX2 129 yX2_mostMissed := ev_in (List.mem_of_getElem? (i := 395) rfl) rfl
set_option maxRecDepth 100000 in
theorem ml_X2_132 : evML RX2 132 yX2_missAt := ev_in (List.mem_of_getElem? (i := 399) rfl) rfl
set_option maxRecDepth 100000 in
theorem ml_X2_135 : evML RX2 135 yJ9_abs_0f7a4 := ev_in (List.mem_of_getElem? (i := 407) rfl) rfl
set_option maxRecDepth 100000 in
theorem ml_X3_16 : evML RX3 16 yX3_becomeNew := ev_in (List.mem_of_getElem? (i := 90) rfl) rfl
set_option maxRecDepth 100000 in
theorem ac_X3_22 : evAC RX3 22 := ev_in (List.mem_of_getElem? (i := 96) rfl) rfl
set_option maxRecDepth 100000 in
theorem ml_X3_28 : evML RX3 28 yJ7_fill_53178 := ev_in (List.mem_of_getElem? (i := 99) rfl) rfl
set_option maxRecDepth 100000 in
theorem ml_X3_34 : evML RX3 34 yX3_placeOf := ev_in (List.mem_of_getElem? (i := 341) rfl) rfl
set_option maxRecDepth 100000 in
theorem ml_X4_36 : evML RX4 36 yX3_becomeNew := ev_in (List.mem_of_getElem? (i := 286) rfl) rfl
set_option maxRecDepth 100000 in
theorem ml_X4_41 : evML RX4 41 yX4_takesToken := ev_in (List.mem_of_getElem? (i := 287) rfl) rfl
set_option maxRecDepth 100000 in
theorem ml_X4_45 : evML RX4 45 yX4_tokenEnd := ev_in (List.mem_of_getElem? (i := 310) rfl) rfl
set_option maxRecDepth 100000 in
theorem ml_X4_49 : evML RX4 49 yX4_beginsItem := ev_in (List.mem_of_getElem? (i := 291) rfl) rfl
set_option maxRecDepth 100000 in
theorem ml_X4_52 : evML RX4 52 yX4_numbersOfItem := ev_in (List.mem_of_getElem? (i := 299) rfl) rfl
set_option maxRecDepth 100000 in
theorem ml_X4_56 : evML RX4 56 yX4_isFigure := ev_in (List.mem_of_getElem? (i := 303) rfl) rfl
set_option maxRecDepth 100000 in
theorem ml_X4_60 : evML RX4 60 yX4_numberAt := ev_in (List.mem_of_getElem? (i := 306) rfl) rfl
set_option maxRecDepth 100000 in
theorem ml_X4_63 : evML RX4 63 yX4_takesNumber := ev_in (List.mem_of_getElem? (i := 317) rfl) rfl
set_option maxRecDepth 100000 in
theorem ml_X4_66 : evML RX4 66 yX4_endItem := ev_in (List.mem_of_getElem? (i := 333) rfl) rfl
set_option maxRecDepth 100000 in
theorem ml_X4_70 : evML RX4 70 yX3_trait := ev_in (List.mem_of_getElem? (i := 295) rfl) rfl
set_option maxRecDepth 100000 in
theorem ml_X4_73 : evML RX4 73 yX4_least := ev_in (List.mem_of_getElem? (i := 321) rfl) rfl
set_option maxRecDepth 100000 in
theorem ml_X4_76 : evML RX4 76 yX4_greatest := ev_in (List.mem_of_getElem? (i := 327) rfl) rfl
set_option maxRecDepth 100000 in
theorem ml_X4_85 : evML RX4 85 yX3_setOfLeg := ev_in (List.mem_of_getElem? (i := 337) rfl) rfl
set_option maxRecDepth 100000 in
theorem ml_X4_89 : evML RX4 89 yX3_setTrait := ev_in (List.mem_of_getElem? (i := 344) rfl) rfl
set_option maxRecDepth 100000 in
theorem ml_X4_93 : evML RX4 93 yJ9_min_7cf53 := ev_in (List.mem_of_getElem? (i := 314) rfl) rfl
set_option maxRecDepth 100000 in
theorem ml_L_9 : evML RL 9 yX5_init := ev_in (List.mem_of_getElem? (i := 71) rfl) rfl
set_option maxRecDepth 100000 in
theorem ml_L_12 : evML RL 12 yX6_init := ev_in (List.mem_of_getElem? (i := 644) rfl) rfl
set_option maxRecDepth 100000 in
theorem ml_L_13 : evML RL 13 yX5_type := ev_in (List.mem_of_getElem? (i := 255) rfl) rfl
set_option maxRecDepth 100000 in
theorem ml_L_17 : evML RL 17 yX6_type := ev_in (List.mem_of_getElem? (i := 732) rfl) rfl
set_option maxRecDepth 100000 in
theorem ml_L_18 : evML RL 18 yX5_clear := ev_in (List.mem_of_getElem? (i := 267) rfl) rfl
set_option maxRecDepth 100000 in
theorem ml_L_22 : evML RL 22 yX6_clear := ev_in (List.mem_of_getElem? (i := 739) rfl) rfl
set_option maxRecDepth 100000 in
theorem ml_L_23 : evML RL 23 yX5_tells := ev_in (List.mem_of_getElem? (i := 275) rfl) rfl
set_option maxRecDepth 100000 in
theorem ml_L_26 : evML RL 26 yX6_tells := ev_in (List.mem_of_getElem? (i := 743) rfl) rfl
set_option maxRecDepth 100000 in
theorem ml_L_27 : evML RL 27 yX5_sails := ev_in (List.mem_of_getElem? (i := 362) rfl) rfl
set_option maxRecDepth 100000 in
theorem ml_L_30 : evML RL 30 yX6_sails := ev_in (List.mem_of_getElem? (i := 789) rfl) rfl
set_option maxRecDepth 100000 in
theorem ml_L_31 : evML RL 31 yX5_holds := ev_in (List.mem_of_getElem? (i := 461) rfl) rfl
set_option maxRecDepth 100000 in
theorem ml_L_35 : evML RL 35 yX6_holds := ev_in (List.mem_of_getElem? (i := 855) rfl) rfl
set_option maxRecDepth 100000 in
theorem ml_L_36 : evML RL 36 yX5_moves := ev_in (List.mem_of_getElem? (i := 465) rfl) rfl
set_option maxRecDepth 100000 in
theorem ml_L_40 : evML RL 40 yX6_moves := ev_in (List.mem_of_getElem? (i := 859) rfl) rfl
set_option maxRecDepth 100000 in
theorem ml_L_41 : evML RL 41 yX5_fastens := ev_in (List.mem_of_getElem? (i := 474) rfl) rfl
set_option maxRecDepth 100000 in
theorem ml_L_44 : evML RL 44 yX6_fastens := ev_in (List.mem_of_getElem? (i := 867) rfl) rfl
set_option maxRecDepth 100000 in
theorem ml_L_45 : evML RL 45 yX5_undo := ev_in (List.mem_of_getElem? (i := 478) rfl) rfl
set_option maxRecDepth 100000 in
theorem ml_L_48 : evML RL 48 yX6_undo := ev_in (List.mem_of_getElem? (i := 728) rfl) rfl
set_option maxRecDepth 100000 in
theorem ml_L_49 : evML RL 49 yX5_ship := ev_in (List.mem_of_getElem? (i := 490) rfl) rfl
set_option maxRecDepth 100000 in
theorem ml_L_52 : evML RL 52 yX6_ship := ev_in (List.mem_of_getElem? (i := 871) rfl) rfl
set_option maxRecDepth 100000 in
theorem ml_L_53 : evML RL 53 yX5_leg := ev_in (List.mem_of_getElem? (i := 494) rfl) rfl
set_option maxRecDepth 100000 in
theorem ml_L_57 : evML RL 57 yX6_leg := ev_in (List.mem_of_getElem? (i := 875) rfl) rfl
set_option maxRecDepth 100000 in
theorem ml_L_58 : evML RL 58 yX5_plan := ev_in (List.mem_of_getElem? (i := 498) rfl) rfl
set_option maxRecDepth 100000 in
theorem ml_L_61 : evML RL 61 yX6_plan := ev_in (List.mem_of_getElem? (i := 879) rfl) rfl
set_option maxRecDepth 100000 in
theorem ml_L_62 : evML RL 62 yX5_time := ev_in (List.mem_of_getElem? (i := 511) rfl) rfl
set_option maxRecDepth 100000 in
theorem ml_L_65 : evML RL 65 yX6_time := ev_in (List.mem_of_getElem? (i := 891) rfl) rfl
set_option maxRecDepth 100000 in
theorem ml_L_66 : evML RL 66 yX5_speed := ev_in (List.mem_of_getElem? (i := 526) rfl) rfl
set_option maxRecDepth 100000 in
theorem ml_L_69 : evML RL 69 yX6_speed := ev_in (List.mem_of_getElem? (i := 903) rfl) rfl
set_option maxRecDepth 100000 in
theorem ml_L_70 : evML RL 70 yX5_closed := ev_in (List.mem_of_getElem? (i := 536) rfl) rfl
set_option maxRecDepth 100000 in
theorem ml_L_73 : evML RL 73 yX6_closed := ev_in (List.mem_of_getElem? (i := 907) rfl) rfl
set_option maxRecDepth 100000 in
theorem ml_L_74 : evML RL 74 yX5_cost := ev_in (List.mem_of_getElem? (i := 544) rfl) rfl
set_option maxRecDepth 100000 in
theorem ml_L_77 : evML RL 77 yX6_cost := ev_in (List.mem_of_getElem? (i := 911) rfl) rfl
set_option maxRecDepth 100000 in
theorem ml_L_78 : evML RL 78 yX5_slack := ev_in (List.mem_of_getElem? (i := 548) rfl) rfl
set_option maxRecDepth 100000 in
theorem ml_L_81 : evML RL 81 yX6_slack := ev_in (List.mem_of_getElem? (i := 915) rfl) rfl
set_option maxRecDepth 100000 in
theorem ml_L_82 : evML RL 82 yX5_needs := ev_in (List.mem_of_getElem? (i := 552) rfl) rfl
set_option maxRecDepth 100000 in
theorem ml_L_85 : evML RL 85 yX6_needs := ev_in (List.mem_of_getElem? (i := 919) rfl) rfl
set_option maxRecDepth 100000 in
theorem ml_L_86 : evML RL 86 yX5_eased := ev_in (List.mem_of_getElem? (i := 560) rfl) rfl
set_option maxRecDepth 100000 in
theorem ml_L_89 : evML RL 89 yX6_eased := ev_in (List.mem_of_getElem? (i := 923) rfl) rfl
set_option maxRecDepth 100000 in
theorem ml_L_90 : evML RL 90 yX5_mile := ev_in (List.mem_of_getElem? (i := 568) rfl) rfl
set_option maxRecDepth 100000 in
theorem ml_L_93 : evML RL 93 yX6_mile := ev_in (List.mem_of_getElem? (i := 927) rfl) rfl
set_option maxRecDepth 100000 in
theorem ml_L_94 : evML RL 94 yX5_sees := ev_in (List.mem_of_getElem? (i := 581) rfl) rfl
set_option maxRecDepth 100000 in
theorem ml_L_97 : evML RL 97 yX6_sees := ev_in (List.mem_of_getElem? (i := 939) rfl) rfl
set_option maxRecDepth 100000 in
theorem ml_L_98 : evML RL 98 yX5_forget := ev_in (List.mem_of_getElem? (i := 585) rfl) rfl
set_option maxRecDepth 100000 in
theorem ml_L_101 : evML RL 101 yX6_forget := ev_in (List.mem_of_getElem? (i := 943) rfl) rfl
set_option maxRecDepth 100000 in
theorem ml_L_102 : evML RL 102 yX5_which := ev_in (List.mem_of_getElem? (i := 589) rfl) rfl
set_option maxRecDepth 100000 in
theorem ml_L_105 : evML RL 105 yX6_which := ev_in (List.mem_of_getElem? (i := 947) rfl) rfl
set_option maxRecDepth 100000 in
theorem ml_L_106 : evML RL 106 yX5_look := ev_in (List.mem_of_getElem? (i := 605) rfl) rfl
set_option maxRecDepth 100000 in
theorem ml_L_109 : evML RL 109 yX6_look := ev_in (List.mem_of_getElem? (i := 955) rfl) rfl
set_option maxRecDepth 100000 in
theorem ml_L_110 : evML RL 110 yX5_keep := ev_in (List.mem_of_getElem? (i := 620) rfl) rfl
set_option maxRecDepth 100000 in
theorem ml_L_113 : evML RL 113 yX6_keep := ev_in (List.mem_of_getElem? (i := 963) rfl) rfl
set_option maxRecDepth 100000 in
theorem ml_L_114 : evML RL 114 yX5_back := ev_in (List.mem_of_getElem? (i := 630) rfl) rfl
set_option maxRecDepth 100000 in
theorem ml_L_117 : evML RL 117 yX6_back := ev_in (List.mem_of_getElem? (i := 971) rfl) rfl
set_option maxRecDepth 100000 in
theorem ml_L_118 : evML RL 118 yX5_count := ev_in (List.mem_of_getElem? (i := 638) rfl) rfl
set_option maxRecDepth 100000 in
theorem ml_L_121 : evML RL 121 yX6_count := ev_in (List.mem_of_getElem? (i := 975) rfl) rfl
set_option maxRecDepth 100000 in
theorem ml_X6_54 : evML RX6 54 yX6_begins := ev_in (List.mem_of_getElem? (i := 648) rfl) rfl
set_option maxRecDepth 100000 in
theorem ml_X6_62 : evML RX6 62 yX6_in := ev_in (List.mem_of_getElem? (i := 736) rfl) rfl
set_option maxRecDepth 100000 in
theorem ml_X6_66 : evML RX6 66 yX6_legPlace := ev_in (List.mem_of_getElem? (i := 762) rfl) rfl
set_option maxRecDepth 100000 in
theorem ml_X6_70 : evML RX6 70 yX6_of := ev_in (List.mem_of_getElem? (i := 801) rfl) rfl
set_option maxRecDepth 100000 in
theorem ml_X6_82 : evML RX6 82 yX6_blanks := ev_in (List.mem_of_getElem? (i := 754) rfl) rfl
set_option maxRecDepth 100000 in
theorem ml_X6_88 : evML RX6 88 yX6_isAt := ev_in (List.mem_of_getElem? (i := 769) rfl) rfl
set_option maxRecDepth 100000 in
theorem ml_X6_92 : evML RX6 92 yX6_takesNumber := ev_in (List.mem_of_getElem? (i := 765) rfl) rfl
set_option maxRecDepth 100000 in
theorem ml_X6_95 : evML RX6 95 yX6_takesStop := ev_in (List.mem_of_getElem? (i := 773) rfl) rfl
set_option maxRecDepth 100000 in
theorem ml_X6_106 : evML RX6 106 yX6_takesLeg := ev_in (List.mem_of_getElem? (i := 758) rfl) rfl
set_option maxRecDepth 100000 in
theorem ml_X6_109 : evML RX6 109 yX6_takesFastest := ev_in (List.mem_of_getElem? (i := 777) rfl) rfl
set_option maxRecDepth 100000 in
theorem ml_X6_112 : evML RX6 112 yX6_takesTable := ev_in (List.mem_of_getElem? (i := 781) rfl) rfl
set_option maxRecDepth 100000 in
theorem ml_X6_115 : evML RX6 115 yX6_isShip := ev_in (List.mem_of_getElem? (i := 747) rfl) rfl
set_option maxRecDepth 100000 in
theorem ml_X6_119 : evML RX6 119 yX6_reads := ev_in (List.mem_of_getElem? (i := 750) rfl) rfl
set_option maxRecDepth 100000 in
theorem ml_X6_123 : evML RX6 123 yX6_remembers := ev_in (List.mem_of_getElem? (i := 785) rfl) rfl
set_option maxRecDepth 100000 in
theorem ml_X6_135 : evML RX6 135 yX6_ofLeg := ev_in (List.mem_of_getElem? (i := 805) rfl) rfl
set_option maxRecDepth 100000 in
theorem ml_X6_139 : evML RX6 139 yX6_marksAll := ev_in (List.mem_of_getElem? (i := 809) rfl) rfl
set_option maxRecDepth 100000 in
theorem ml_X6_142 : evML RX6 142 yX6_evenTimes := ev_in (List.mem_of_getElem? (i := 825) rfl) rfl
set_option maxRecDepth 100000 in
theorem ml_X6_146 : evML RX6 146 yX6_missedTimes := ev_in (List.mem_of_getElem? (i := 821) rfl) rfl
set_option maxRecDepth 100000 in
theorem ml_X6_149 : evML RX6 149 yX6_markBehind := ev_in (List.mem_of_getElem? (i := 813) rfl) rfl
set_option maxRecDepth 100000 in
theorem ml_X6_153 : evML RX6 153 yX6_marksOne := ev_in (List.mem_of_getElem? (i := 817) rfl) rfl
set_option maxRecDepth 100000 in
theorem ml_X6_156 : evML RX6 156 yX6_fastNeeded := ev_in (List.mem_of_getElem? (i := 833) rfl) rfl
set_option maxRecDepth 100000 in
theorem ml_X6_159 : evML RX6 159 yX6_lays := ev_in (List.mem_of_getElem? (i := 797) rfl) rfl
set_option maxRecDepth 100000 in
theorem ml_X6_163 : evML RX6 163 yX6_hasPlan := ev_in (List.mem_of_getElem? (i := 829) rfl) rfl
set_option maxRecDepth 100000 in
theorem ml_X6_166 : evML RX6 166 yX6_common := ev_in (List.mem_of_getElem? (i := 899) rfl) rfl
set_option maxRecDepth 100000 in
theorem ml_X6_170 : evML RX6 170 yX6_markAhead := ev_in (List.mem_of_getElem? (i := 841) rfl) rfl
set_option maxRecDepth 100000 in
theorem ml_X6_177 : evML RX6 177 yX6_costOf := ev_in (List.mem_of_getElem? (i := 849) rfl) rfl
set_option maxRecDepth 100000 in
theorem ml_X6_180 : evML RX6 180 yX6_plans := ev_in (List.mem_of_getElem? (i := 793) rfl) rfl
set_option maxRecDepth 100000 in
theorem ml_X6_183 : evML RX6 183 yX6_milesAt := ev_in (List.mem_of_getElem? (i := 837) rfl) rfl
set_option maxRecDepth 100000 in
theorem ml_X6_187 : evML RX6 187 yX6_timeTimes := ev_in (List.mem_of_getElem? (i := 845) rfl) rfl
set_option maxRecDepth 100000 in
theorem ml_X6_190 : evML RX6 190 yX6_isAhead := ev_in (List.mem_of_getElem? (i := 863) rfl) rfl
set_option maxRecDepth 100000 in
theorem ml_X6_193 : evML RX6 193 yX6_stretches := ev_in (List.mem_of_getElem? (i := 883) rfl) rfl
set_option maxRecDepth 100000 in
theorem ml_X6_196 : evML RX6 196 yX6_costsAhead := ev_in (List.mem_of_getElem? (i := 887) rfl) rfl
set_option maxRecDepth 100000 in
theorem ml_X6_200 : evML RX6 200 yX6_lowest := ev_in (List.mem_of_getElem? (i := 896) rfl) rfl
set_option maxRecDepth 100000 in
theorem ml_X6_205 : evML RX6 205 yX6_mileAt := ev_in (List.mem_of_getElem? (i := 935) rfl) rfl
set_option maxRecDepth 100000 in
theorem ml_X6_208 : evML RX6 208 yX6_mileOf := ev_in (List.mem_of_getElem? (i := 931) rfl) rfl
set_option maxRecDepth 100000 in
theorem ml_X6_214 : evML RX6 214 yX6_whichNow := ev_in (List.mem_of_getElem? (i := 951) rfl) rfl
set_option maxRecDepth 100000 in
theorem ml_X6_217 : evML RX6 217 yX6_alikeAt := ev_in (List.mem_of_getElem? (i := 959) rfl) rfl
set_option maxRecDepth 100000 in
theorem ml_X6_220 : evML RX6 220 yX6_legsOfAll := ev_in (List.mem_of_getElem? (i := 967) rfl) rfl
set_option maxRecDepth 100000 in
theorem kc_X5_145 : Cond.constant RX5 145 (-1000000) ∈ evtb := ev_in (List.mem_of_getElem? (i := 515) rfl) rfl
set_option maxRecDepth 100000 in
theorem kc_X5_146 : Cond.constant RX5 146 (-2000000) ∈ evtb := ev_in (List.mem_of_getElem? (i := 516) rfl) rfl
set_option maxRecDepth 100000 in
theorem kc_X6_199 : Cond.constant RX6 199 (-1000000) ∈ evtb := ev_in (List.mem_of_getElem? (i := 895) rfl) rfl
set_option maxRecDepth 100000 in
theorem kc_X6_204 : Cond.constant RX6 204 (-2000000) ∈ evtb := ev_in (List.mem_of_getElem? (i := 902) rfl) rfl
set_option maxRecDepth 100000 in
theorem kc_J6_265 : Cond.constant RJ6 265 (1431655765) ∈ evtb := ev_in (List.mem_of_getElem? (i := 612) rfl) rfl
set_option maxRecDepth 100000 in
theorem kc_J6_266 : Cond.constant RJ6 266 (858993459) ∈ evtb := ev_in (List.mem_of_getElem? (i := 613) rfl) rfl
set_option maxRecDepth 100000 in
theorem kc_J6_267 : Cond.constant RJ6 267 (252645135) ∈ evtb := ev_in (List.mem_of_getElem? (i := 614) rfl) rfl
set_option maxRecDepth 100000 in
theorem kc_X2_103 : Cond.constantLong RX2 103 (2) ∈ evtb := ev_in (List.mem_of_getElem? (i := 451) rfl) rfl
set_option maxRecDepth 100000 in
theorem kc_X2_105 : Cond.constantLong RX2 105 (10) ∈ evtb := ev_in (List.mem_of_getElem? (i := 452) rfl) rfl
set_option maxRecDepth 100000 in
theorem kc_X6_173 : Cond.constantLong RX6 173 (10) ∈ evtb := ev_in (List.mem_of_getElem? (i := 853) rfl) rfl
set_option maxRecDepth 100000 in
theorem kc_X6_175 : Cond.constantLong RX6 175 (2) ∈ evtb := ev_in (List.mem_of_getElem? (i := 854) rfl) rfl
set_option maxRecDepth 100000 in
theorem ev_acr (d : Nat) : (([] : List Value).map fun v => v.category).sum + (nativeFrameWords "java/lang/System" "arraycopy" 5 + 11) ≤ (evrm (d + 1)).locals := by
  have h : nativeFrameWords "java/lang/System" "arraycopy" 5 + 11 ≤ 40 := by decide +kernel
  show 0 + (nativeFrameWords "java/lang/System" "arraycopy" 5 + 11) ≤ 40 * (d + 1)
  omega
end
