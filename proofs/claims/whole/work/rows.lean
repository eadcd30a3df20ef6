section
-- ===== PART A: goes FIRST, ahead of the names: the tables' words, and 'selects' of the private methods out of them =====
/-- a private method of a class that the tables say can be made, by its rows of tables_1 -/
def lw_okq (q : MethodName × Nat) : Prop := (q.1.cls ≠ "java/lang/invoke/MethodHandle" ∧ q.1.cls ≠ "java/lang/invoke/VarHandle") ∧ Cond.instantiable q.1.cls q.2 ∈ tables_1 ∧ Cond.privateMethod q.1 ∈ tables_1 ∧ Cond.instanceMethod q.1 ∈ tables_1
theorem lw_p0 : lw_okq (⟨"RopeChoices", "distanceOfEnds", "([I)I"⟩, 10) := ⟨⟨by decide +kernel, by decide +kernel⟩, List.mem_of_getElem? (i := 13) (by decide +kernel), List.mem_of_getElem? (i := 82) (by decide +kernel), List.mem_of_getElem? (i := 83) (by decide +kernel)⟩
theorem lw_p1 : lw_okq (⟨"RopeChoices", "agreesAt", "([I)Z"⟩, 10) := ⟨⟨by decide +kernel, by decide +kernel⟩, List.mem_of_getElem? (i := 13) (by decide +kernel), List.mem_of_getElem? (i := 96) (by decide +kernel), List.mem_of_getElem? (i := 97) (by decide +kernel)⟩
theorem lw_p2 : lw_okq (⟨"RopeChoices", "hasTwoVillages", "()Z"⟩, 10) := ⟨⟨by decide +kernel, by decide +kernel⟩, List.mem_of_getElem? (i := 13) (by decide +kernel), List.mem_of_getElem? (i := 100) (by decide +kernel), List.mem_of_getElem? (i := 101) (by decide +kernel)⟩
theorem lw_p3 : lw_okq (⟨"RopeChoices", "middleOfAll", "([I)I"⟩, 10) := ⟨⟨by decide +kernel, by decide +kernel⟩, List.mem_of_getElem? (i := 13) (by decide +kernel), List.mem_of_getElem? (i := 108) (by decide +kernel), List.mem_of_getElem? (i := 109) (by decide +kernel)⟩
theorem lw_p4 : lw_okq (⟨"RopeChoices", "discontentOfAll", "(I)I"⟩, 10) := ⟨⟨by decide +kernel, by decide +kernel⟩, List.mem_of_getElem? (i := 13) (by decide +kernel), List.mem_of_getElem? (i := 124) (by decide +kernel), List.mem_of_getElem? (i := 125) (by decide +kernel)⟩
theorem lw_p5 : lw_okq (⟨"RopeChoices", "discontent", "(II)I"⟩, 10) := ⟨⟨by decide +kernel, by decide +kernel⟩, List.mem_of_getElem? (i := 13) (by decide +kernel), List.mem_of_getElem? (i := 128) (by decide +kernel), List.mem_of_getElem? (i := 129) (by decide +kernel)⟩
theorem lw_p6 : lw_okq (⟨"RopeChoices", "copyPlanksToLater", "()V"⟩, 10) := ⟨⟨by decide +kernel, by decide +kernel⟩, List.mem_of_getElem? (i := 13) (by decide +kernel), List.mem_of_getElem? (i := 139) (by decide +kernel), List.mem_of_getElem? (i := 140) (by decide +kernel)⟩
theorem lw_p7 : lw_okq (⟨"RopeChoices", "goRound", "([I)I"⟩, 10) := ⟨⟨by decide +kernel, by decide +kernel⟩, List.mem_of_getElem? (i := 13) (by decide +kernel), List.mem_of_getElem? (i := 143) (by decide +kernel), List.mem_of_getElem? (i := 144) (by decide +kernel)⟩
theorem lw_p8 : lw_okq (⟨"RopeChoices", "stepFrom", "(III)I"⟩, 10) := ⟨⟨by decide +kernel, by decide +kernel⟩, List.mem_of_getElem? (i := 13) (by decide +kernel), List.mem_of_getElem? (i := 147) (by decide +kernel), List.mem_of_getElem? (i := 148) (by decide +kernel)⟩
theorem lw_p9 : lw_okq (⟨"RopeChoices", "nearestWillingPlank", "(II)I"⟩, 10) := ⟨⟨by decide +kernel, by decide +kernel⟩, List.mem_of_getElem? (i := 13) (by decide +kernel), List.mem_of_getElem? (i := 151) (by decide +kernel), List.mem_of_getElem? (i := 152) (by decide +kernel)⟩
theorem lw_p10 : lw_okq (⟨"RopeChoices", "hasRoom", "([II)Z"⟩, 10) := ⟨⟨by decide +kernel, by decide +kernel⟩, List.mem_of_getElem? (i := 13) (by decide +kernel), List.mem_of_getElem? (i := 158) (by decide +kernel), List.mem_of_getElem? (i := 159) (by decide +kernel)⟩
theorem lw_p11 : lw_okq (⟨"RopeChoices", "crowdOn", "([II)I"⟩, 10) := ⟨⟨by decide +kernel, by decide +kernel⟩, List.mem_of_getElem? (i := 13) (by decide +kernel), List.mem_of_getElem? (i := 162) (by decide +kernel), List.mem_of_getElem? (i := 163) (by decide +kernel)⟩
theorem lw_p12 : lw_okq (⟨"RopeChoices", "checkSomeoneThere", "()V"⟩, 10) := ⟨⟨by decide +kernel, by decide +kernel⟩, List.mem_of_getElem? (i := 13) (by decide +kernel), List.mem_of_getElem? (i := 197) (by decide +kernel), List.mem_of_getElem? (i := 198) (by decide +kernel)⟩
theorem lw_p13 : lw_okq (⟨"java/lang/Throwable", "fillInStackTrace", "(I)Ljava/lang/Throwable;"⟩, 6) := ⟨⟨by decide +kernel, by decide +kernel⟩, List.mem_of_getElem? (i := 239) (by decide +kernel), List.mem_of_getElem? (i := 237) (by decide +kernel), List.mem_of_getElem? (i := 238) (by decide +kernel)⟩
theorem lw_p14 : lw_okq (⟨"RopeChoices", "foldDelegate", "(JI)J"⟩, 10) := ⟨⟨by decide +kernel, by decide +kernel⟩, List.mem_of_getElem? (i := 13) (by decide +kernel), List.mem_of_getElem? (i := 279) (by decide +kernel), List.mem_of_getElem? (i := 280) (by decide +kernel)⟩
theorem lw_p15 : lw_okq (⟨"RopeChoices", "checkDelegate", "(I)V"⟩, 10) := ⟨⟨by decide +kernel, by decide +kernel⟩, List.mem_of_getElem? (i := 13) (by decide +kernel), List.mem_of_getElem? (i := 287) (by decide +kernel), List.mem_of_getElem? (i := 288) (by decide +kernel)⟩
def lw_privs_1 : List (MethodName × Nat) := [(⟨"RopeChoices", "distanceOfEnds", "([I)I"⟩, 10), (⟨"RopeChoices", "agreesAt", "([I)Z"⟩, 10), (⟨"RopeChoices", "hasTwoVillages", "()Z"⟩, 10), (⟨"RopeChoices", "middleOfAll", "([I)I"⟩, 10), (⟨"RopeChoices", "discontentOfAll", "(I)I"⟩, 10), (⟨"RopeChoices", "discontent", "(II)I"⟩, 10), (⟨"RopeChoices", "copyPlanksToLater", "()V"⟩, 10), (⟨"RopeChoices", "goRound", "([I)I"⟩, 10), (⟨"RopeChoices", "stepFrom", "(III)I"⟩, 10), (⟨"RopeChoices", "nearestWillingPlank", "(II)I"⟩, 10), (⟨"RopeChoices", "hasRoom", "([II)Z"⟩, 10), (⟨"RopeChoices", "crowdOn", "([II)I"⟩, 10), (⟨"RopeChoices", "checkSomeoneThere", "()V"⟩, 10), (⟨"java/lang/Throwable", "fillInStackTrace", "(I)Ljava/lang/Throwable;"⟩, 6), (⟨"RopeChoices", "foldDelegate", "(JI)J"⟩, 10), (⟨"RopeChoices", "checkDelegate", "(I)V"⟩, 10)]
theorem lw_r1 : ∀ q ∈ lw_privs_1, lw_okq q := List.forall_mem_cons.mpr ⟨lw_p0, List.forall_mem_cons.mpr ⟨lw_p1, List.forall_mem_cons.mpr ⟨lw_p2, List.forall_mem_cons.mpr ⟨lw_p3, List.forall_mem_cons.mpr ⟨lw_p4, List.forall_mem_cons.mpr ⟨lw_p5, List.forall_mem_cons.mpr ⟨lw_p6, List.forall_mem_cons.mpr ⟨lw_p7, List.forall_mem_cons.mpr ⟨lw_p8, List.forall_mem_cons.mpr ⟨lw_p9, List.forall_mem_cons.mpr ⟨lw_p10, List.forall_mem_cons.mpr ⟨lw_p11, List.forall_mem_cons.mpr ⟨lw_p12, List.forall_mem_cons.mpr ⟨lw_p13, List.forall_mem_cons.mpr ⟨lw_p14, List.forall_mem_cons.mpr ⟨lw_p15, fun _ h => absurd h List.not_mem_nil⟩⟩⟩⟩⟩⟩⟩⟩⟩⟩⟩⟩⟩⟩⟩⟩
theorem lw_p16 : lw_okq (⟨"RopeChoices", "gatherOthers", "(I)V"⟩, 10) := ⟨⟨by decide +kernel, by decide +kernel⟩, List.mem_of_getElem? (i := 13) (by decide +kernel), List.mem_of_getElem? (i := 331) (by decide +kernel), List.mem_of_getElem? (i := 332) (by decide +kernel)⟩
theorem lw_p17 : lw_okq (⟨"RopeChoices", "closeGap", "([II)V"⟩, 10) := ⟨⟨by decide +kernel, by decide +kernel⟩, List.mem_of_getElem? (i := 13) (by decide +kernel), List.mem_of_getElem? (i := 391) (by decide +kernel), List.mem_of_getElem? (i := 392) (by decide +kernel)⟩
theorem lw_p18 : lw_okq (⟨"RopeChoices", "isWilling", "(II)Z"⟩, 10) := ⟨⟨by decide +kernel, by decide +kernel⟩, List.mem_of_getElem? (i := 13) (by decide +kernel), List.mem_of_getElem? (i := 409) (by decide +kernel), List.mem_of_getElem? (i := 410) (by decide +kernel)⟩
theorem lw_p19 : lw_okq (⟨"RopeChoices", "hasPlaceFor", "(II)Z"⟩, 10) := ⟨⟨by decide +kernel, by decide +kernel⟩, List.mem_of_getElem? (i := 13) (by decide +kernel), List.mem_of_getElem? (i := 414) (by decide +kernel), List.mem_of_getElem? (i := 415) (by decide +kernel)⟩
theorem lw_p20 : lw_okq (⟨"RopeChoices", "goRounds", "([II)I"⟩, 10) := ⟨⟨by decide +kernel, by decide +kernel⟩, List.mem_of_getElem? (i := 13) (by decide +kernel), List.mem_of_getElem? (i := 437) (by decide +kernel), List.mem_of_getElem? (i := 438) (by decide +kernel)⟩
theorem lw_p21 : lw_okq (⟨"RopeChoices", "gatherVillage", "(I)V"⟩, 10) := ⟨⟨by decide +kernel, by decide +kernel⟩, List.mem_of_getElem? (i := 13) (by decide +kernel), List.mem_of_getElem? (i := 479) (by decide +kernel), List.mem_of_getElem? (i := 480) (by decide +kernel)⟩
theorem lw_p22 : lw_okq (⟨"RopeChoices", "countVotes", "(II)I"⟩, 10) := ⟨⟨by decide +kernel, by decide +kernel⟩, List.mem_of_getElem? (i := 13) (by decide +kernel), List.mem_of_getElem? (i := 519) (by decide +kernel), List.mem_of_getElem? (i := 520) (by decide +kernel)⟩
theorem lw_p23 : lw_okq (⟨"RopeChoicesModel", "fail", "(I)I"⟩, 11) := ⟨⟨by decide +kernel, by decide +kernel⟩, List.mem_of_getElem? (i := 559) (by decide +kernel), List.mem_of_getElem? (i := 616) (by decide +kernel), List.mem_of_getElem? (i := 617) (by decide +kernel)⟩
theorem lw_p24 : lw_okq (⟨"RopeChoicesModel", "hasRoom", "(I)Z"⟩, 11) := ⟨⟨by decide +kernel, by decide +kernel⟩, List.mem_of_getElem? (i := 559) (by decide +kernel), List.mem_of_getElem? (i := 620) (by decide +kernel), List.mem_of_getElem? (i := 621) (by decide +kernel)⟩
theorem lw_p25 : lw_okq (⟨"RopeChoicesModel", "standing", "(I)I"⟩, 11) := ⟨⟨by decide +kernel, by decide +kernel⟩, List.mem_of_getElem? (i := 559) (by decide +kernel), List.mem_of_getElem? (i := 624) (by decide +kernel), List.mem_of_getElem? (i := 625) (by decide +kernel)⟩
theorem lw_p26 : lw_okq (⟨"RopeChoicesModel", "isDelegate", "(I)Z"⟩, 11) := ⟨⟨by decide +kernel, by decide +kernel⟩, List.mem_of_getElem? (i := 559) (by decide +kernel), List.mem_of_getElem? (i := 632) (by decide +kernel), List.mem_of_getElem? (i := 633) (by decide +kernel)⟩
theorem lw_p27 : lw_okq (⟨"RopeChoicesModel", "can", "(II)Z"⟩, 11) := ⟨⟨by decide +kernel, by decide +kernel⟩, List.mem_of_getElem? (i := 559) (by decide +kernel), List.mem_of_getElem? (i := 647) (by decide +kernel), List.mem_of_getElem? (i := 648) (by decide +kernel)⟩
theorem lw_p28 : lw_okq (⟨"RopeChoicesModel", "isWilling", "(II)Z"⟩, 11) := ⟨⟨by decide +kernel, by decide +kernel⟩, List.mem_of_getElem? (i := 559) (by decide +kernel), List.mem_of_getElem? (i := 651) (by decide +kernel), List.mem_of_getElem? (i := 652) (by decide +kernel)⟩
theorem lw_p29 : lw_okq (⟨"RopeChoicesModel", "roundOn", "()I"⟩, 11) := ⟨⟨by decide +kernel, by decide +kernel⟩, List.mem_of_getElem? (i := 559) (by decide +kernel), List.mem_of_getElem? (i := 664) (by decide +kernel), List.mem_of_getElem? (i := 665) (by decide +kernel)⟩
theorem lw_p30 : lw_okq (⟨"RopeChoicesModel", "middle", "()I"⟩, 11) := ⟨⟨by decide +kernel, by decide +kernel⟩, List.mem_of_getElem? (i := 559) (by decide +kernel), List.mem_of_getElem? (i := 668) (by decide +kernel), List.mem_of_getElem? (i := 669) (by decide +kernel)⟩
theorem lw_p31 : lw_okq (⟨"RopeChoicesModel", "median", "(II)I"⟩, 11) := ⟨⟨by decide +kernel, by decide +kernel⟩, List.mem_of_getElem? (i := 559) (by decide +kernel), List.mem_of_getElem? (i := 672) (by decide +kernel), List.mem_of_getElem? (i := 673) (by decide +kernel)⟩
def lw_privs_2 : List (MethodName × Nat) := [(⟨"RopeChoices", "gatherOthers", "(I)V"⟩, 10), (⟨"RopeChoices", "closeGap", "([II)V"⟩, 10), (⟨"RopeChoices", "isWilling", "(II)Z"⟩, 10), (⟨"RopeChoices", "hasPlaceFor", "(II)Z"⟩, 10), (⟨"RopeChoices", "goRounds", "([II)I"⟩, 10), (⟨"RopeChoices", "gatherVillage", "(I)V"⟩, 10), (⟨"RopeChoices", "countVotes", "(II)I"⟩, 10), (⟨"RopeChoicesModel", "fail", "(I)I"⟩, 11), (⟨"RopeChoicesModel", "hasRoom", "(I)Z"⟩, 11), (⟨"RopeChoicesModel", "standing", "(I)I"⟩, 11), (⟨"RopeChoicesModel", "isDelegate", "(I)Z"⟩, 11), (⟨"RopeChoicesModel", "can", "(II)Z"⟩, 11), (⟨"RopeChoicesModel", "isWilling", "(II)Z"⟩, 11), (⟨"RopeChoicesModel", "roundOn", "()I"⟩, 11), (⟨"RopeChoicesModel", "middle", "()I"⟩, 11), (⟨"RopeChoicesModel", "median", "(II)I"⟩, 11)]
theorem lw_r2 : ∀ q ∈ lw_privs_2, lw_okq q := List.forall_mem_cons.mpr ⟨lw_p16, List.forall_mem_cons.mpr ⟨lw_p17, List.forall_mem_cons.mpr ⟨lw_p18, List.forall_mem_cons.mpr ⟨lw_p19, List.forall_mem_cons.mpr ⟨lw_p20, List.forall_mem_cons.mpr ⟨lw_p21, List.forall_mem_cons.mpr ⟨lw_p22, List.forall_mem_cons.mpr ⟨lw_p23, List.forall_mem_cons.mpr ⟨lw_p24, List.forall_mem_cons.mpr ⟨lw_p25, List.forall_mem_cons.mpr ⟨lw_p26, List.forall_mem_cons.mpr ⟨lw_p27, List.forall_mem_cons.mpr ⟨lw_p28, List.forall_mem_cons.mpr ⟨lw_p29, List.forall_mem_cons.mpr ⟨lw_p30, List.forall_mem_cons.mpr ⟨lw_p31, fun _ h => absurd h List.not_mem_nil⟩⟩⟩⟩⟩⟩⟩⟩⟩⟩⟩⟩⟩⟩⟩⟩
theorem lw_p32 : lw_okq (⟨"RopeChoicesModel", "step", "(II)I"⟩, 11) := ⟨⟨by decide +kernel, by decide +kernel⟩, List.mem_of_getElem? (i := 559) (by decide +kernel), List.mem_of_getElem? (i := 676) (by decide +kernel), List.mem_of_getElem? (i := 677) (by decide +kernel)⟩
theorem lw_p33 : lw_okq (⟨"RopeChoicesModel", "told", "(I)I"⟩, 11) := ⟨⟨by decide +kernel, by decide +kernel⟩, List.mem_of_getElem? (i := 559) (by decide +kernel), List.mem_of_getElem? (i := 686) (by decide +kernel), List.mem_of_getElem? (i := 687) (by decide +kernel)⟩
theorem lw_p34 : lw_okq (⟨"RopeChoicesModel", "of", "(I[I)I"⟩, 11) := ⟨⟨by decide +kernel, by decide +kernel⟩, List.mem_of_getElem? (i := 559) (by decide +kernel), List.mem_of_getElem? (i := 702) (by decide +kernel), List.mem_of_getElem? (i := 703) (by decide +kernel)⟩
theorem lw_p35 : lw_okq (⟨"RopeChoicesModel", "wide", "()I"⟩, 11) := ⟨⟨by decide +kernel, by decide +kernel⟩, List.mem_of_getElem? (i := 559) (by decide +kernel), List.mem_of_getElem? (i := 730) (by decide +kernel), List.mem_of_getElem? (i := 731) (by decide +kernel)⟩
theorem lw_p36 : lw_okq (⟨"RopeChoicesModel", "agree", "()Z"⟩, 11) := ⟨⟨by decide +kernel, by decide +kernel⟩, List.mem_of_getElem? (i := 559) (by decide +kernel), List.mem_of_getElem? (i := 738) (by decide +kernel), List.mem_of_getElem? (i := 739) (by decide +kernel)⟩
theorem lw_p37 : lw_okq (⟨"RopeChoicesModel", "decisive", "()I"⟩, 11) := ⟨⟨by decide +kernel, by decide +kernel⟩, List.mem_of_getElem? (i := 559) (by decide +kernel), List.mem_of_getElem? (i := 758) (by decide +kernel), List.mem_of_getElem? (i := 759) (by decide +kernel)⟩
theorem lw_p38 : lw_okq (⟨"RopeChoicesModel", "apart", "(II)I"⟩, 11) := ⟨⟨by decide +kernel, by decide +kernel⟩, List.mem_of_getElem? (i := 559) (by decide +kernel), List.mem_of_getElem? (i := 766) (by decide +kernel), List.mem_of_getElem? (i := 767) (by decide +kernel)⟩
theorem lw_p39 : lw_okq (⟨"RopeChoicesModel", "allApart", "(I)I"⟩, 11) := ⟨⟨by decide +kernel, by decide +kernel⟩, List.mem_of_getElem? (i := 559) (by decide +kernel), List.mem_of_getElem? (i := 774) (by decide +kernel), List.mem_of_getElem? (i := 775) (by decide +kernel)⟩
theorem lw_p40 : lw_okq (⟨"RopeChoicesModel", "best", "()I"⟩, 11) := ⟨⟨by decide +kernel, by decide +kernel⟩, List.mem_of_getElem? (i := 559) (by decide +kernel), List.mem_of_getElem? (i := 782) (by decide +kernel), List.mem_of_getElem? (i := 783) (by decide +kernel)⟩
theorem lw_p41 : lw_okq (⟨"RopeChoicesModel", "areTwo", "(II)Z"⟩, 11) := ⟨⟨by decide +kernel, by decide +kernel⟩, List.mem_of_getElem? (i := 559) (by decide +kernel), List.mem_of_getElem? (i := 790) (by decide +kernel), List.mem_of_getElem? (i := 791) (by decide +kernel)⟩
theorem lw_p42 : lw_okq (⟨"RopeChoicesModel", "votes", "(II)I"⟩, 11) := ⟨⟨by decide +kernel, by decide +kernel⟩, List.mem_of_getElem? (i := 559) (by decide +kernel), List.mem_of_getElem? (i := 794) (by decide +kernel), List.mem_of_getElem? (i := 795) (by decide +kernel)⟩
theorem lw_p43 : lw_okq (⟨"RopeChoicesModel", "still", "()Z"⟩, 11) := ⟨⟨by decide +kernel, by decide +kernel⟩, List.mem_of_getElem? (i := 559) (by decide +kernel), List.mem_of_getElem? (i := 814) (by decide +kernel), List.mem_of_getElem? (i := 815) (by decide +kernel)⟩
theorem lw_p44 : lw_okq (⟨"RopeChoicesModel", "keep", "()V"⟩, 11) := ⟨⟨by decide +kernel, by decide +kernel⟩, List.mem_of_getElem? (i := 559) (by decide +kernel), List.mem_of_getElem? (i := 825) (by decide +kernel), List.mem_of_getElem? (i := 826) (by decide +kernel)⟩
theorem lw_p45 : lw_okq (⟨"RopeChoicesModel", "bringBack", "()V"⟩, 11) := ⟨⟨by decide +kernel, by decide +kernel⟩, List.mem_of_getElem? (i := 559) (by decide +kernel), List.mem_of_getElem? (i := 829) (by decide +kernel), List.mem_of_getElem? (i := 830) (by decide +kernel)⟩
theorem lw_p46 : lw_okq (⟨"RopeChoicesModel", "untilStill", "()I"⟩, 11) := ⟨⟨by decide +kernel, by decide +kernel⟩, List.mem_of_getElem? (i := 559) (by decide +kernel), List.mem_of_getElem? (i := 845) (by decide +kernel), List.mem_of_getElem? (i := 846) (by decide +kernel)⟩
theorem lw_p47 : lw_okq (⟨"RopeChoicesModel", "stand", "(I)I"⟩, 11) := ⟨⟨by decide +kernel, by decide +kernel⟩, List.mem_of_getElem? (i := 559) (by decide +kernel), List.mem_of_getElem? (i := 853) (by decide +kernel), List.mem_of_getElem? (i := 854) (by decide +kernel)⟩
def lw_privs_3 : List (MethodName × Nat) := [(⟨"RopeChoicesModel", "step", "(II)I"⟩, 11), (⟨"RopeChoicesModel", "told", "(I)I"⟩, 11), (⟨"RopeChoicesModel", "of", "(I[I)I"⟩, 11), (⟨"RopeChoicesModel", "wide", "()I"⟩, 11), (⟨"RopeChoicesModel", "agree", "()Z"⟩, 11), (⟨"RopeChoicesModel", "decisive", "()I"⟩, 11), (⟨"RopeChoicesModel", "apart", "(II)I"⟩, 11), (⟨"RopeChoicesModel", "allApart", "(I)I"⟩, 11), (⟨"RopeChoicesModel", "best", "()I"⟩, 11), (⟨"RopeChoicesModel", "areTwo", "(II)Z"⟩, 11), (⟨"RopeChoicesModel", "votes", "(II)I"⟩, 11), (⟨"RopeChoicesModel", "still", "()Z"⟩, 11), (⟨"RopeChoicesModel", "keep", "()V"⟩, 11), (⟨"RopeChoicesModel", "bringBack", "()V"⟩, 11), (⟨"RopeChoicesModel", "untilStill", "()I"⟩, 11), (⟨"RopeChoicesModel", "stand", "(I)I"⟩, 11)]
theorem lw_r3 : ∀ q ∈ lw_privs_3, lw_okq q := List.forall_mem_cons.mpr ⟨lw_p32, List.forall_mem_cons.mpr ⟨lw_p33, List.forall_mem_cons.mpr ⟨lw_p34, List.forall_mem_cons.mpr ⟨lw_p35, List.forall_mem_cons.mpr ⟨lw_p36, List.forall_mem_cons.mpr ⟨lw_p37, List.forall_mem_cons.mpr ⟨lw_p38, List.forall_mem_cons.mpr ⟨lw_p39, List.forall_mem_cons.mpr ⟨lw_p40, List.forall_mem_cons.mpr ⟨lw_p41, List.forall_mem_cons.mpr ⟨lw_p42, List.forall_mem_cons.mpr ⟨lw_p43, List.forall_mem_cons.mpr ⟨lw_p44, List.forall_mem_cons.mpr ⟨lw_p45, List.forall_mem_cons.mpr ⟨lw_p46, List.forall_mem_cons.mpr ⟨lw_p47, fun _ h => absurd h List.not_mem_nil⟩⟩⟩⟩⟩⟩⟩⟩⟩⟩⟩⟩⟩⟩⟩⟩
def lw_privs : List (MethodName × Nat) := lw_privs_1 ++ (lw_privs_2 ++ (lw_privs_3))
def lw_tbl : List Cond := k2_sels lw_privs ++ tables_1
theorem lw_privs_ok : ∀ q ∈ lw_privs, lw_okq q := by
  show ∀ q ∈ lw_privs_1 ++ (lw_privs_2 ++ (lw_privs_3)), lw_okq q
  exact List.forall_mem_append.mpr ⟨lw_r1, List.forall_mem_append.mpr ⟨lw_r2, lw_r3⟩⟩
/-- the streams that the claim lets the run draw from -/
abbrev lw_cs : List Choice := [Jvm.Choice.named "NaN.bits"]
theorem lw_bits : nanBits ∈ lw_cs := by first | decide | exact List.mem_cons_self | simp [lw_cs, nanBits]
-- ===== end of PART A; then your names; then what follows =====
end
section
/-! ===== BEGIN words of one list among another's, by their places ===== -/
theorem goodIn_r {big : List Cond} (ws : List Cond) (ps : List Nat) (hp : ws = ps.filterMap (fun i => big[i]?)) (h : ws.all goodWord = true) : GoodIn big ws := by
  intro w hw
  have h1 := List.all_eq_true.mp h w hw
  rw [hp] at hw
  obtain ⟨i, -, hi⟩ := List.mem_filterMap.mp hw
  have hm : w ∈ big := by first | exact List.mem_of_getElem? hi | exact List.getElem?_mem hi
  exact ⟨hm, good_of_word h1⟩
theorem goodIn_app {big a b : List Cond} (ha : GoodIn big a) (hb : GoodIn big b) : GoodIn big (a ++ b) := fun w h => (List.mem_append.mp h).elim (ha w) (hb w)
theorem goodIn_ca {big a b : List Cond} {c : Cond} (ha : GoodIn big (c :: a)) (hb : GoodIn big b) : GoodIn big (c :: (a ++ b)) := fun w h => (List.mem_cons.mp h).elim (fun e => ha w (List.mem_cons.mpr (Or.inl e))) (fun h => (List.mem_append.mp h).elim (fun h => ha w (List.mem_cons.mpr (Or.inr h))) (hb w))
theorem goodIn_sub {big ws : List Cond} (hm : ∀ w ∈ ws, w ∈ big) (h : ws.all goodWord = true) : GoodIn big ws := fun w hw => ⟨hm w hw, good_of_word (List.all_eq_true.mp h w hw)⟩
/-! ===== END ===== -/

/-! ===== BEGIN exceptions that leave a method, and their catching by the caller (launches without stack traces) ===== -/
section VXA
/-! The laws vx_back, vx_callV, vx_callS, vx_callSW, vx_throw0, vx_throwS follow proofs of the library, with one case more: JvmDerived/Free/Laws.lean (Back.of_free), Shelf42/LK1.lean (callV, callS), Shelf/KitTraced.lean (throwNew0V, throwNewS). -/
/-- where a method has thrown q: the class by its name, the cell, what was written, the world -/
def vx_T (XC : String → State → State → Prop) (st : State) (q : Addr) (t : State) (mc ms : Nat) (free : Addr → Prop) : Prop :=
  ∃ (E : String) (ce : Cell) (L : List Loc), XC E st t ∧ t.heap[q]? = some ce ∧ ce.vm = .none ∧ st.vm.findClass E = some ce.cls ∧ st.WarmedH t.vm ∧ st.sameButNew ({ t with vm := st.vm } : State) L mc ms ∧ ∀ z ∈ L, free z.base
def vx_Q (Qc : Array Value → State → Outcome → State → Prop) (XC : String → State → State → Prop) (mc ms : Nat) (free : Addr → Prop) : Array Value → State → Outcome → State → Prop := fun a st o t =>
  (Qc a st o t ∧ ∃ L, FrameEnd st o t L mc ms ∧ ∀ q ∈ L, free q.base) ∨ ∃ q, o = .threw q ∧ vx_T XC st q t mc ms free
/-- a callee that returns or throws -/
def vx_Met (l : Launch) (y : MethodName) (ws : List Cond) (rm : Room) (Pc : Array Value → State → Prop) (Qc : Array Value → State → Outcome → State → Prop) (XC : String → State → State → Prop) (mc ms : Nat) (free : Addr → Prop) : Prop :=
  MetFree l y (headSpec ws rm) Pc (fun _ _ _ _ _ => True) (vx_Q Qc XC mc ms free)
def vx_Post (XC : String → State → State → Prop) (mc ms : Nat) (free : Addr → Prop) : Pt → Array Value → Addr → Pt → Prop := fun A a q B =>
  ∃ (g : JFrame) (mk : MethodId) (t : State) (L : List Loc) (E : String) (ce : Cell), B.U.heap = t.heap ∧ B.U.vm = t.vm ∧ XC E (A.U.calling g mk a) t ∧ t.heap[q]? = some ce ∧ ce.vm = .none ∧ A.U.vm.findClass E = some ce.cls ∧ B.locs = A.locs ++ L ∧ (∀ z ∈ L, free z.base) ∧ B.cells = A.cells + mc ∧ B.slots = A.slots + ms
def vx_Back (l : Launch) (R : Room) (p : Program) (e : Env) (below : List Frame) (s : State) (sargs : Array Value) (y : MethodName) (len W9 : Nat)
    (Pre : Pt → Array Value → Prop) (Post : Pt → Array Value → Option Value → Pt → Prop) (PostX : Pt → Array Value → Addr → Pt → Prop) : Prop :=
  ∀ (m : MethodId) (meth : Method) (c : Code) (A : Pt) (g : JFrame) (ig : Instr) (mk : MethodId) (a : Array Value),
    Stand p l e R s m sargs below meth c A.U A.locs A.cells A.slots → g.method = m → g.locals.size = c.maxLocals → decode c.code g.pc = .ok (ig, len) →
    2 * g.monitorRoom + (g.stack.map fun v => v.category).sum ≤ W9 → A.U.methodNamed? y = some mk → Pre A a →
    (∃ (v : Option Value) (B : Pt), Stand p l e R s m sargs below meth c B.U B.locs B.cells B.slots ∧ Post A a v B ∧
      Steps p.tables e below (doInvoke e (A.U.setTop g) [] mk a).1 (B.U.setTop { g with pc := g.pc + len, stack := v.toList ++ g.stack })) ∨
    (∃ (q : Addr) (B : Pt), Stand p l e R s m sargs below meth c B.U B.locs B.cells B.slots ∧ PostX A a q B ∧
      Steps p.tables e below (doInvoke e (A.U.setTop g) [] mk a).1 ((B.U.setTop g).pushFrame (.throwing q)))
section Payer
variable {l : Launch} {R : Room} {p : Program} {e : Env} {below : List Frame} {s : State} {sargs : Array Value} {y : MethodName} {len W9 : Nat}
theorem vx_back {ws : List Cond} {rm : Room} {Pc : Array Value → State → Prop} {Qc : Array Value → State → Outcome → State → Prop} {XC : String → State → State → Prop} {mc ms : Nat} {free : Addr → Prop} {bytes : ByteArray} {maxL : Nat} {ret : Option FieldType}
    (hM : vx_Met l y ws rm Pc Qc XC mc ms free) (hblind : FrameBlind Pc) (hrc : rm.cells = mc) (hrs : rm.slots = ms)
    (hframes : rm.frames + 1 ≤ R.frames) (hlocals : W9 + (maxL + 11) + rm.locals ≤ R.locals)
    (hws : ∀ w ∈ ws, ∀ a' U, s.WarmedH U.vm → w.before a' U = true) (hcode : Cond.code y bytes maxL ret ∈ ws) (hinit : ∀ a' U, s.WarmedH U.vm → (Cond.initialized y.cls).before a' U = true) :
    vx_Back l R p e below s sargs y len W9 (PreOf R mc ms Pc) (PostOf Qc mc ms free) (vx_Post XC mc ms free) := by
  intro m meth c A g ig mk a X hg hsize hdg hW hn hp
  have h1 : (headSpec ws rm).pre.before a A.U = true := atoms_intro fun w hw => hws w hw _ _ X.warmed
  have h2 : (Cond.code y bytes maxL ret).before a A.U = true := hws _ hcode _ _ X.warmed
  have h3 : (Cond.initialized y.cls).before a A.U = true := hinit _ _ X.warmed
  have h4 : A.cells + (headSpec ws rm).room.cells ≤ R.cells := by rw [show (headSpec ws rm).room.cells = mc from hrc]; exact hp.1
  have h5 : A.slots + (headSpec ws rm).room.slots ≤ R.slots := by rw [show (headSpec ws rm).room.slots = ms from hrs]; exact hp.2.1
  have hPc : Pc a (A.U.calling g mk a) := hblind _ _ _ _ hp.2.2
  obtain ⟨U, Ls, c0, s0⟩ := A
  dsimp only [Pt.U, Pt.locs, Pt.cells, Pt.slots] at h1 h2 h3 h4 h5 X hn hPc ⊢
  obtain ⟨methY, cY, hmY, hcY, -, hlY, -, -, -, -⟩ := Cond.code_spec hn h2
  obtain ⟨kY, hkY, -⟩ := className_of_methodNamed hn
  have hinitY : kY.init = .initialized := Cond.initialized_spec (findClass_of_methodNamed hn) hkY h3
  have h : At U g.method c below := by rw [hg]; exact X.here
  have hlocals9 : W9 + (maxL + 11) + (headSpec ws rm).room.locals ≤ R.locals := hlocals
  have happ : (headSpec ws rm).appliesLoose y e.platform (U.calling g mk a) = true :=
    Spec.appliesLoose_calling (g := g) h hdg hn hkY hinitY
      (X.room_calling (g := g) (R' := (headSpec ws rm).room) hsize hmY hcY hframes (by rw [hlY]; omega) h4 h5) h1
  obtain ⟨mid, hmid⟩ := h.above
  have hfr : (U.setTop g).frames = (.java g :: mid) ++ below := by rw [State.frames_setTop' g h.top, hmid]; rfl
  obtain ⟨o, s₂, hsteps, -, hend, hq⟩ := Steps.callFree hM p X.admits X.cas X.clock (acts := []) hfr happ hPc trivial
  have hq' : vx_Q Qc XC mc ms free a (U.calling g mk a) o s₂ := hq
  rw [State.frames_setTop' g h.top] at hend
  obtain ⟨g₀, hg0⟩ := Option.isSome_iff_exists.mp h.top
  obtain ⟨r, hr⟩ := State.topJava?_eq_some.mp hg0
  have hr' : (({ U with heap := s₂.heap, slotsUsed := s₂.slotsUsed } : State).setVm s₂.vm).frames = .java g₀ :: r := hr
  rcases hq' with ⟨hqc, L, hfe, hL⟩ | ⟨q, rfl, E, ce, L, hx, hce, hcv, hcl, hW₂, hsm, hL⟩
  · obtain ⟨⟨v, rfl⟩, hW₂, e2, q2, q3, q4, q5, q6⟩ := id hfe
    have e3 : s₂ = ({ (U.calling g mk a).setFrames s₂.frames with heap := s₂.heap, slotsUsed := s₂.slotsUsed } : State).setVm s₂.vm := by
      have : s₂ = ({ s₂ with vm := (U.calling g mk a).vm } : State).setVm s₂.vm := rfl
      rw [e2] at this
      exact this
    obtain ⟨c₂, i₂, len₂, hc₂, hd₂, hf₂⟩ := hend
    have hW' : U.WarmedH s₂.vm := hW₂
    have hcc : c₂ = c := by
      have h1 : s₂.code? g.method = U.code? g.method := by
        rw [State.code?_eq, State.code?_eq, hW'.alike.method?]
      exact Option.some.inj (hc₂.symm.trans (h1.trans h.code))
    subst hcc
    have hlen : len₂ = len := by rw [hdg] at hd₂; cases hd₂; rfl
    subst hlen
    have hs₂ : s₂ = (({ U with heap := s₂.heap, slotsUsed := s₂.slotsUsed } : State).setVm s₂.vm).setTop { g with pc := g.pc + len₂, stack := v.toList ++ g.stack } := by
      refine e3.trans ?_
      rw [hf₂, State.calling_eq h.top, State.setFrames_setFrames, State.setTop_of_frames _ hr', hr]
      rfl
    have hsame : U.sameButNew ({ U with heap := s₂.heap, slotsUsed := s₂.slotsUsed } : State) L mc ms := by
      refine ⟨?_, q2, q3, q4, q5, q6⟩
      obtain ⟨t, ht, -⟩ := State.frames_cons hr
      show ({ U with heap := s₂.heap, slotsUsed := s₂.slotsUsed } : State) = { U.setFrames U.frames with heap := s₂.heap, slotsUsed := s₂.slotsUsed }
      rw [State.setFrames_self ht]
    subst hg
    refine Or.inl ⟨v, ⟨(({ U with heap := s₂.heap, slotsUsed := s₂.slotsUsed } : State).setVm s₂.vm), Ls ++ L, c0 + mc, s0 + ms⟩,
      ⟨X.admits, X.cas, X.clock, X.frames, X.room, X.hears, X.method, X.code, (X.here.setHeapUsed s₂.heap s₂.slotsUsed).setVm hW'.alike, X.tail, State.WarmedH.trans X.warmed hW', X.limits, X.bytes, X.same.trans (hsame.setVm s.vm)⟩,
      ⟨g, mk, s₂, L, rfl, rfl, hqc, rfl, hL, rfl, rfl⟩, ?_⟩
    show Steps p.tables e below _ ((({ U with heap := s₂.heap, slotsUsed := s₂.slotsUsed } : State).setVm s₂.vm).setTop { g with pc := g.pc + len₂, stack := v.toList ++ g.stack })
    rw [← hs₂]
    exact hsteps
  · obtain ⟨e2, q2, q3, q4, q5, q6⟩ := id hsm
    have e3 : s₂ = ({ (U.calling g mk a).setFrames s₂.frames with heap := s₂.heap, slotsUsed := s₂.slotsUsed } : State).setVm s₂.vm := by
      have : s₂ = ({ s₂ with vm := (U.calling g mk a).vm } : State).setVm s₂.vm := rfl
      rw [e2] at this
      exact this
    have hf₂ : s₂.frames = .throwing q :: .java g :: U.frames.tail := hend
    have hW' : U.WarmedH s₂.vm := hW₂
    have hs₂ : s₂ = ((({ U with heap := s₂.heap, slotsUsed := s₂.slotsUsed } : State).setVm s₂.vm).setTop g).pushFrame (.throwing q) := by
      refine e3.trans ?_
      rw [hf₂, State.calling_eq h.top, State.setFrames_setFrames, State.pushFrame, State.frames_setTop _ hr', State.setTop_of_frames _ hr', State.setFrames_setFrames, hr]
      rfl
    have hsame : U.sameButNew ({ U with heap := s₂.heap, slotsUsed := s₂.slotsUsed } : State) L mc ms := by
      refine ⟨?_, q2, q3, q4, q5, q6⟩
      obtain ⟨t, ht, -⟩ := State.frames_cons hr
      show ({ U with heap := s₂.heap, slotsUsed := s₂.slotsUsed } : State) = { U.setFrames U.frames with heap := s₂.heap, slotsUsed := s₂.slotsUsed }
      rw [State.setFrames_self ht]
    subst hg
    refine Or.inr ⟨q, ⟨(({ U with heap := s₂.heap, slotsUsed := s₂.slotsUsed } : State).setVm s₂.vm), Ls ++ L, c0 + mc, s0 + ms⟩,
      ⟨X.admits, X.cas, X.clock, X.frames, X.room, X.hears, X.method, X.code, (X.here.setHeapUsed s₂.heap s₂.slotsUsed).setVm hW'.alike, X.tail, State.WarmedH.trans X.warmed hW', X.limits, X.bytes, X.same.trans (hsame.setVm s.vm)⟩,
      ⟨g, mk, s₂, L, E, ce, rfl, rfl, hx, hce, hcv, hcl, rfl, hL, rfl, rfl⟩, ?_⟩
    show Steps p.tables e below _ (((({ U with heap := s₂.heap, slotsUsed := s₂.slotsUsed } : State).setVm s₂.vm).setTop g).pushFrame (.throwing q))
    rw [← hs₂]
    exact hsteps
end Payer
section Calls
variable {p : Program} {l : Launch} {e : Env} {R : Room} {s : State} {m : MethodId} {args : Array Value} {below : List Frame} {meth : Method} {c : Code} {T : State} {locs : List Loc} {cells slots : Nat}
theorem vx_callV (X : Stand p l e R s m args below meth c T locs cells slots) (hexec : p.tables.exec = Jvm.exec) {own C : String} {index : Nat} {y : MethodName} {bytes : ByteArray} {maxL : Nat} {ret : Option FieldType}
    (hown : s.vm.findClass own = some m.cls) (hlink : (Cond.methodLink own index y).before args s = true) (hinst : (Cond.instanceMethod y).before args s = true) (hsel : (Cond.selects C y y).before args s = true)
    (hcode : (Cond.code y bytes maxL ret).before args s = true) (hy : y.cls ≠ "java/lang/invoke/MethodHandle" ∧ y.cls ≠ "java/lang/invoke/VarHandle")
    {W9 : Nat} {Pre : Pt → Array Value → Prop} {Post : Pt → Array Value → Option Value → Pt → Prop} {PostX : Pt → Array Value → Addr → Pt → Prop} (hK : vx_Back l R p e below s args y 3 W9 Pre Post PostX)
    {b : Addr} {cellB : Cell} (hcell : T.heap[b]? = some cellB) (hobj : cellB.vm.isStatics = false) (hcls : s.vm.findClass C = some cellB.cls)
    {g : JFrame} (hg : g.method = m) (hsize : g.locals.size = c.maxLocals) {argsL rest : List Value} (hlen : ∀ sig, parseMethodDescriptor y.desc = some sig → argsL.length = sig.parameters.length)
    (hstack : g.stack = argsL.reverse ++ .ref b :: rest) (hW : 2 * g.monitorRoom + (rest.map fun v => v.category).sum ≤ W9) (hdg : decode c.code g.pc = .ok (.invokevirtual index, 3))
    (hpre : ∀ vm₁, s.WarmedH vm₁ → Pre ⟨T.setVm vm₁, locs, cells, slots⟩ (Value.ref b :: argsL).toArray) :
    (∃ (v : Option Value) (vm₁ : Vm) (B : Pt), s.WarmedH vm₁ ∧ Stand p l e R s m args below meth c B.U B.locs B.cells B.slots ∧ Post ⟨T.setVm vm₁, locs, cells, slots⟩ (Value.ref b :: argsL).toArray v B ∧
      ∀ target, Steps p.tables e below (B.U.setTop { g with pc := g.pc + 3, stack := v.toList ++ rest }) target → Steps p.tables e below (T.setTop g) target) ∨
    (∃ (q : Addr) (vm₁ : Vm) (B : Pt), s.WarmedH vm₁ ∧ Stand p l e R s m args below meth c B.U B.locs B.cells B.slots ∧ PostX ⟨T.setVm vm₁, locs, cells, slots⟩ (Value.ref b :: argsL).toArray q B ∧
      Steps p.tables e below (T.setTop g) ((B.U.setTop { g with stack := rest }).pushFrame (.throwing q))) := by
  obtain ⟨mk, methM, hnamed, hmethM, hstM, habM⟩ := Cond.instanceMethod_spec hinst
  obtain ⟨methM', cM, hmethM', -, -, -, -, -, -, hsigM⟩ := Cond.code_spec hnamed hcode
  cases hmethM.symm.trans hmethM'
  obtain ⟨c2, r2, m2, q1, q2, q3, q4, kP, hkP, hkPi⟩ := Cond.selects_spec hsel
  cases hcls.symm.trans q1
  cases (State.methodFound?_of_named hnamed hy).symm.trans q2
  cases hnamed.symm.trans q3
  have hselP : selectMethod e.platform s.vm cellB.cls mk = .method mk := by rw [Launch.admits_selectMethod X.admits]; exact q4
  obtain ⟨vm₁, X₁, hstep₁⟩ := X.invokevirtual hexec hown hlink hnamed hmethM hstM hkP hkPi hy (a := b) (cell := cellB) hcell
    (fun z h => by rw [h] at hobj; cases hobj) hselP hmethM habM hkP hkPi (g := g) hg (argsL := argsL) (rest := rest) (hlen _ hsigM) hstack hdg
  rcases hK m meth c ⟨T.setVm vm₁, locs, cells, slots⟩ { g with stack := rest } (.invokevirtual index) mk (Value.ref b :: argsL).toArray X₁ hg hsize hdg hW (X₁.named hnamed) (hpre vm₁ X₁.warmed) with ⟨v, B, X', hpost, hsteps⟩ | ⟨q, B, X', hpost, hsteps⟩
  · exact Or.inl ⟨v, vm₁, B, X₁.warmed, X', hpost, fun target h => hstep₁ _ fun acts => by rw [doInvoke_state]; exact hsteps.trans h⟩
  · exact Or.inr ⟨q, vm₁, B, X₁.warmed, X', hpost, hstep₁ _ fun acts => by rw [doInvoke_state]; exact hsteps⟩
theorem vx_callS (X : Stand p l e R s m args below meth c T locs cells slots) (hexec : p.tables.exec = Jvm.exec) {own : String} {index : Nat} {y : MethodName} {bytes : ByteArray} {maxL : Nat} {ret : Option FieldType}
    (hown : s.vm.findClass own = some m.cls) (hlink : (Cond.methodLink own index y).before args s = true) (hstat : (Cond.static y).before args s = true) (hinit : (Cond.initialized y.cls).before args s = true)
    (hcode : (Cond.code y bytes maxL ret).before args s = true) (hy : y.cls ≠ "java/lang/invoke/MethodHandle" ∧ y.cls ≠ "java/lang/invoke/VarHandle")
    {W9 : Nat} {Pre : Pt → Array Value → Prop} {Post : Pt → Array Value → Option Value → Pt → Prop} {PostX : Pt → Array Value → Addr → Pt → Prop} (hK : vx_Back l R p e below s args y 3 W9 Pre Post PostX)
    {g : JFrame} (hg : g.method = m) (hsize : g.locals.size = c.maxLocals) {argsL rest : List Value} (hlen : ∀ sig, parseMethodDescriptor y.desc = some sig → argsL.length = sig.parameters.length)
    (hstack : g.stack = argsL.reverse ++ rest) (hW : 2 * g.monitorRoom + (rest.map fun v => v.category).sum ≤ W9) (hdg : decode c.code g.pc = .ok (.invokestatic index, 3))
    (hpre : ∀ vm₁, s.WarmedH vm₁ → Pre ⟨T.setVm vm₁, locs, cells, slots⟩ argsL.toArray) :
    (∃ (v : Option Value) (vm₁ : Vm) (B : Pt), s.WarmedH vm₁ ∧ Stand p l e R s m args below meth c B.U B.locs B.cells B.slots ∧ Post ⟨T.setVm vm₁, locs, cells, slots⟩ argsL.toArray v B ∧
      ∀ target, Steps p.tables e below (B.U.setTop { g with pc := g.pc + 3, stack := v.toList ++ rest }) target → Steps p.tables e below (T.setTop g) target) ∨
    (∃ (q : Addr) (vm₁ : Vm) (B : Pt), s.WarmedH vm₁ ∧ Stand p l e R s m args below meth c B.U B.locs B.cells B.slots ∧ PostX ⟨T.setVm vm₁, locs, cells, slots⟩ argsL.toArray q B ∧
      Steps p.tables e below (T.setTop g) ((B.U.setTop { g with stack := rest }).pushFrame (.throwing q))) := by
  obtain ⟨mk, hnamed⟩ := Cond.code_named hcode
  obtain ⟨methM, cM, hmethM, -, -, -, -, -, -, hsigM⟩ := Cond.code_spec hnamed hcode
  have hstatic : methM.isStatic = true := Cond.static_spec hnamed hmethM hstat
  obtain ⟨kP, hkP, -⟩ := className_of_methodNamed hnamed
  have hinitP : kP.init = .initialized := Cond.initialized_spec (findClass_of_methodNamed hnamed) hkP hinit
  obtain ⟨vm₁, X₁, hstep₁⟩ := X.invokestatic hexec hown hlink hnamed hmethM hstatic hkP hinitP hy (g := g) hg (argsL := argsL) (rest := rest) (hlen _ hsigM) hstack hdg
  rcases hK m meth c ⟨T.setVm vm₁, locs, cells, slots⟩ { g with stack := rest } (.invokestatic index) mk argsL.toArray X₁ hg hsize hdg hW (X₁.named hnamed) (hpre vm₁ X₁.warmed) with ⟨v, B, X', hpost, hsteps⟩ | ⟨q, B, X', hpost, hsteps⟩
  · exact Or.inl ⟨v, vm₁, B, X₁.warmed, X', hpost, fun target h => hstep₁ _ fun acts => by rw [doInvoke_state]; exact hsteps.trans h⟩
  · exact Or.inr ⟨q, vm₁, B, X₁.warmed, X', hpost, hstep₁ _ fun acts => by rw [doInvoke_state]; exact hsteps⟩
end Calls
theorem vx_cls {s : State} {T : State} {vm₁ : Vm} {E : String} {k : ClassId} (hW : s.WarmedH vm₁) (h : (T.setVm vm₁).vm.findClass E = some k) : s.vm.findClass E = some k := by
  have h1 : vm₁.findClass E = some k := h
  rw [hW.alike.findClass] at h1
  exact h1
/-- the method's frame g, with q thrown over it -/
def vx_W (p : Program) (l : Launch) (e : Env) (R : Room) (s : State) (m : MethodId) (args : Array Value) (below : List Frame) (meth : Method) (c : Code) (H : Heap) (locs : List Loc) (cells slots : Nat) (Q : State → Prop) (g : JFrame) (q : Addr) : Prop :=
  ∀ T : State, T.heap = H → Stand p l e R s m args below meth c T locs cells slots → ∃ t, Steps p.tables e below ((T.setTop g).pushFrame (.throwing q)) t ∧ Q t
def vx_Run (p : Program) (l : Launch) (e : Env) (R : Room) (s : State) (m : MethodId) (args : Array Value) (below : List Frame) (meth : Method) (c : Code) (H : Heap) (locs : List Loc) (cells slots mc ms : Nat) (g : JFrame) (rest : List Value) (Qa : State → Outcome → State → Prop) (XC : String → State → State → Prop) (free : Addr → Prop) : Prop :=
  ∀ T : State, T.heap = H → Stand p l e R s m args below meth c T locs cells slots →
    (∃ (v : Option Value) (st₀ t T' : State) (L : List Loc), st₀.heap = H ∧ Stand p l e R s m args below meth c T' (locs ++ L) (cells + mc) (slots + ms) ∧ (∀ q ∈ L, free q.base) ∧ T'.heap = t.heap ∧ T'.vm = t.vm ∧ Qa st₀ (.returned v) t ∧
      Goes p e below T g T' { g with pc := g.pc + 3, stack := v.toList ++ rest }) ∨
    (∃ (q : Addr) (st₀ t T' : State) (L : List Loc) (E : String) (ce : Cell), st₀.heap = H ∧ Stand p l e R s m args below meth c T' (locs ++ L) (cells + mc) (slots + ms) ∧ (∀ z ∈ L, free z.base) ∧ T'.heap = t.heap ∧ T'.vm = t.vm ∧ XC E st₀ t ∧ t.heap[q]? = some ce ∧ ce.vm = .none ∧ s.vm.findClass E = some ce.cls ∧
      Steps p.tables e below (T.setTop g) ((T'.setTop { g with stack := rest }).pushFrame (.throwing q)))
def vx_X {S : Type} (px : S → Prop) (B : String → S → State → Prop) (A : Nat → Prop) : String → State → State → Prop := fun E st t => ∃ u : S, px u ∧ B E u t ∧ va_F A st t
section Runs
variable {p : Program} {l : Launch} {e : Env} {R : Room} {s : State} {m : MethodId} {args : Array Value} {below : List Frame} {meth : Method} {c : Code} {H : Heap} {locs : List Loc} {cells slots : Nat}
variable {y : MethodName} {bytes cc : ByteArray} {maxL nL mc ms n index : Nat} {ret : Option FieldType} {ws : List Cond} {rm : Room} {Pc : Array Value → State → Prop} {Qc : Array Value → State → Outcome → State → Prop} {XC : String → State → State → Prop} {free : Addr → Prop} {Ts : List Cond} {own C : String} {b : Addr} {As rest : List Value} {g : JFrame}
theorem vx_callBack (cb : CallB R s args own index y bytes maxL ret ws rm mc ms n) (hM : vx_Met l y ws rm Pc Qc XC mc ms free) (hbl : FrameBlind Pc) : vx_Back l R p e below s args y 3 8 (PreOf R mc ms Pc) (PostOf Qc mc ms free) (vx_Post XC mc ms free) := by
  obtain ⟨hrc, hrs, hfr, hlo, hws, hcw, -, hini, -⟩ := cb
  exact vx_back (bytes := bytes) (maxL := maxL) (ret := ret) hM hbl hrc hrs hfr hlo hws hcw (fun a' U hW => word_at hW (Or.inl (by first | rfl | simp [Cond.onTables, Cond.keeps, Cond.steady])) hini)
theorem vx_runV (S : CallFix p m c cc nL s args Ts own) (hM : vx_Met l y ws rm Pc Qc XC mc ms free) (cw : CallW R s args own C index y bytes maxL ret ws rm mc ms n) (hp : PreV s H C b Pc As)
    (hg : g.method = m) (hn : As.length = n) (hsize : g.locals.size = nL) (hstack : g.stack = As.reverse ++ .ref b :: rest) (hW : 2 * g.monitorRoom + (rest.map fun v => v.category).sum ≤ 8) (hdg : decode cc g.pc = .ok (.invokevirtual index, 3)) (hf : cells + mc ≤ R.cells ∧ slots + ms ≤ R.slots) :
    vx_Run p l e R s m args below meth c H locs cells slots mc ms g rest (Qc (Value.ref b :: As).toArray) XC free := by
  have hK : vx_Back l R p e below s args y 3 8 (PreOf R mc ms Pc) (PostOf Qc mc ms free) (vx_Post XC mc ms free) := vx_callBack cw.1 hM hp.1
  obtain ⟨⟨-, -, -, -, -, -, hcode, -, hy, hlen, hl⟩, hin, hse⟩ := cw
  obtain ⟨hx, hb, hml, ho, -⟩ := S
  obtain ⟨-, ⟨cellB, hcB, hoB, hclB⟩, hPc⟩ := hp
  intro T hT X
  rcases vx_callV X hx (C := C) (bytes := bytes) (maxL := maxL) (ret := ret) ho hl hin hse hcode hy hK (by rw [hT]; exact hcB) hoB hclB hg (hsize.trans hml.symm) (argsL := As) (rest := rest) (fun sig h => hn.trans (hlen sig h)) hstack hW (by rw [hb]; exact hdg)
    (fun vm₁ hW₁ => ⟨hf.1, hf.2, hPc (T.setVm vm₁) hT hW₁⟩) with ⟨v, vm₁, ⟨U', l2, c2, s2⟩, hW₁, X', ⟨g', mk, t, L, e1, e2, hq, h1, hL, h2, h3⟩, st⟩ | ⟨q, vm₁, ⟨U', l2, c2, s2⟩, hW₁, X', ⟨g', mk, t, L, E, ce, e1, e2, hq, hce, hcv, hcl, h1, hL, h2, h3⟩, st⟩
  · dsimp only [Pt.U, Pt.locs, Pt.cells, Pt.slots] at X' e1 e2 h1 h2 h3 st
    subst h1; subst h2; subst h3
    exact Or.inl ⟨v, (T.setVm vm₁).calling g' mk (Value.ref b :: As).toArray, t, U', L, hT, X', hL, e1, e2, hq, st⟩
  · dsimp only [Pt.U, Pt.locs, Pt.cells, Pt.slots] at X' e1 e2 h1 h2 h3 st hcl
    subst h1; subst h2; subst h3
    exact Or.inr ⟨q, (T.setVm vm₁).calling g' mk (Value.ref b :: As).toArray, t, U', L, E, ce, hT, X', hL, e1, e2, hq, hce, hcv, vx_cls hW₁ hcl, st⟩
theorem vx_runS (S : CallFix p m c cc nL s args Ts own) (hM : vx_Met l y ws rm Pc Qc XC mc ms free) (cw : CallB R s args own index y bytes maxL ret ws rm mc ms n ∧ (Cond.static y).before args s = true) (hp : PreS s H Pc As)
    (hg : g.method = m) (hn : As.length = n) (hsize : g.locals.size = nL) (hstack : g.stack = As.reverse ++ rest) (hW : 2 * g.monitorRoom + (rest.map fun v => v.category).sum ≤ 8) (hdg : decode cc g.pc = .ok (.invokestatic index, 3)) (hf : cells + mc ≤ R.cells ∧ slots + ms ≤ R.slots) :
    vx_Run p l e R s m args below meth c H locs cells slots mc ms g rest (Qc As.toArray) XC free := by
  have hK : vx_Back l R p e below s args y 3 8 (PreOf R mc ms Pc) (PostOf Qc mc ms free) (vx_Post XC mc ms free) := vx_callBack cw.1 hM hp.1
  obtain ⟨⟨-, -, -, -, -, -, hcode, hini, hy, hlen, hl⟩, hstt⟩ := cw
  obtain ⟨hx, hb, hml, ho, -⟩ := S
  intro T hT X
  rcases vx_callS X hx (bytes := bytes) (maxL := maxL) (ret := ret) ho hl hstt hini hcode hy hK hg (hsize.trans hml.symm) (argsL := As) (rest := rest) (fun sig h => hn.trans (hlen sig h)) hstack hW (by rw [hb]; exact hdg)
    (fun vm₁ hW₁ => ⟨hf.1, hf.2, hp.2 (T.setVm vm₁) hT hW₁⟩) with ⟨v, vm₁, ⟨U', l2, c2, s2⟩, hW₁, X', ⟨g', mk, t, L, e1, e2, hq, h1, hL, h2, h3⟩, st⟩ | ⟨q, vm₁, ⟨U', l2, c2, s2⟩, hW₁, X', ⟨g', mk, t, L, E, ce, e1, e2, hq, hce, hcv, hcl, h1, hL, h2, h3⟩, st⟩
  · dsimp only [Pt.U, Pt.locs, Pt.cells, Pt.slots] at X' e1 e2 h1 h2 h3 st
    subst h1; subst h2; subst h3
    exact Or.inl ⟨v, (T.setVm vm₁).calling g' mk As.toArray, t, U', L, hT, X', hL, e1, e2, hq, st⟩
  · dsimp only [Pt.U, Pt.locs, Pt.cells, Pt.slots] at X' e1 e2 h1 h2 h3 st hcl
    subst h1; subst h2; subst h3
    exact Or.inr ⟨q, (T.setVm vm₁).calling g' mk As.toArray, t, U', L, E, ce, hT, X', hL, e1, e2, hq, hce, hcv, vx_cls hW₁ hcl, st⟩
end Runs
section Rows
variable {p : Program} {l : Launch} {e : Env} {R : Room} {s : State} {m : MethodId} {args : Array Value} {below : List Frame} {meth : Method} {c : Code} {H : Heap} {locs : List Loc} {cells slots : Nat} {Q : State → Prop}
variable {mc ms : Nat} {free : Addr → Prop} {A0 A1 : Nat → Prop} {H0 : Heap} {a : Array Value} {pc : Nat} {ls : Array Slot} {st0 rest : List Value}
theorem vx_keep {st₀ t T' : State} {L : List Loc} (h0 : st₀.heap = H) (e1 : T'.heap = t.heap) (hS : va_S A0 H0 H locs) (hA : ∀ q, q < H.size → A1 q → A0 q) (hf : ∀ q, free q → A0 q) (hL : ∀ q ∈ L, free q.base) (hF : va_F A1 st₀ t) :
    H.size ≤ T'.heap.size ∧ (∀ q : Nat, q < H.size → ¬ A1 q → T'.heap[q]? = H[q]?) ∧ va_S A0 H0 T'.heap (locs ++ L) := by
  obtain ⟨hz, hk⟩ := hF
  rw [h0] at hz hk
  exact ⟨by rw [e1]; exact hz, fun q h1 h2 => by rw [e1]; exact hk q h1 h2,
    ⟨Nat.le_trans hS.1 (by rw [e1]; exact hz), fun q h1 h2 => by rw [e1, hk q (Nat.lt_of_lt_of_le h1 hS.1) (fun z => h2 (hA q (Nat.lt_of_lt_of_le h1 hS.1) z))]; exact hS.2.1 q h1 h2, fun q hq => by
      rcases List.mem_append.mp hq with h | h
      · exact hS.2.2 q h
      · exact hf _ (hL q h)⟩⟩
theorem vx_calli {S SX : Type} {post : Int32 → S → Prop} {px : SX → Prop} {B : S → State → Prop} {BX : String → SX → State → Prop} {AX : Nat → Prop} (hr : vx_Run p l e R s m args below meth c H locs cells slots mc ms (F0 m pc ls st0) rest (va_Qi post B A1 a) (vx_X px BX AX) free) (hS : va_S A0 H0 H locs) (hA : ∀ q, q < H.size → A1 q → A0 q) (hf : ∀ q, free q → A0 q) (hAX : ∀ q, q < H.size → AX q → A0 q)
    (kx : ∀ (E : String) (ce : Cell) (q9 : Addr) (u : SX) (t : State) (H1 : Heap) (locs1 : List Loc), t.heap = H1 → s.vm.Alike t.vm → px u → BX E u t → H.size ≤ H1.size → (∀ q : Nat, q < H.size → ¬ AX q → H1[q]? = H[q]?) → va_S A0 H0 H1 locs1 → H1[q9]? = some ce → ce.vm = .none → s.vm.findClass E = some ce.cls → vx_W p l e R s m args below meth c H1 locs1 (cells + mc) (slots + ms) Q (F0 m pc ls rest) q9)
    (kk : ∀ (r : Int32) (u : S) (t : State) (H1 : Heap) (locs1 : List Loc), t.heap = H1 → s.vm.Alike t.vm → post r u → B u t → H.size ≤ H1.size → (∀ q : Nat, q < H.size → ¬ A1 q → H1[q]? = H[q]?) → va_S A0 H0 H1 locs1 → W p l e R s m args below meth c H1 locs1 (cells + mc) (slots + ms) Q (F0 m (pc + 3) ls (.int r :: rest))) : W p l e R s m args below meth c H locs cells slots Q (F0 m pc ls st0) := by
  intro T hT X
  rcases hr T hT X with ⟨v, st₀, t, T', L, h0, X', hL, e1, e2, ⟨⟨r, u, hv, hp, hb⟩, hF⟩, st⟩ | ⟨q, st₀, t, T', L, E, ce, h0, X', hL, e1, e2, ⟨u, hp, hb, hF⟩, hce, hcv, hcl, st⟩
  · cases hv
    obtain ⟨k1, k2, k3⟩ := vx_keep h0 e1 hS hA hf hL hF
    obtain ⟨t2, a1, b1⟩ := kk r u t T'.heap (locs ++ L) e1.symm (by rw [← e2]; exact X'.warmed.alike) hp hb k1 k2 k3 T' rfl X'
    exact ⟨t2, st t2 a1, b1⟩
  · obtain ⟨k1, k2, k3⟩ := vx_keep h0 e1 hS hAX hf hL hF
    obtain ⟨t2, a1, b1⟩ := kx E ce q u t T'.heap (locs ++ L) e1.symm (by rw [← e2]; exact X'.warmed.alike) hp hb k1 k2 k3 (by rw [e1]; exact hce) hcv hcl T' rfl X'
    exact ⟨t2, st.trans a1, b1⟩
theorem vx_calll {S SX : Type} {post : Int64 → S → Prop} {px : SX → Prop} {B : S → State → Prop} {BX : String → SX → State → Prop} {AX : Nat → Prop} (hr : vx_Run p l e R s m args below meth c H locs cells slots mc ms (F0 m pc ls st0) rest (va_Ql post B A1 a) (vx_X px BX AX) free) (hS : va_S A0 H0 H locs) (hA : ∀ q, q < H.size → A1 q → A0 q) (hf : ∀ q, free q → A0 q) (hAX : ∀ q, q < H.size → AX q → A0 q)
    (kx : ∀ (E : String) (ce : Cell) (q9 : Addr) (u : SX) (t : State) (H1 : Heap) (locs1 : List Loc), t.heap = H1 → s.vm.Alike t.vm → px u → BX E u t → H.size ≤ H1.size → (∀ q : Nat, q < H.size → ¬ AX q → H1[q]? = H[q]?) → va_S A0 H0 H1 locs1 → H1[q9]? = some ce → ce.vm = .none → s.vm.findClass E = some ce.cls → vx_W p l e R s m args below meth c H1 locs1 (cells + mc) (slots + ms) Q (F0 m pc ls rest) q9)
    (kk : ∀ (r : Int64) (u : S) (t : State) (H1 : Heap) (locs1 : List Loc), t.heap = H1 → s.vm.Alike t.vm → post r u → B u t → H.size ≤ H1.size → (∀ q : Nat, q < H.size → ¬ A1 q → H1[q]? = H[q]?) → va_S A0 H0 H1 locs1 → W p l e R s m args below meth c H1 locs1 (cells + mc) (slots + ms) Q (F0 m (pc + 3) ls (.long r :: rest))) : W p l e R s m args below meth c H locs cells slots Q (F0 m pc ls st0) := by
  intro T hT X
  rcases hr T hT X with ⟨v, st₀, t, T', L, h0, X', hL, e1, e2, ⟨⟨r, u, hv, hp, hb⟩, hF⟩, st⟩ | ⟨q, st₀, t, T', L, E, ce, h0, X', hL, e1, e2, ⟨u, hp, hb, hF⟩, hce, hcv, hcl, st⟩
  · cases hv
    obtain ⟨k1, k2, k3⟩ := vx_keep h0 e1 hS hA hf hL hF
    obtain ⟨t2, a1, b1⟩ := kk r u t T'.heap (locs ++ L) e1.symm (by rw [← e2]; exact X'.warmed.alike) hp hb k1 k2 k3 T' rfl X'
    exact ⟨t2, st t2 a1, b1⟩
  · obtain ⟨k1, k2, k3⟩ := vx_keep h0 e1 hS hAX hf hL hF
    obtain ⟨t2, a1, b1⟩ := kx E ce q u t T'.heap (locs ++ L) e1.symm (by rw [← e2]; exact X'.warmed.alike) hp hb k1 k2 k3 (by rw [e1]; exact hce) hcv hcl T' rfl X'
    exact ⟨t2, st.trans a1, b1⟩
theorem vx_callf {S SX : Type} {post : UInt32 → S → Prop} {px : SX → Prop} {B : S → State → Prop} {BX : String → SX → State → Prop} {AX : Nat → Prop} (hr : vx_Run p l e R s m args below meth c H locs cells slots mc ms (F0 m pc ls st0) rest (va_Qf post B A1 a) (vx_X px BX AX) free) (hS : va_S A0 H0 H locs) (hA : ∀ q, q < H.size → A1 q → A0 q) (hf : ∀ q, free q → A0 q) (hAX : ∀ q, q < H.size → AX q → A0 q)
    (kx : ∀ (E : String) (ce : Cell) (q9 : Addr) (u : SX) (t : State) (H1 : Heap) (locs1 : List Loc), t.heap = H1 → s.vm.Alike t.vm → px u → BX E u t → H.size ≤ H1.size → (∀ q : Nat, q < H.size → ¬ AX q → H1[q]? = H[q]?) → va_S A0 H0 H1 locs1 → H1[q9]? = some ce → ce.vm = .none → s.vm.findClass E = some ce.cls → vx_W p l e R s m args below meth c H1 locs1 (cells + mc) (slots + ms) Q (F0 m pc ls rest) q9)
    (kk : ∀ (r : UInt32) (u : S) (t : State) (H1 : Heap) (locs1 : List Loc), t.heap = H1 → s.vm.Alike t.vm → post r u → B u t → H.size ≤ H1.size → (∀ q : Nat, q < H.size → ¬ A1 q → H1[q]? = H[q]?) → va_S A0 H0 H1 locs1 → W p l e R s m args below meth c H1 locs1 (cells + mc) (slots + ms) Q (F0 m (pc + 3) ls (.float r :: rest))) : W p l e R s m args below meth c H locs cells slots Q (F0 m pc ls st0) := by
  intro T hT X
  rcases hr T hT X with ⟨v, st₀, t, T', L, h0, X', hL, e1, e2, ⟨⟨r, u, hv, hp, hb⟩, hF⟩, st⟩ | ⟨q, st₀, t, T', L, E, ce, h0, X', hL, e1, e2, ⟨u, hp, hb, hF⟩, hce, hcv, hcl, st⟩
  · cases hv
    obtain ⟨k1, k2, k3⟩ := vx_keep h0 e1 hS hA hf hL hF
    obtain ⟨t2, a1, b1⟩ := kk r u t T'.heap (locs ++ L) e1.symm (by rw [← e2]; exact X'.warmed.alike) hp hb k1 k2 k3 T' rfl X'
    exact ⟨t2, st t2 a1, b1⟩
  · obtain ⟨k1, k2, k3⟩ := vx_keep h0 e1 hS hAX hf hL hF
    obtain ⟨t2, a1, b1⟩ := kx E ce q u t T'.heap (locs ++ L) e1.symm (by rw [← e2]; exact X'.warmed.alike) hp hb k1 k2 k3 (by rw [e1]; exact hce) hcv hcl T' rfl X'
    exact ⟨t2, st.trans a1, b1⟩
theorem vx_calld {S SX : Type} {post : UInt64 → S → Prop} {px : SX → Prop} {B : S → State → Prop} {BX : String → SX → State → Prop} {AX : Nat → Prop} (hr : vx_Run p l e R s m args below meth c H locs cells slots mc ms (F0 m pc ls st0) rest (va_Qd post B A1 a) (vx_X px BX AX) free) (hS : va_S A0 H0 H locs) (hA : ∀ q, q < H.size → A1 q → A0 q) (hf : ∀ q, free q → A0 q) (hAX : ∀ q, q < H.size → AX q → A0 q)
    (kx : ∀ (E : String) (ce : Cell) (q9 : Addr) (u : SX) (t : State) (H1 : Heap) (locs1 : List Loc), t.heap = H1 → s.vm.Alike t.vm → px u → BX E u t → H.size ≤ H1.size → (∀ q : Nat, q < H.size → ¬ AX q → H1[q]? = H[q]?) → va_S A0 H0 H1 locs1 → H1[q9]? = some ce → ce.vm = .none → s.vm.findClass E = some ce.cls → vx_W p l e R s m args below meth c H1 locs1 (cells + mc) (slots + ms) Q (F0 m pc ls rest) q9)
    (kk : ∀ (r : UInt64) (u : S) (t : State) (H1 : Heap) (locs1 : List Loc), t.heap = H1 → s.vm.Alike t.vm → post r u → B u t → H.size ≤ H1.size → (∀ q : Nat, q < H.size → ¬ A1 q → H1[q]? = H[q]?) → va_S A0 H0 H1 locs1 → W p l e R s m args below meth c H1 locs1 (cells + mc) (slots + ms) Q (F0 m (pc + 3) ls (.double r :: rest))) : W p l e R s m args below meth c H locs cells slots Q (F0 m pc ls st0) := by
  intro T hT X
  rcases hr T hT X with ⟨v, st₀, t, T', L, h0, X', hL, e1, e2, ⟨⟨r, u, hv, hp, hb⟩, hF⟩, st⟩ | ⟨q, st₀, t, T', L, E, ce, h0, X', hL, e1, e2, ⟨u, hp, hb, hF⟩, hce, hcv, hcl, st⟩
  · cases hv
    obtain ⟨k1, k2, k3⟩ := vx_keep h0 e1 hS hA hf hL hF
    obtain ⟨t2, a1, b1⟩ := kk r u t T'.heap (locs ++ L) e1.symm (by rw [← e2]; exact X'.warmed.alike) hp hb k1 k2 k3 T' rfl X'
    exact ⟨t2, st t2 a1, b1⟩
  · obtain ⟨k1, k2, k3⟩ := vx_keep h0 e1 hS hAX hf hL hF
    obtain ⟨t2, a1, b1⟩ := kx E ce q u t T'.heap (locs ++ L) e1.symm (by rw [← e2]; exact X'.warmed.alike) hp hb k1 k2 k3 (by rw [e1]; exact hce) hcv hcl T' rfl X'
    exact ⟨t2, st.trans a1, b1⟩
theorem vx_callv {S SX : Type} {post : S → Prop} {px : SX → Prop} {B : S → State → Prop} {BX : String → SX → State → Prop} {AX : Nat → Prop} (hr : vx_Run p l e R s m args below meth c H locs cells slots mc ms (F0 m pc ls st0) rest (va_Qv post B A1 a) (vx_X px BX AX) free) (hS : va_S A0 H0 H locs) (hA : ∀ q, q < H.size → A1 q → A0 q) (hf : ∀ q, free q → A0 q) (hAX : ∀ q, q < H.size → AX q → A0 q)
    (kx : ∀ (E : String) (ce : Cell) (q9 : Addr) (u : SX) (t : State) (H1 : Heap) (locs1 : List Loc), t.heap = H1 → s.vm.Alike t.vm → px u → BX E u t → H.size ≤ H1.size → (∀ q : Nat, q < H.size → ¬ AX q → H1[q]? = H[q]?) → va_S A0 H0 H1 locs1 → H1[q9]? = some ce → ce.vm = .none → s.vm.findClass E = some ce.cls → vx_W p l e R s m args below meth c H1 locs1 (cells + mc) (slots + ms) Q (F0 m pc ls rest) q9)
    (kk : ∀ (u : S) (t : State) (H1 : Heap) (locs1 : List Loc), t.heap = H1 → s.vm.Alike t.vm → post u → B u t → H.size ≤ H1.size → (∀ q : Nat, q < H.size → ¬ A1 q → H1[q]? = H[q]?) → va_S A0 H0 H1 locs1 → W p l e R s m args below meth c H1 locs1 (cells + mc) (slots + ms) Q (F0 m (pc + 3) ls (rest))) : W p l e R s m args below meth c H locs cells slots Q (F0 m pc ls st0) := by
  intro T hT X
  rcases hr T hT X with ⟨v, st₀, t, T', L, h0, X', hL, e1, e2, ⟨⟨u, hv, hp, hb⟩, hF⟩, st⟩ | ⟨q, st₀, t, T', L, E, ce, h0, X', hL, e1, e2, ⟨u, hp, hb, hF⟩, hce, hcv, hcl, st⟩
  · cases hv
    obtain ⟨k1, k2, k3⟩ := vx_keep h0 e1 hS hA hf hL hF
    obtain ⟨t2, a1, b1⟩ := kk u t T'.heap (locs ++ L) e1.symm (by rw [← e2]; exact X'.warmed.alike) hp hb k1 k2 k3 T' rfl X'
    exact ⟨t2, st t2 a1, b1⟩
  · obtain ⟨k1, k2, k3⟩ := vx_keep h0 e1 hS hAX hf hL hF
    obtain ⟨t2, a1, b1⟩ := kx E ce q u t T'.heap (locs ++ L) e1.symm (by rw [← e2]; exact X'.warmed.alike) hp hb k1 k2 k3 (by rw [e1]; exact hce) hcv hcl T' rfl X'
    exact ⟨t2, st.trans a1, b1⟩
/-- caught by the row x of this method's table; the rows ahead don't take it -/
theorem vx_catch {own name : String} {E : String} {ce : Cell} {q : Addr} (hown : s.vm.findClass own = some m.cls) (pre : List ExceptionTableEntry) (x : ExceptionTableEntry) (suf : List ExceptionTableEntry) (hsplit : c.exceptionTable.toList = pre ++ x :: suf)
    (hpass : ∀ z ∈ pre, covers z pc = false ∨ (z.catchType ≠ 0 ∧ ∃ nm : String, (Cond.classLink own z.catchType nm).before args s = true ∧ va_Nc E nm s)) (hx : covers x pc = true) (h0 : x.catchType ≠ 0)
    (hlink : (Cond.classLink own x.catchType name).before args s = true) (hcast : (Cond.castable E name).before args s = true) (hcell : H[q]? = some ce) (hv : ce.vm = .none) (hcl : s.vm.findClass E = some ce.cls)
    (kk : W p l e R s m args below meth c H locs cells slots Q (F0 m x.handlerPc ls [.ref q])) : vx_W p l e R s m args below meth c H locs cells slots Q (F0 m pc ls rest) q := by
  intro T hT X
  have hpl : e.platform.magicAccessors = ({} : Platform).magicAccessors := by rw [X.admits.platform]
  obtain ⟨c3, c4, hc3, hc4, hasg⟩ := Cond.castable_spec hcast
  cases Option.some.inj (hc3.symm.trans hcl)
  obtain ⟨c5, hc5, hcl5⟩ := Cond.classLink_spec hown hlink e.platform hpl
  cases Option.some.inj (hc4.symm.trans hc5)
  obtain ⟨vm', X', st⟩ := X.thenCaughtThrough q (g := F0 m pc ls rest) rfl (Steps.refl _) (by rw [hT]; exact hcell) (by rw [hv]; rfl) (by obtain ⟨k9, h9, -⟩ := Vm.findClass_spec hcl; exact ⟨k9, h9⟩) pre x suf hsplit
    (fun z hz => by
      rcases hpass z hz with h | ⟨hz0, nm, hl1, hn1⟩
      · exact Or.inl h
      · obtain ⟨c6, hc6, hcl6⟩ := Cond.classLink_spec hown hl1 e.platform hpl
        obtain ⟨a8, b8, h1, h2, h3⟩ := hn1
        cases Option.some.inj (h1.symm.trans hcl)
        cases Option.some.inj (h2.symm.trans hc6)
        exact Or.inr ⟨hz0, _, hcl6, h3⟩) hx (Or.inr ⟨h0, c4, hcl5, hasg⟩)
  obtain ⟨t, a1, b1⟩ := kk (T.setVm vm') hT X'
  exact ⟨t, st.trans a1, b1⟩
end Rows
section Ends
variable {p : Program} {l : Launch} {e : Env} {R : Room} {s : State} {m : MethodId} {args : Array Value} {below : List Frame} {meth : Method} {c : Code} {H : Heap} {locs : List Loc} {cells slots : Nat} {Q : State → Prop}
variable {mc ms : Nat} {free : Addr → Prop} {A0 A1 : Nat → Prop} {H0 : Heap} {a : Array Value} {ls : Array Slot} {st0 rest : List Value}
variable {Qc : Array Value → State → Outcome → State → Prop} {XC : String → State → State → Prop}
/-- what a body that may throw owes at its end -/
def vx_MQ (below : List Frame) (Qc : Array Value → State → Outcome → State → Prop) (XC : String → State → State → Prop) (a : Array Value) (s : State) (mc ms : Nat) (free : Addr → Prop) : State → Prop := fun t =>
  ∃ o, t.status = .running ∧ Ended t below o ∧ vx_Q Qc XC mc ms free a s o t
theorem vx_ret {g : JFrame} {mc ms : Nat} (k : W p l e R s m args below meth c H locs cells slots (MQ below Qc args s mc ms free) g) : W p l e R s m args below meth c H locs cells slots (vx_MQ below Qc XC args s mc ms free) g := by
  intro T hT X
  obtain ⟨t, a1, o, b1, b2, b3, b4⟩ := k T hT X
  exact ⟨t, a1, o, b1, b2, Or.inl ⟨b3, b4⟩⟩
/-- not caught here: it goes on to the caller -/
theorem vx_widen {g : JFrame} {q : Addr} {k n : Nat} (h1 : cells ≤ k) (h2 : slots ≤ n) (kk : vx_W p l e R s m args below meth c H locs k n Q g q) : vx_W p l e R s m args below meth c H locs cells slots Q g q := fun T hT X => kk T hT (stand_widen X h1 h2)
theorem vx_out {pc : Nat} {E : String} {ce : Cell} {q : Addr} {mc ms : Nat} (hout : ∀ x ∈ c.exceptionTable.toList, covers x pc = false) (hlocks : meth.locks = false) (hcell : H[q]? = some ce) (hv : ce.vm = .none) (hcl : s.vm.findClass E = some ce.cls)
    (hx : ∀ t : State, t.heap = H → s.vm.Alike t.vm → XC E s t) (hf : ∀ z ∈ locs, free z.base) (hc : cells ≤ mc) (hs : slots ≤ ms) :
    vx_W p l e R s m args below meth c H locs cells slots (vx_MQ below Qc XC args s mc ms free) (F0 m pc ls rest) q := by
  intro T hT X
  obtain ⟨st1, hrun, hend, hW, hsm⟩ := X.leaveThrown q (g := F0 m pc ls rest) rfl rfl rfl hout hlocks
  have hcell9 : (T.setFrames (.throwing q :: below)).heap[q]? = some ce := by
    show T.heap[q]? = some ce
    rw [hT]; exact hcell
  exact ⟨_, st1, .threw q, hrun, hend, Or.inr ⟨q, rfl, E, ce, locs, hx _ hT hW.alike, hcell9, hv, hcl, hW, hsm.mono hc hs, hf⟩⟩
theorem vx_frame {U : State} {k n : Nat} (h : s.sameButNew ({ U with vm := s.vm } : State) locs k n) : s.heap.size ≤ U.heap.size ∧ ∀ q : Nat, q < s.heap.size → (∀ z ∈ locs, z.base ≠ q) → U.heap[q]? = s.heap[q]? := by
  obtain ⟨-, h2, -, -, -, h6⟩ := h
  refine ⟨h2, fun q hq hz => ?_⟩
  obtain ⟨c9, e1, e2, e3, e4⟩ := h6 q _ (Array.getElem?_eq_getElem hq)
  have hs : c9.slots = (s.heap[q]).slots := Array.ext_getElem? fun i => e4 i fun hm => hz _ hm rfl
  have h9 : c9 = s.heap[q] := by
    rw [hs] at e2
    exact e2
  have e5 : U.heap[q]? = some c9 := e1
  rw [e5, h9, Array.getElem?_eq_getElem hq]
/-- the words of a throw but the four that speak of the heap -/
def vx_no (w : Cond) : Bool := decide (w ≠ .isRef (.static Bundle.tN "UNASSIGNED_STACK" Bundle.steD)) && decide (w ≠ .isRef (.static Bundle.tN "SUPPRESSED_SENTINEL" Bundle.listD)) && decide (w ≠ .laysStatic Bundle.tN "UNASSIGNED_STACK" Bundle.steD) && decide (w ≠ .laysStatic Bundle.tN "SUPPRESSED_SENTINEL" Bundle.listD)
def vx_at0 (own : String) (ic : Nat) (X : String) (names : List String) : List Cond := (Bundle.ownAtoms0 own ic X names).filter vx_no
def vx_atS (own : String) (ic : Nat) (X : String) (names : List String) : List Cond := (Bundle.ownAtoms own ic X names).filter vx_no
/-- a word that the tables alone decide, or a good one -/
def vx_ot (w : Cond) : Bool := w.onTables || goodWord w
theorem vx_ot_at {args a' : Array Value} {s U : State} {w : Cond} (hW : s.WarmedH U.vm) (hvm : s.vm = U.vm) (hg : vx_ot w = true) (h : w.before args s = true) : w.before a' U = true := by
  simp only [vx_ot, Bool.or_eq_true] at hg
  rcases hg with hg | hg
  · exact va_tabs hg hvm h
  · exact word_at hW (good_of_word hg) h
/-- a list's words: the good ones out of the method's own list, the others by premises of their own -/
theorem vx_hat {args : Array Value} {s : State} {L B : List Cond} (h1 : ∀ w ∈ L.filter goodWord, w.before args s = true) (h2 : ∀ w ∈ L.filter (fun w => !goodWord w), w ∈ B) (h3 : ∀ w ∈ B, w.before args s = true) : ∀ w ∈ L, w.before args s = true := by
  intro w hw
  by_cases g : goodWord w = true
  · exact h1 w (List.mem_filter.mpr ⟨hw, g⟩)
  · refine h3 w (h2 w (List.mem_filter.mpr ⟨hw, ?_⟩))
    show (!goodWord w) = true
    cases hgw : goodWord w
    · rfl
    · exact absurd hgw g
theorem vx_c {args : Array Value} {s : State} {w : Cond} {B : List Cond} (h : w.before args s = true) (t : ∀ w ∈ B, w.before args s = true) : ∀ w' ∈ w :: B, w'.before args s = true := fun w' h' => (List.mem_cons.mp h').elim (fun e => by rw [e]; exact h) (t w')
theorem vx_n {args : Array Value} {s : State} : ∀ w ∈ ([] : List Cond), w.before args s = true := fun _ h => nomatch h
theorem vx_own {args : Array Value} {s : State} {L : List Cond} (h1 : ∀ w ∈ L.filter vx_no, w.before args s = true)
    (hU : (Cond.isRef (.static Bundle.tN "UNASSIGNED_STACK" Bundle.steD)).before args s = true) (hN : (Cond.isRef (.static Bundle.tN "SUPPRESSED_SENTINEL" Bundle.listD)).before args s = true)
    (lU : (Cond.laysStatic Bundle.tN "UNASSIGNED_STACK" Bundle.steD).before args s = true) (lN : (Cond.laysStatic Bundle.tN "SUPPRESSED_SENTINEL" Bundle.listD).before args s = true) : ∀ w ∈ L, w.before args s = true := by
  intro w hw
  by_cases e1 : w = .isRef (.static Bundle.tN "UNASSIGNED_STACK" Bundle.steD)
  · rw [e1]; exact hU
  · by_cases e2 : w = .isRef (.static Bundle.tN "SUPPRESSED_SENTINEL" Bundle.listD)
    · rw [e2]; exact hN
    · by_cases e3 : w = .laysStatic Bundle.tN "UNASSIGNED_STACK" Bundle.steD
      · rw [e3]; exact lU
      · by_cases e4 : w = .laysStatic Bundle.tN "SUPPRESSED_SENTINEL" Bundle.listD
        · rw [e4]; exact lN
        · exact h1 w (List.mem_filter.mpr ⟨hw, by unfold vx_no; rw [decide_eq_true e1, decide_eq_true e2, decide_eq_true e3, decide_eq_true e4]; rfl⟩)
/-- where a static field lies, its class's statics cell in H -/
def vx_L (C n d : String) (A : Nat → Prop) (U : State) (H : Heap) : Prop := ∃ (c : ClassId) (k : Class) (i : Nat) (f : Field) (a : Nat) (cell : Cell), U.vm.findClass C = some c ∧ U.fieldFound? C n d = some (c, k, i, f) ∧ f.isStatic = true ∧ k.statics = some a ∧ H[a]? = some cell ∧ cell.vm.isStatics = true ∧ cell.cls = c ∧ f.slot < cell.slots.size ∧ k.staticTypes[f.slot]? = some f.type ∧ ¬ A a
theorem vx_L.moved {C n d : String} {A : Nat → Prop} {u U : State} {H : Heap} (hvm : u.vm.Alike U.vm) (h : vx_L C n d A u H) : vx_L C n d A U H := by
  obtain ⟨c, k, i, f, a, cell, h1, h2, h3, h4, h5, h6, h7, h8, h9, h10⟩ := h
  obtain ⟨k', hi', he⟩ := State.fieldFound?_setVm hvm h2
  exact ⟨c, k', i, f, a, cell, by rw [hvm.findClass]; exact h1, hi', h3, by rw [he]; exact h4, h5, h6, h7, h8, by rw [he]; exact h9, h10⟩
theorem vx_L.kept {C n d : String} {A : Nat → Prop} {U : State} {H H1 : Heap} (h : vx_L C n d A U H) (hq : ∀ a : Nat, a < H.size → ¬ A a → H1[a]? = H[a]?) : vx_L C n d A U H1 := by
  obtain ⟨c, k, i, f, a, cell, h1, h2, h3, h4, h5, h6, h7, h8, h9, h10⟩ := h
  exact ⟨c, k, i, f, a, cell, h1, h2, h3, h4, by rw [hq a (Array.getElem?_eq_some_iff.mp h5).1 h10]; exact h5, h6, h7, h8, h9, h10⟩
theorem vx_L.narrow {C n d : String} {A B : Nat → Prop} {U : State} {H : Heap} (h : vx_L C n d A U H) (hAB : ∀ q, B q → A q) : vx_L C n d B U H := by
  obtain ⟨c, k, i, f, a, cell, h1, h2, h3, h4, h5, h6, h7, h8, h9, h10⟩ := h
  exact ⟨c, k, i, f, a, cell, h1, h2, h3, h4, h5, h6, h7, h8, h9, fun z => h10 (hAB _ z)⟩
theorem vx_L.word {C n d : String} {A : Nat → Prop} {s : State} {args : Array Value} (h : vx_L C n d A s s.heap) : (Cond.laysStatic C n d).before args s = true := by
  obtain ⟨c, k, i, f, a, cell, h1, h2, h3, h4, h5, h6, h7, h8, h9, -⟩ := h
  show (Cond.laysStatic C n d).holds args s none s [] = true
  exact Cond.laysStatic_of h1 h2 h3 h4 h5 h6 h7 h8 h9
/-- .. and what it holds: null or some reference -/
def vx_Zq (C n d : String) (A : Nat → Prop) (U : State) (H : Heap) : Prop := va_Zq C n d A U H ∧ vx_L C n d A U H
theorem vx_Zq.moved {C n d : String} {A : Nat → Prop} {u U : State} {H : Heap} (hvm : u.vm.Alike U.vm) (h : vx_Zq C n d A u H) : vx_Zq C n d A U H := ⟨va_Zq.moved hvm h.1, vx_L.moved hvm h.2⟩
theorem vx_Zq.kept {C n d : String} {A : Nat → Prop} {U : State} {H H1 : Heap} (h : vx_Zq C n d A U H) (hq : ∀ a : Nat, a < H.size → ¬ A a → H1[a]? = H[a]?) : vx_Zq C n d A U H1 := ⟨va_Zq.kept h.1 hq, vx_L.kept h.2 hq⟩
theorem vx_Zq.narrow {C n d : String} {A B : Nat → Prop} {U : State} {H : Heap} (h : vx_Zq C n d A U H) (hAB : ∀ q, B q → A q) : vx_Zq C n d B U H := ⟨va_Zq.narrow h.1 hAB, vx_L.narrow h.2 hAB⟩
theorem vx_Zqof {args : Array Value} {s : State} {C n d : String} {A : Nat → Prop} (hl : (Cond.laysStatic C n d).before args s = true) (hini : (Cond.initialized C).before args s = true) (h : (Cond.isRef (.static C n d)).before args s = true) (hA : ∀ a : Nat, a < s.heap.size → ¬ A a) : vx_Zq C n d A s s.heap := by
  refine ⟨va_Zqof hl hini h hA, ?_⟩
  obtain ⟨c, k, i, f, a, cell, h1, h2, h3, h4, h5, h6, h7, h8, h9⟩ := Cond.laysStatic_spec hl
  exact ⟨c, k, i, f, a, cell, h1, h2, h3, h4, h5, h6, h7, h8, h9, hA a (Array.getElem?_eq_some_iff.mp h5).1⟩
theorem vx_isRef {C n d : String} {v : Value} {A : Nat → Prop} {s : State} {args : Array Value} (h : va_Z C n d v A s s.heap) (hv : v.isRef = true) : (Cond.isRef (.static C n d)).before args s = true := by
  obtain ⟨cf, kf, fi, f, a, cell, h1, h2, h3, h4, h5, h6, h7, -⟩ := h
  have he : (Term.static C n d).eval args s none [] s = some v := by
    simp [Term.eval, State.fieldNamed?, h1, h2, h4, h5, h6, h7]
  simp only [Cond.before, Cond.holds, Cond.value, he]
  cases v <;> simp_all [Value.isRef]
theorem vx_isRefq {C n d : String} {A : Nat → Prop} {s : State} {args : Array Value} (h : va_Zq C n d A s s.heap) : (Cond.isRef (.static C n d)).before args s = true := by
  rcases h with h | ⟨t, h⟩
  · exact vx_isRef h rfl
  · exact vx_isRef h rfl
/-- the same frame, seen from here: as if the method were called anew in this heap -/
theorem vx_rebase {T : State} (X : Stand p l e R s m args below meth c T locs cells slots) {R' : Room} (hf : R'.frames ≤ R.frames) (hl : R'.locals ≤ R.locals) (hc : cells + R'.cells ≤ R.cells) (hs : slots + R'.slots ≤ R.slots) :
    Stand p l e R' ((T.setVm s.vm).setFrames (.invoking m args :: below)) m args below meth c T [] 0 0 := by
  have htop : (T.setVm s.vm).topJava?.isSome := X.here.top
  have hF : ((T.setVm s.vm).setFrames (.invoking m args :: below)).frames = .invoking m args :: below := State.frames_setFrames _ (State.cur_lt_of_top htop)
  obtain ⟨g₀, hg0⟩ := Option.isSome_iff_exists.mp htop
  obtain ⟨r, hr⟩ := State.topJava?_eq_some.mp hg0
  have hl9 : e.platform.stackLimits (T.setVm s.vm).me = e.platform.stackLimits s.me := X.limits
  have hb9 : (T.setVm s.vm).me.stackBytes = s.me.stackBytes := X.bytes
  refine ⟨X.admits, X.cas, X.clock, hF, ?_, X.hears, X.method, X.code, X.here, X.tail, X.warmed, ?_, ?_, ?_⟩
  · have h := X.room
    have hU : ((T.setVm s.vm).setFrames (.invoking m args :: below)).localsInUse = s.localsInUse := by
      rw [State.localsInUse_invoking hF (meth := meth) (c := c) X.method X.code, State.localsInUse_invoking X.frames X.method X.code]
    simp only [State.hasRoom, Bool.and_eq_true, decide_eq_true_eq] at h ⊢
    obtain ⟨⟨⟨⟨h1, h2, h3, h4, h5, h6⟩, h7⟩, h8⟩, h9⟩ := h
    rw [X.frames, List.length_cons] at h2 h3
    have q1 := X.heapSize
    have q2 := X.used
    simp only [hF, hU, List.length_cons, State.stackLimits_setFrames, State.stackBytes_setFrames, hl9, hb9]
    refine ⟨⟨⟨⟨by omega, by omega, by omega, by omega, by omega, h6⟩, ?_⟩, ?_⟩, X.book⟩
    · show T.heap.size + R'.cells ≤ e.platform.maxCells
      omega
    · show T.slotsUsed + R'.slots ≤ e.platform.maxSlots
      omega
  · rw [State.stackLimits_setFrames]; rfl
  · rw [State.stackBytes_setFrames]; rfl
  · refine ⟨?_, Nat.le_refl _, Nat.le_refl _, ?_, ?_, fun a c9 h9 => ⟨c9, h9, rfl, rfl, fun _ _ => rfl⟩⟩
    · obtain ⟨t, ht, -⟩ := State.frames_cons hr
      show T.setVm s.vm = { ((T.setVm s.vm).setFrames (.invoking m args :: below)).setFrames (T.setVm s.vm).frames with heap := T.heap, slotsUsed := T.slotsUsed }
      rw [State.setFrames_setFrames, State.setFrames_self ht]
      rfl
    · show T.slotsUsed = T.slotsUsed + ((T.heap.toList.drop T.heap.size).map (·.slots.size)).sum
      rw [List.drop_eq_nil_of_le (Nat.le_of_eq Array.length_toList)]
      rfl
    · show ((T.heap.toList.drop T.heap.size).map (·.slots.size)).sum ≤ 0
      rw [List.drop_eq_nil_of_le (Nat.le_of_eq Array.length_toList)]
      exact Nat.le_refl _
/-- 'throw new E()': new; dup; invokespecial; athrow -/
theorem vx_throw0 {cc : ByteArray} {pc : Nat} (hexec : p.tables.exec = Jvm.exec) (hb : c.code = cc) (hl : l.stackTraces = false) {own cls : String} {names : List String} {ik ic mc ms : Nat} {A : Nat → Prop}
    (hown : s.vm.findClass own = some m.cls) (hcls : Bundle.fit cls = true) (hnames : ∀ n ∈ names, Bundle.fit n = true)
    (hk : (Cond.classLink own ik cls).before args s = true) (hini : (Cond.initialized cls).before args s = true) (hat : ∀ w ∈ vx_at0 own ic cls names, w.before args s = true)
    (hgood : ∀ w ∈ Cond.classLink own ik cls :: Cond.initialized cls :: vx_at0 own ic cls names, vx_ot w = true)
    (hU : vx_Zq Bundle.tN "UNASSIGNED_STACK" Bundle.steD A s s.heap) (hN : vx_Zq Bundle.tN "SUPPRESSED_SENTINEL" Bundle.listD A s s.heap) (hS : va_S A s.heap H locs) (hsize : ls.size = c.maxLocals)
    (d0 : decode cc pc = .ok (.new ik, 3)) (d3 : decode cc (pc + 3) = .ok (.dup, 1)) (d4 : decode cc (pc + 4) = .ok (.invokespecial ic, 3)) (d7 : decode cc (pc + 7) = .ok (.athrow, 1))
    (hout : ∀ x ∈ c.exceptionTable.toList, covers x (pc + 7) = false)
    (hRframes : names.length + 3 < R.frames) (hRlocals : (rest.map fun v => v.category).sum + (13 * (names.length + 1) + 42) ≤ R.locals) (hRcells : cells + 1 ≤ R.cells) (hRslots : slots + 6 ≤ R.slots) (hlocks : meth.locks = false)
    (hx : ∀ t : State, s.vm.Alike t.vm → H.size ≤ t.heap.size → (∀ q : Nat, q < H.size → t.heap[q]? = H[q]?) → XC cls s t)
    (hf : ∀ z ∈ locs, free z.base) (hc : cells + 1 ≤ mc) (hs : slots + 6 ≤ ms) :
    W p l e R s m args below meth c H locs cells slots (vx_MQ below Qc XC args s mc ms free) (F0 m pc ls rest) := by
  intro T hT X
  have htr : e.platform.stackTraces = false := (show e.platform.stackTraces = l.stackTraces by rw [X.admits.platform]).trans hl
  have Y := vx_rebase X (R' := { frames := R.frames, locals := R.locals, cells := 1, slots := 6 }) (Nat.le_refl _) (Nat.le_refl _) hRcells hRslots
  obtain ⟨s', hA⟩ : ∃ z, z = (T.setVm s.vm).setFrames (.invoking m args :: below) := ⟨_, rfl⟩
  rw [← hA] at Y
  have hvm : s'.vm = s.vm := by rw [hA]; rfl
  have hhp : s'.heap = H := by rw [hA]; exact hT
  have hW0 : s.WarmedH s'.vm := by rw [hvm]; exact State.WarmedH.refl s
  have hat' : ∀ w ∈ vx_at0 own ic cls names, w.before args s' = true := fun w hw => vx_ot_at hW0 hvm.symm (hgood w (List.mem_cons_of_mem _ (List.mem_cons_of_mem _ hw))) (hat w hw)
  have hk' : (Cond.classLink own ik cls).before args s' = true := vx_ot_at hW0 hvm.symm (hgood _ List.mem_cons_self) hk
  have hini' : (Cond.initialized cls).before args s' = true := vx_ot_at hW0 hvm.symm (hgood _ (List.mem_cons_of_mem _ List.mem_cons_self)) hini
  have hU' : vx_Zq Bundle.tN "UNASSIGNED_STACK" Bundle.steD A s' s'.heap := by rw [hhp]; exact vx_Zq.moved hW0.alike (hU.kept hS.2.1)
  have hN' : vx_Zq Bundle.tN "SUPPRESSED_SENTINEL" Bundle.listD A s' s'.heap := by rw [hhp]; exact vx_Zq.moved hW0.alike (hN.kept hS.2.1)
  have h : ∀ w ∈ Bundle.ownAtoms0 own ic cls names, w.before args s' = true := vx_own hat' (vx_isRefq hU'.1) (vx_isRefq hN'.1) hU'.2.word hN'.2.word
  have hown' : s'.vm.findClass own = some m.cls := by rw [hvm]; exact hown
  have hins : (Cond.instantiable cls 6).before args s' = true := h _ (by simp [Bundle.ownAtoms0])
  obtain ⟨vm₁, cX, kX, hfX, hkX, -, -, X₁, st1⟩ := Y.newCold hexec (own := own) (C := cls) (index := ik) (n := 6) hown' hk' hins hini'
    (g := F0 m pc ls rest) rfl (by rw [hb]; exact d0) (Nat.le_refl _) (Nat.le_refl _)
  generalize hT1 : (T.setVm vm₁).pushCell { cls := cX, slots := kX.instanceTypes.map defaultValue, vm := .none } = T1 at X₁ st1
  have hcat : (Value.ref T.heap.size).category = 1 := rfl
  have hcellA : T1.heap[T.heap.size]? = some (freshCell cX kX) := by rw [← hT1]; exact State.heap_pushCell_size _ _
  have d3' : decode c.code (pc + 3) = .ok (.dup, 1) := by rw [hb]; exact d3
  obtain ⟨U, hsteps, hrun, hend, hW, hsame, ce, hce, hO⟩ := X₁.ctorThrow0 hexec htr (own := own) (cls := cls) (names := names) (ic := ic) hown' hcls hnames h (fun x hx => nomatch hx) hfX hkX hcellA (by rw [hhp, hT]; exact Nat.le_refl _)
    (g := { method := m, pc := pc + 4, locals := ls, stack := .ref T.heap.size :: .ref T.heap.size :: rest, locked := none }) rfl hsize rfl rfl (rest := rest) rfl
    (by rw [hb]; exact d4) (by rw [hb]; exact d7) hout hRframes (by simp only [List.map_cons, List.sum_cons, hcat]; omega) hlocks
  obtain ⟨f1, f2⟩ := vx_frame hsame
  rw [hhp] at f1 f2
  have hWs : s.WarmedH U.vm := State.WarmedH.trans hW0 hW
  have hcl : s.vm.findClass cls = some ce.cls := by
    have h9 := hO.cls
    rw [hvm] at h9
    exact h9
  have hall : s.sameButNew ({ U with vm := s.vm } : State) locs mc ms := by
    subst hA
    obtain ⟨e1, e2⟩ := hsame
    rw [State.setFrames_setFrames] at e1
    have h2 : (T.setVm s.vm).sameButNew ({ U with vm := s.vm } : State) [] (0 + 1) (0 + 6) := ⟨e1, e2⟩
    have h3 := X.same.trans h2
    rw [List.append_nil] at h3
    exact h3.mono hc hs
  refine ⟨U, ?_, .threw T.heap.size, hrun, hend, Or.inr ⟨T.heap.size, rfl, cls, ce, locs, hx U hWs.alike f1 (fun q hq => f2 q hq (fun z hz => nomatch hz)), hce, hO.vm, hcl, hWs, hall, hf⟩⟩
  refine st1 _ ?_
  show Steps p.tables e below (T1.setTop { method := m, pc := pc + 3, locals := ls, stack := .ref T.heap.size :: rest, locked := none }) _
  jvm_step X₁.here [X₁.here.top, hexec, d3', Value.category]
  exact hsteps
/-- 'throw new E("text")': new; dup; ldc; invokespecial; athrow -/
theorem vx_throwS {cc : ByteArray} {pc : Nat} (hexec : p.tables.exec = Jvm.exec) (hb : c.code = cc) (hl : l.stackTraces = false) {own cls text : String} {names : List String} {ik is ic mc ms sa : Nat} {A : Nat → Prop}
    (hown : s.vm.findClass own = some m.cls) (hcls : Bundle.fit cls = true) (hnames : ∀ n ∈ names, Bundle.fit n = true)
    (hk : (Cond.classLink own ik cls).before args s = true) (hini : (Cond.initialized cls).before args s = true) (hstr : vk_R own is text sa s) (hat : ∀ w ∈ vx_atS own ic cls names, w.before args s = true)
    (hgood : ∀ w ∈ Cond.classLink own ik cls :: Cond.initialized cls :: vx_atS own ic cls names, vx_ot w = true)
    (hU : vx_Zq Bundle.tN "UNASSIGNED_STACK" Bundle.steD A s s.heap) (hN : vx_Zq Bundle.tN "SUPPRESSED_SENTINEL" Bundle.listD A s s.heap) (hS : va_S A s.heap H locs) (hsize : ls.size = c.maxLocals)
    (d0 : decode cc pc = .ok (.new ik, 3)) (d3 : decode cc (pc + 3) = .ok (.dup, 1)) (d4 : decode cc (pc + 4) = .ok (.ldc is, 2)) (d6 : decode cc (pc + 6) = .ok (.invokespecial ic, 3)) (d9 : decode cc (pc + 9) = .ok (.athrow, 1))
    (hout : ∀ x ∈ c.exceptionTable.toList, covers x (pc + 9) = false)
    (hRframes : names.length + 3 < R.frames) (hRlocals : (rest.map fun v => v.category).sum + (13 * (names.length + 1) + 43) ≤ R.locals) (hRcells : cells + 1 ≤ R.cells) (hRslots : slots + 6 ≤ R.slots) (hlocks : meth.locks = false)
    (hx : ∀ t : State, s.vm.Alike t.vm → H.size ≤ t.heap.size → (∀ q : Nat, q < H.size → t.heap[q]? = H[q]?) → XC cls s t)
    (hf : ∀ z ∈ locs, free z.base) (hc : cells + 1 ≤ mc) (hs : slots + 6 ≤ ms) :
    W p l e R s m args below meth c H locs cells slots (vx_MQ below Qc XC args s mc ms free) (F0 m pc ls rest) := by
  intro T hT X
  have htr : e.platform.stackTraces = false := (show e.platform.stackTraces = l.stackTraces by rw [X.admits.platform]).trans hl
  have Y := vx_rebase X (R' := { frames := R.frames, locals := R.locals, cells := 1, slots := 6 }) (Nat.le_refl _) (Nat.le_refl _) hRcells hRslots
  obtain ⟨s', hA⟩ : ∃ z, z = (T.setVm s.vm).setFrames (.invoking m args :: below) := ⟨_, rfl⟩
  rw [← hA] at Y
  have hvm : s'.vm = s.vm := by rw [hA]; rfl
  have hhp : s'.heap = H := by rw [hA]; exact hT
  have hW0 : s.WarmedH s'.vm := by rw [hvm]; exact State.WarmedH.refl s
  have hat' : ∀ w ∈ vx_atS own ic cls names, w.before args s' = true := fun w hw => vx_ot_at hW0 hvm.symm (hgood w (List.mem_cons_of_mem _ (List.mem_cons_of_mem _ hw))) (hat w hw)
  have hk' : (Cond.classLink own ik cls).before args s' = true := vx_ot_at hW0 hvm.symm (hgood _ List.mem_cons_self) hk
  have hini' : (Cond.initialized cls).before args s' = true := vx_ot_at hW0 hvm.symm (hgood _ (List.mem_cons_of_mem _ List.mem_cons_self)) hini
  have hU' : vx_Zq Bundle.tN "UNASSIGNED_STACK" Bundle.steD A s' s'.heap := by rw [hhp]; exact vx_Zq.moved hW0.alike (hU.kept hS.2.1)
  have hN' : vx_Zq Bundle.tN "SUPPRESSED_SENTINEL" Bundle.listD A s' s'.heap := by rw [hhp]; exact vx_Zq.moved hW0.alike (hN.kept hS.2.1)
  have h : ∀ w ∈ Bundle.ownAtoms own ic cls names, w.before args s' = true := vx_own hat' (vx_isRefq hU'.1) (vx_isRefq hN'.1) hU'.2.word hN'.2.word
  have hown' : s'.vm.findClass own = some m.cls := by rw [hvm]; exact hown
  have hins : (Cond.instantiable cls 6).before args s' = true := h _ (by simp [Bundle.ownAtoms])
  obtain ⟨vm₁, cX, kX, hfX, hkX, -, -, X₁, st1⟩ := Y.newCold hexec (own := own) (C := cls) (index := ik) (n := 6) hown' hk' hins hini'
    (g := F0 m pc ls rest) rfl (by rw [hb]; exact d0) (Nat.le_refl _) (Nat.le_refl _)
  generalize hT1 : (T.setVm vm₁).pushCell { cls := cX, slots := kX.instanceTypes.map defaultValue, vm := .none } = T1 at X₁ st1
  have hcat : (Value.ref T.heap.size).category = 1 := rfl
  have hcellA : T1.heap[T.heap.size]? = some (freshCell cX kX) := by rw [← hT1]; exact State.heap_pushCell_size _ _
  have d3' : decode c.code (pc + 3) = .ok (.dup, 1) := by rw [hb]; exact d3
  have d4' : decode c.code (pc + 4) = .ok (.ldc is, 2) := by rw [hb]; exact d4
  have hstr' : vk_R own is text sa s' := vk_R.warm hW0 hstr
  obtain ⟨U, hsteps, hrun, hend, hW, hsame, ce, hce, hO⟩ := X₁.ctorThrowS hexec htr (own := own) (cls := cls) (names := names) (ic := ic) hown' hcls hnames h (fun x hx => nomatch hx) hfX hkX hcellA (by rw [hhp, hT]; exact Nat.le_refl _) (msg := .ref sa) rfl
    (g := { method := m, pc := pc + 6, locals := ls, stack := .ref sa :: .ref T.heap.size :: .ref T.heap.size :: rest, locked := none }) rfl hsize rfl rfl (rest := rest) rfl
    (by rw [hb]; exact d6) (by rw [hb]; exact d9) hout hRframes (by simp only [List.map_cons, List.sum_cons, hcat]; omega) hlocks
  obtain ⟨f1, f2⟩ := vx_frame hsame
  rw [hhp] at f1 f2
  have hWs : s.WarmedH U.vm := State.WarmedH.trans hW0 hW
  have hcl : s.vm.findClass cls = some ce.cls := by
    have h9 := hO.cls
    rw [hvm] at h9
    exact h9
  have hall : s.sameButNew ({ U with vm := s.vm } : State) locs mc ms := by
    subst hA
    obtain ⟨e1, e2⟩ := hsame
    rw [State.setFrames_setFrames] at e1
    have h2 : (T.setVm s.vm).sameButNew ({ U with vm := s.vm } : State) [] (0 + 1) (0 + 6) := ⟨e1, e2⟩
    have h3 := X.same.trans h2
    rw [List.append_nil] at h3
    exact h3.mono hc hs
  refine ⟨U, ?_, .threw T.heap.size, hrun, hend, Or.inr ⟨T.heap.size, rfl, cls, ce, locs, hx U hWs.alike f1 (fun q hq => f2 q hq (fun z hz => nomatch hz)), hce, hO.vm, hcl, hWs, hall, hf⟩⟩
  refine st1 _ ?_
  show Steps p.tables e below (T1.setTop { method := m, pc := pc + 3, locals := ls, stack := .ref T.heap.size :: rest, locked := none }) _
  jvm_step X₁.here [X₁.here.top, hexec, d3', Value.category]
  exact X₁.ldcString hexec (own := own) (text := text) (index := is) (a := sa) hown' hstr'.1 hstr'.2
    (g := { method := m, pc := pc + 4, locals := ls, stack := .ref T.heap.size :: .ref T.heap.size :: rest, locked := none }) rfl d4' _ hsteps
/-- 'throw new E("text")', the text by a wide index -/
theorem vx_throwSW {cc : ByteArray} {pc : Nat} (hexec : p.tables.exec = Jvm.exec) (hb : c.code = cc) (hl : l.stackTraces = false) {own cls text : String} {names : List String} {ik is ic mc ms sa : Nat} {A : Nat → Prop}
    (hown : s.vm.findClass own = some m.cls) (hcls : Bundle.fit cls = true) (hnames : ∀ n ∈ names, Bundle.fit n = true)
    (hk : (Cond.classLink own ik cls).before args s = true) (hini : (Cond.initialized cls).before args s = true) (hstr : vk_R own is text sa s) (hat : ∀ w ∈ vx_atS own ic cls names, w.before args s = true)
    (hgood : ∀ w ∈ Cond.classLink own ik cls :: Cond.initialized cls :: vx_atS own ic cls names, vx_ot w = true)
    (hU : vx_Zq Bundle.tN "UNASSIGNED_STACK" Bundle.steD A s s.heap) (hN : vx_Zq Bundle.tN "SUPPRESSED_SENTINEL" Bundle.listD A s s.heap) (hS : va_S A s.heap H locs) (hsize : ls.size = c.maxLocals)
    (d0 : decode cc pc = .ok (.new ik, 3)) (d3 : decode cc (pc + 3) = .ok (.dup, 1)) (d4 : decode cc (pc + 4) = .ok (.ldc_w is, 3)) (d7 : decode cc (pc + 7) = .ok (.invokespecial ic, 3)) (d10 : decode cc (pc + 10) = .ok (.athrow, 1))
    (hout : ∀ x ∈ c.exceptionTable.toList, covers x (pc + 10) = false)
    (hRframes : names.length + 3 < R.frames) (hRlocals : (rest.map fun v => v.category).sum + (13 * (names.length + 1) + 43) ≤ R.locals) (hRcells : cells + 1 ≤ R.cells) (hRslots : slots + 6 ≤ R.slots) (hlocks : meth.locks = false)
    (hx : ∀ t : State, s.vm.Alike t.vm → H.size ≤ t.heap.size → (∀ q : Nat, q < H.size → t.heap[q]? = H[q]?) → XC cls s t)
    (hf : ∀ z ∈ locs, free z.base) (hc : cells + 1 ≤ mc) (hs : slots + 6 ≤ ms) :
    W p l e R s m args below meth c H locs cells slots (vx_MQ below Qc XC args s mc ms free) (F0 m pc ls rest) := by
  intro T hT X
  have htr : e.platform.stackTraces = false := (show e.platform.stackTraces = l.stackTraces by rw [X.admits.platform]).trans hl
  have Y := vx_rebase X (R' := { frames := R.frames, locals := R.locals, cells := 1, slots := 6 }) (Nat.le_refl _) (Nat.le_refl _) hRcells hRslots
  obtain ⟨s', hA⟩ : ∃ z, z = (T.setVm s.vm).setFrames (.invoking m args :: below) := ⟨_, rfl⟩
  rw [← hA] at Y
  have hvm : s'.vm = s.vm := by rw [hA]; rfl
  have hhp : s'.heap = H := by rw [hA]; exact hT
  have hW0 : s.WarmedH s'.vm := by rw [hvm]; exact State.WarmedH.refl s
  have hat' : ∀ w ∈ vx_atS own ic cls names, w.before args s' = true := fun w hw => vx_ot_at hW0 hvm.symm (hgood w (List.mem_cons_of_mem _ (List.mem_cons_of_mem _ hw))) (hat w hw)
  have hk' : (Cond.classLink own ik cls).before args s' = true := vx_ot_at hW0 hvm.symm (hgood _ List.mem_cons_self) hk
  have hini' : (Cond.initialized cls).before args s' = true := vx_ot_at hW0 hvm.symm (hgood _ (List.mem_cons_of_mem _ List.mem_cons_self)) hini
  have hU' : vx_Zq Bundle.tN "UNASSIGNED_STACK" Bundle.steD A s' s'.heap := by rw [hhp]; exact vx_Zq.moved hW0.alike (hU.kept hS.2.1)
  have hN' : vx_Zq Bundle.tN "SUPPRESSED_SENTINEL" Bundle.listD A s' s'.heap := by rw [hhp]; exact vx_Zq.moved hW0.alike (hN.kept hS.2.1)
  have h : ∀ w ∈ Bundle.ownAtoms own ic cls names, w.before args s' = true := vx_own hat' (vx_isRefq hU'.1) (vx_isRefq hN'.1) hU'.2.word hN'.2.word
  have hown' : s'.vm.findClass own = some m.cls := by rw [hvm]; exact hown
  have hins : (Cond.instantiable cls 6).before args s' = true := h _ (by simp [Bundle.ownAtoms])
  obtain ⟨vm₁, cX, kX, hfX, hkX, -, -, X₁, st1⟩ := Y.newCold hexec (own := own) (C := cls) (index := ik) (n := 6) hown' hk' hins hini'
    (g := F0 m pc ls rest) rfl (by rw [hb]; exact d0) (Nat.le_refl _) (Nat.le_refl _)
  generalize hT1 : (T.setVm vm₁).pushCell { cls := cX, slots := kX.instanceTypes.map defaultValue, vm := .none } = T1 at X₁ st1
  have hcat : (Value.ref T.heap.size).category = 1 := rfl
  have hcellA : T1.heap[T.heap.size]? = some (freshCell cX kX) := by rw [← hT1]; exact State.heap_pushCell_size _ _
  have d3' : decode c.code (pc + 3) = .ok (.dup, 1) := by rw [hb]; exact d3
  have d4' : decode c.code (pc + 4) = .ok (.ldc_w is, 3) := by rw [hb]; exact d4
  have hstr' : vk_R own is text sa s' := vk_R.warm hW0 hstr
  obtain ⟨U, hsteps, hrun, hend, hW, hsame, ce, hce, hO⟩ := X₁.ctorThrowS hexec htr (own := own) (cls := cls) (names := names) (ic := ic) hown' hcls hnames h (fun x hx => nomatch hx) hfX hkX hcellA (by rw [hhp, hT]; exact Nat.le_refl _) (msg := .ref sa) rfl
    (g := { method := m, pc := pc + 7, locals := ls, stack := .ref sa :: .ref T.heap.size :: .ref T.heap.size :: rest, locked := none }) rfl hsize rfl rfl (rest := rest) rfl
    (by rw [hb]; exact d7) (by rw [hb]; exact d10) hout hRframes (by simp only [List.map_cons, List.sum_cons, hcat]; omega) hlocks
  obtain ⟨f1, f2⟩ := vx_frame hsame
  rw [hhp] at f1 f2
  have hWs : s.WarmedH U.vm := State.WarmedH.trans hW0 hW
  have hcl : s.vm.findClass cls = some ce.cls := by
    have h9 := hO.cls
    rw [hvm] at h9
    exact h9
  have hall : s.sameButNew ({ U with vm := s.vm } : State) locs mc ms := by
    subst hA
    obtain ⟨e1, e2⟩ := hsame
    rw [State.setFrames_setFrames] at e1
    have h2 : (T.setVm s.vm).sameButNew ({ U with vm := s.vm } : State) [] (0 + 1) (0 + 6) := ⟨e1, e2⟩
    have h3 := X.same.trans h2
    rw [List.append_nil] at h3
    exact h3.mono hc hs
  refine ⟨U, ?_, .threw T.heap.size, hrun, hend, Or.inr ⟨T.heap.size, rfl, cls, ce, locs, hx U hWs.alike f1 (fun q hq => f2 q hq (fun z hz => nomatch hz)), hce, hO.vm, hcl, hWs, hall, hf⟩⟩
  refine st1 _ ?_
  show Steps p.tables e below (T1.setTop { method := m, pc := pc + 3, locals := ls, stack := .ref T.heap.size :: rest, locked := none }) _
  jvm_step X₁.here [X₁.here.top, hexec, d3', Value.category]
  exact X₁.ldcStringW hexec (own := own) (text := text) (index := is) (a := sa) hown' hstr'.1 hstr'.2
    (g := { method := m, pc := pc + 4, locals := ls, stack := .ref T.heap.size :: .ref T.heap.size :: rest, locked := none }) rfl d4' _ hsteps
end Ends
section Bodies
variable {l : Launch}
theorem vx_ofW {y : MethodName} {ws ws' : List Cond} {rm : Room} {Pc : Array Value → State → Prop} {Qc : Array Value → State → Outcome → State → Prop} {XC : String → State → State → Prop} {mc ms : Nat} {free : Addr → Prop} {cc : ByteArray} {maxL : Nat} {ret : Option FieldType}
    (hy : plainName y.cls = true) (hw : ws = Cond.code y cc maxL ret :: ws')
    (body : ∀ p e s m args below meth c s₁, BodyLoose p l y (headSpec ws rm) cc maxL ret e s m args below meth c s₁ → c.maxLocals = maxL → (∀ x ∈ c.exceptionTable.toList, False) → Pc args s →
      W p l e (headSpec ws rm).room s m args below meth c s.heap [] 0 0 (vx_MQ below Qc XC args s mc ms free) (entryFrame m args maxL)) : vx_Met l y ws rm Pc Qc XC mc ms free := by
  refine MetFree.of_bodyS (code := cc) (maxLocals := maxL) (ret := ret) hy ?_ ?_
  · intro args s m h hn
    obtain ⟨meth, c, h1, h2, h3, h4, h5, h6, -, -⟩ := Cond.code_spec hn (atoms_spec (ws := ws) h _ (by rw [hw]; exact List.mem_cons_self))
    exact ⟨meth, c, h1, h2, h3, h4, h5, h6⟩
  · intro p e s m args below meth c s₁ B hml hP _
    have hh0 : s₁.heap = s.heap := by rw [B.state]; rfl
    have ht : ∀ x ∈ c.exceptionTable.toList, False := by
      obtain ⟨meth9, c9, h1, h2, -, -, -, -, h7, -⟩ := Cond.code_spec B.named (atoms_spec (ws := ws) B.pre _ (by rw [hw]; exact List.mem_cons_self))
      cases Option.some.inj (h1.symm.trans B.method)
      cases Option.some.inj (h2.symm.trans (Stand.of_body B).code)
      intro x hx
      rw [Array.isEmpty_iff.mp h7] at hx
      cases hx
    obtain ⟨t, a1, o, b1, b2, b3⟩ := body p e s m args below meth c s₁ B hml ht hP s₁ hh0 (Stand.of_body B)
    exact ⟨t, o, a1, b1, b2, b3⟩
/-- the table of a body with handlers -/
theorem vx_table {p : Program} {x y : MethodName} {S : Spec} {cc bytes : ByteArray} {maxL maxL' : Nat} {ret ret' : Option FieldType} {e : Env} {s s₁ : State} {m : MethodId} {args : Array Value} {below : List Frame} {meth : Method} {c : Code} {hh : List (Nat × Nat × Nat × Nat)}
    (B : BodyLoose p l y S cc maxL ret e s m args below meth c s₁) (h : (Cond.codeWith y bytes maxL' ret' hh).before args s = true) : c.exceptionTable.toList = tableOf hh := by
  obtain ⟨m9, meth9, c9, hn9, h1, h2, -, -, h6, -⟩ := Cond.codeWith_spec h
  cases Option.some.inj (hn9.symm.trans B.named)
  cases Option.some.inj (h1.symm.trans B.method)
  cases Option.some.inj (h2.symm.trans (Stand.of_body B).code)
  rw [← h6, table_eq]
end Bodies
end VXA
/-! ===== END ===== -/
/-! ===== BEGIN a static call of a method with an exception table ===== -/
section VXS
variable {p : Program} {l : Launch} {e : Env} {R : Room} {s : State} {m : MethodId} {args : Array Value} {below : List Frame} {meth : Method} {c : Code} {T : State} {H : Heap} {locs : List Loc} {cells slots : Nat}
abbrev vx_CSW (R : Room) (s : State) (args : Array Value) (own : String) (index : Nat) (y : MethodName) (bytes : ByteArray) (maxL : Nat) (ret : Option FieldType) (hh : List (Nat × Nat × Nat × Nat)) (ws : List Cond) (rm : Room) (mc ms n : Nat) : Prop :=
  (rm.cells = mc ∧ rm.slots = ms ∧ rm.frames + 1 ≤ R.frames ∧ 8 + (maxL + 11) + rm.locals ≤ R.locals ∧ (∀ w ∈ ws, ∀ (a' : Array Value) (U : State), s.WarmedH U.vm → w.before a' U = true) ∧ Cond.codeWith y bytes maxL ret hh ∈ ws) ∧
  (Cond.codeWith y bytes maxL ret hh).before args s = true ∧ (Cond.initialized y.cls).before args s = true ∧ (y.cls ≠ "java/lang/invoke/MethodHandle" ∧ y.cls ≠ "java/lang/invoke/VarHandle") ∧
  (∀ sig, parseMethodDescriptor y.desc = some sig → n = sig.parameters.length) ∧ (Cond.methodLink own index y).before args s = true ∧ (Cond.static y).before args s = true
theorem vx_cwSW {own : String} {index maxL mc ms : Nat} {y : MethodName} {bytes : ByteArray} {ret : Option FieldType} {hh : List (Nat × Nat × Nat × Nat)} {Ts ws ws' : List Cond} {rm : Room} (n : Nat) (ht : ∀ w ∈ Ts, w.before args s = true) (hT : GoodIn Ts (va_wsS own index y ws)) (hw : ws = Cond.codeWith y bytes maxL ret hh :: ws') (hrc : rm.cells = mc) (hrs : rm.slots = ms)
    (hd : y.cls ≠ "java/lang/invoke/MethodHandle" ∧ y.cls ≠ "java/lang/invoke/VarHandle" ∧ (parseMethodDescriptor y.desc).map (fun d => d.parameters.length) = some n) (hR : rm.frames + 1 ≤ R.frames ∧ 8 + (maxL + 11) + rm.locals ≤ R.locals) :
    vx_CSW R s args own index y bytes maxL ret hh ws rm mc ms n := by
  have ok : ∀ w ∈ va_wsS own index y ws, w.before args s = true := fun w h => ht w (hT w h).1
  have hG : GoodIn Ts ws := fun w h => hT w (by unfold va_wsS; exact List.mem_append_right _ h)
  have hc : Cond.codeWith y bytes maxL ret hh ∈ ws := by rw [hw]; exact List.mem_cons_self
  refine ⟨⟨hrc, hrs, hR.1, hR.2, pay_in ht hG, hc⟩, ht _ (hG _ hc).1, ok _ (by simp [va_wsS]), ⟨hd.1, hd.2.1⟩, fun sig h => ?_, ok _ (by simp [va_wsS]), ok _ (by simp [va_wsS])⟩
  have h2 := hd.2.2
  rw [h] at h2
  exact (Option.some.inj h2).symm
theorem vx_callSW (X : Stand p l e R s m args below meth c T locs cells slots) (hexec : p.tables.exec = Jvm.exec) {own : String} {index : Nat} {y : MethodName} {bytes : ByteArray} {maxL : Nat} {ret : Option FieldType} {hh : List (Nat × Nat × Nat × Nat)}
    (hown : s.vm.findClass own = some m.cls) (hlink : (Cond.methodLink own index y).before args s = true) (hstat : (Cond.static y).before args s = true) (hinit : (Cond.initialized y.cls).before args s = true)
    (hcode : (Cond.codeWith y bytes maxL ret hh).before args s = true) (hy : y.cls ≠ "java/lang/invoke/MethodHandle" ∧ y.cls ≠ "java/lang/invoke/VarHandle")
    {W9 : Nat} {Pre : Pt → Array Value → Prop} {Post : Pt → Array Value → Option Value → Pt → Prop} (hK : Back l R p e below s args y 3 W9 Pre Post)
    {g : JFrame} (hg : g.method = m) (hsize : g.locals.size = c.maxLocals) {argsL rest : List Value} (hlen : ∀ sig, parseMethodDescriptor y.desc = some sig → argsL.length = sig.parameters.length)
    (hstack : g.stack = argsL.reverse ++ rest) (hW : 2 * g.monitorRoom + (rest.map fun v => v.category).sum ≤ W9) (hdg : decode c.code g.pc = .ok (.invokestatic index, 3))
    (hpre : ∀ vm₁, s.WarmedH vm₁ → Pre ⟨T.setVm vm₁, locs, cells, slots⟩ argsL.toArray) :
    ∃ (v : Option Value) (vm₁ : Vm) (B : Pt), s.WarmedH vm₁ ∧ Stand p l e R s m args below meth c B.U B.locs B.cells B.slots ∧ Post ⟨T.setVm vm₁, locs, cells, slots⟩ argsL.toArray v B ∧
      ∀ target, Steps p.tables e below (B.U.setTop { g with pc := g.pc + 3, stack := v.toList ++ rest }) target → Steps p.tables e below (T.setTop g) target := by
  obtain ⟨mk, methM, cM, hnamed, hmethM, -, -, -, -, -, -, hsigM⟩ := Cond.codeWith_spec hcode
  have hstatic : methM.isStatic = true := Cond.static_spec hnamed hmethM hstat
  obtain ⟨kP, hkP, -⟩ := className_of_methodNamed hnamed
  have hinitP : kP.init = .initialized := Cond.initialized_spec (findClass_of_methodNamed hnamed) hkP hinit
  obtain ⟨vm₁, X₁, hstep₁⟩ := X.invokestatic hexec hown hlink hnamed hmethM hstatic hkP hinitP hy (g := g) hg (argsL := argsL) (rest := rest) (hlen _ hsigM) hstack hdg
  obtain ⟨v, B, X', hpost, hsteps⟩ := hK m meth c ⟨T.setVm vm₁, locs, cells, slots⟩ { g with stack := rest } (.invokestatic index) mk argsL.toArray X₁ hg hsize hdg hW (X₁.named hnamed) (hpre vm₁ X₁.warmed)
  exact ⟨v, vm₁, B, X₁.warmed, X', hpost, fun target h => hstep₁ _ fun acts => by rw [doInvoke_state]; exact hsteps.trans h⟩
theorem vx_runSW {y : MethodName} {bytes cc : ByteArray} {maxL nL mc ms n index : Nat} {ret : Option FieldType} {hh : List (Nat × Nat × Nat × Nat)} {ws : List Cond} {rm : Room} {Pc : Array Value → State → Prop} {Qc : Array Value → State → Outcome → State → Prop} {free : Addr → Prop} {Ts : List Cond} {own : String} {As rest : List Value} {g : JFrame}
    (S : CallFix p m c cc nL s args Ts own) (hM : Met l y ws rm Pc Qc mc ms free) (cw : vx_CSW R s args own index y bytes maxL ret hh ws rm mc ms n) (hp : PreS s H Pc As)
    (hg : g.method = m) (hn : As.length = n) (hsize : g.locals.size = nL) (hstack : g.stack = As.reverse ++ rest) (hW : 2 * g.monitorRoom + (rest.map fun v => v.category).sum ≤ 8) (hdg : decode cc g.pc = .ok (.invokestatic index, 3)) (hf : cells + mc ≤ R.cells ∧ slots + ms ≤ R.slots) :
    va_Run p l e R s m args below meth c H locs cells slots mc ms g rest (Qc As.toArray) (free) := by
  obtain ⟨⟨hrc, hrs, hfr, hlo, hws, hcw⟩, hcode, hini, hy, hlen, hl, hstt⟩ := cw
  have hK : Back l R p e below s args y 3 8 (PreOf R mc ms Pc) (PostOf Qc mc ms free) := va_backW (hh := hh) (bytes := bytes) (maxL := maxL) (ret := ret) hM hp.1 hrc hrs hfr hlo hws hcw (fun a' U hW => word_at hW (Or.inl (by first | rfl | simp [Cond.onTables, Cond.keeps, Cond.steady])) hini)
  obtain ⟨hx, hb, hml, ho, -⟩ := S
  intro T hT X
  obtain ⟨v, vm₁, ⟨U', l2, c2, s2⟩, hW₁, X', ⟨g', mk, t, L, e1, e2, hq, h1, hL, h2, h3⟩, st⟩ := vx_callSW X hx (hh := hh) (bytes := bytes) (maxL := maxL) (ret := ret) ho hl hstt hini hcode hy hK hg (hsize.trans hml.symm) (argsL := As) (rest := rest) (fun sig h => hn.trans (hlen sig h)) hstack hW (by rw [hb]; exact hdg)
    (fun vm₁ hW₁ => ⟨hf.1, hf.2, hp.2 (T.setVm vm₁) hT hW₁⟩)
  dsimp only [Pt.U, Pt.locs, Pt.cells, Pt.slots] at X' e1 e2 h1 h2 h3 st
  subst h1; subst h2; subst h3
  exact ⟨v, (T.setVm vm₁).calling g' mk As.toArray, t, U', L, hT, X', hL, e1, e2, hq, st⟩
/-- not caught here, past rows that name other classes: it goes on to the caller -/
theorem vx_outP {p : Program} {l : Launch} {e : Env} {R : Room} {s : State} {m : MethodId} {args : Array Value} {below : List Frame} {meth : Method} {c : Code} {H : Heap} {locs : List Loc} {cells slots : Nat} {free : Addr → Prop} {ls : Array Slot} {rest : List Value} {Qc : Array Value → State → Outcome → State → Prop} {XC : String → State → State → Prop}
    {pc : Nat} {own E : String} {ce : Cell} {q : Addr} {mc ms : Nat} (hown : s.vm.findClass own = some m.cls) (hlocks : meth.locks = false)
    (hpass : ∀ z ∈ c.exceptionTable.toList, covers z pc = false ∨ (z.catchType ≠ 0 ∧ ∃ nm : String, (Cond.classLink own z.catchType nm).before args s = true ∧ va_Nc E nm s)) (hcell : H[q]? = some ce) (hv : ce.vm = .none) (hcl : s.vm.findClass E = some ce.cls)
    (hx : ∀ t : State, t.heap = H → s.vm.Alike t.vm → XC E s t) (hf : ∀ z ∈ locs, free z.base) (hc : cells ≤ mc) (hs : slots ≤ ms) :
    vx_W p l e R s m args below meth c H locs cells slots (vx_MQ below Qc XC args s mc ms free) (F0 m pc ls rest) q := by
  intro T hT X
  have hpl : e.platform.magicAccessors = ({} : Platform).magicAccessors := by rw [X.admits.platform]
  obtain ⟨vm', hW', X', st⟩ := X.outThrough hlocks q (g := F0 m pc ls rest) rfl rfl rfl (cell := ce) (by rw [hT]; exact hcell) (by rw [hv]; rfl)
    (by obtain ⟨k9, h9, -⟩ := Vm.findClass_spec hcl; exact ⟨k9, h9⟩) (fun z hz => by
      rcases hpass z hz with h | ⟨hz0, nm, hl1, hn1⟩
      · exact Or.inl h
      · obtain ⟨c6, hc6, hcl6⟩ := Cond.classLink_spec hown hl1 e.platform hpl
        obtain ⟨a8, b8, h1, h2, h3⟩ := hn1
        cases Option.some.inj (h1.symm.trans hcl)
        cases Option.some.inj (h2.symm.trans hc6)
        exact Or.inr ⟨hz0, _, hcl6, h3⟩)
  obtain ⟨g₀, hfr⟩ := X'.frames_eq
  have hcell9 : ((T.setVm vm').setFrames (.throwing q :: below)).heap[q]? = some ce := by
    show T.heap[q]? = some ce
    rw [hT]; exact hcell
  have hend : Ended ((T.setVm vm').setFrames (.throwing q :: below)) below (.threw q) := State.frames_setFrames _ (State.cur_lt_of_frames hfr)
  refine ⟨(T.setVm vm').setFrames (.throwing q :: below), ?_, .threw q, X'.here.running, hend, Or.inr ⟨q, rfl, E, ce, locs, hx _ hT (X'.ends _).1.alike, hcell9, hv, hcl, (X'.ends _).1, (X'.ends _).2.mono hc hs, hf⟩⟩
  rw [X.pushThrowing_eq]
  exact st
/-- a thing of a world lies in the heap -/
theorem vx_lt {D : va_G} {cl : List vw_C} {ws : va_W} {H1 : Heap} (h : va_P D cl ws H1) {k : Nat} {q : Nat × va_E} (hk : ws[k]? = some q) : q.1 < H1.size := (h k q hk).lt
end VXS
/-! ===== END ===== -/
/-! ===== BEGIN methods with a table of their own: called by a name, returning or throwing ===== -/
section VXH
/-! vx_backW, vx_callVX, vx_callSX, vx_callVW, vx_runVW, vx_runVX, vx_runSX, vx_ofWH follow the same proofs as their sisters above (Free/Laws.lean, Shelf42/LK1.lean); vx_outP calls Shelf42/NT130.lean (outThrough). -/
section
variable {l : Launch} {R : Room} {p : Program} {e : Env} {below : List Frame} {s : State} {sargs : Array Value} {y : MethodName} {len W9 : Nat}
theorem vx_backW {ws : List Cond} {rm : Room} {Pc : Array Value → State → Prop} {Qc : Array Value → State → Outcome → State → Prop} {XC : String → State → State → Prop} {mc ms : Nat} {free : Addr → Prop} {bytes : ByteArray} {maxL : Nat} {ret : Option FieldType} {hh : List (Nat × Nat × Nat × Nat)}
    (hM : vx_Met l y ws rm Pc Qc XC mc ms free) (hblind : FrameBlind Pc) (hrc : rm.cells = mc) (hrs : rm.slots = ms)
    (hframes : rm.frames + 1 ≤ R.frames) (hlocals : W9 + (maxL + 11) + rm.locals ≤ R.locals)
    (hws : ∀ w ∈ ws, ∀ a' U, s.WarmedH U.vm → w.before a' U = true) (hcode : Cond.codeWith y bytes maxL ret hh ∈ ws) (hinit : ∀ a' U, s.WarmedH U.vm → (Cond.initialized y.cls).before a' U = true) :
    vx_Back l R p e below s sargs y len W9 (PreOf R mc ms Pc) (PostOf Qc mc ms free) (vx_Post XC mc ms free) := by
  intro m meth c A g ig mk a X hg hsize hdg hW hn hp
  have h1 : (headSpec ws rm).pre.before a A.U = true := atoms_intro fun w hw => hws w hw _ _ X.warmed
  have h2 : (Cond.codeWith y bytes maxL ret hh).before a A.U = true := hws _ hcode _ _ X.warmed
  have h3 : (Cond.initialized y.cls).before a A.U = true := hinit _ _ X.warmed
  have h4 : A.cells + (headSpec ws rm).room.cells ≤ R.cells := by rw [show (headSpec ws rm).room.cells = mc from hrc]; exact hp.1
  have h5 : A.slots + (headSpec ws rm).room.slots ≤ R.slots := by rw [show (headSpec ws rm).room.slots = ms from hrs]; exact hp.2.1
  have hPc : Pc a (A.U.calling g mk a) := hblind _ _ _ _ hp.2.2
  obtain ⟨U, Ls, c0, s0⟩ := A
  dsimp only [Pt.U, Pt.locs, Pt.cells, Pt.slots] at h1 h2 h3 h4 h5 X hn hPc ⊢
  obtain ⟨m9, methY, cY, hn9, hmY, hcY, -, hlY, -⟩ := Cond.codeWith_spec h2
  cases Option.some.inj (hn9.symm.trans hn)
  obtain ⟨kY, hkY, -⟩ := className_of_methodNamed hn
  have hinitY : kY.init = .initialized := Cond.initialized_spec (findClass_of_methodNamed hn) hkY h3
  have h : At U g.method c below := by rw [hg]; exact X.here
  have hlocals9 : W9 + (maxL + 11) + (headSpec ws rm).room.locals ≤ R.locals := hlocals
  have happ : (headSpec ws rm).appliesLoose y e.platform (U.calling g mk a) = true :=
    Spec.appliesLoose_calling (g := g) h hdg hn hkY hinitY
      (X.room_calling (g := g) (R' := (headSpec ws rm).room) hsize hmY hcY hframes (by rw [hlY]; omega) h4 h5) h1
  obtain ⟨mid, hmid⟩ := h.above
  have hfr : (U.setTop g).frames = (.java g :: mid) ++ below := by rw [State.frames_setTop' g h.top, hmid]; rfl
  obtain ⟨o, s₂, hsteps, -, hend, hq⟩ := Steps.callFree hM p X.admits X.cas X.clock (acts := []) hfr happ hPc trivial
  have hq' : vx_Q Qc XC mc ms free a (U.calling g mk a) o s₂ := hq
  rw [State.frames_setTop' g h.top] at hend
  obtain ⟨g₀, hg0⟩ := Option.isSome_iff_exists.mp h.top
  obtain ⟨r, hr⟩ := State.topJava?_eq_some.mp hg0
  have hr' : (({ U with heap := s₂.heap, slotsUsed := s₂.slotsUsed } : State).setVm s₂.vm).frames = .java g₀ :: r := hr
  rcases hq' with ⟨hqc, L, hfe, hL⟩ | ⟨q, rfl, E, ce, L, hx, hce, hcv, hcl, hW₂, hsm, hL⟩
  · obtain ⟨⟨v, rfl⟩, hW₂, e2, q2, q3, q4, q5, q6⟩ := id hfe
    have e3 : s₂ = ({ (U.calling g mk a).setFrames s₂.frames with heap := s₂.heap, slotsUsed := s₂.slotsUsed } : State).setVm s₂.vm := by
      have : s₂ = ({ s₂ with vm := (U.calling g mk a).vm } : State).setVm s₂.vm := rfl
      rw [e2] at this
      exact this
    obtain ⟨c₂, i₂, len₂, hc₂, hd₂, hf₂⟩ := hend
    have hW' : U.WarmedH s₂.vm := hW₂
    have hcc : c₂ = c := by
      have h1 : s₂.code? g.method = U.code? g.method := by
        rw [State.code?_eq, State.code?_eq, hW'.alike.method?]
      exact Option.some.inj (hc₂.symm.trans (h1.trans h.code))
    subst hcc
    have hlen : len₂ = len := by rw [hdg] at hd₂; cases hd₂; rfl
    subst hlen
    have hs₂ : s₂ = (({ U with heap := s₂.heap, slotsUsed := s₂.slotsUsed } : State).setVm s₂.vm).setTop { g with pc := g.pc + len₂, stack := v.toList ++ g.stack } := by
      refine e3.trans ?_
      rw [hf₂, State.calling_eq h.top, State.setFrames_setFrames, State.setTop_of_frames _ hr', hr]
      rfl
    have hsame : U.sameButNew ({ U with heap := s₂.heap, slotsUsed := s₂.slotsUsed } : State) L mc ms := by
      refine ⟨?_, q2, q3, q4, q5, q6⟩
      obtain ⟨t, ht, -⟩ := State.frames_cons hr
      show ({ U with heap := s₂.heap, slotsUsed := s₂.slotsUsed } : State) = { U.setFrames U.frames with heap := s₂.heap, slotsUsed := s₂.slotsUsed }
      rw [State.setFrames_self ht]
    subst hg
    refine Or.inl ⟨v, ⟨(({ U with heap := s₂.heap, slotsUsed := s₂.slotsUsed } : State).setVm s₂.vm), Ls ++ L, c0 + mc, s0 + ms⟩,
      ⟨X.admits, X.cas, X.clock, X.frames, X.room, X.hears, X.method, X.code, (X.here.setHeapUsed s₂.heap s₂.slotsUsed).setVm hW'.alike, X.tail, State.WarmedH.trans X.warmed hW', X.limits, X.bytes, X.same.trans (hsame.setVm s.vm)⟩,
      ⟨g, mk, s₂, L, rfl, rfl, hqc, rfl, hL, rfl, rfl⟩, ?_⟩
    show Steps p.tables e below _ ((({ U with heap := s₂.heap, slotsUsed := s₂.slotsUsed } : State).setVm s₂.vm).setTop { g with pc := g.pc + len₂, stack := v.toList ++ g.stack })
    rw [← hs₂]
    exact hsteps
  · obtain ⟨e2, q2, q3, q4, q5, q6⟩ := id hsm
    have e3 : s₂ = ({ (U.calling g mk a).setFrames s₂.frames with heap := s₂.heap, slotsUsed := s₂.slotsUsed } : State).setVm s₂.vm := by
      have : s₂ = ({ s₂ with vm := (U.calling g mk a).vm } : State).setVm s₂.vm := rfl
      rw [e2] at this
      exact this
    have hf₂ : s₂.frames = .throwing q :: .java g :: U.frames.tail := hend
    have hW' : U.WarmedH s₂.vm := hW₂
    have hs₂ : s₂ = ((({ U with heap := s₂.heap, slotsUsed := s₂.slotsUsed } : State).setVm s₂.vm).setTop g).pushFrame (.throwing q) := by
      refine e3.trans ?_
      rw [hf₂, State.calling_eq h.top, State.setFrames_setFrames, State.pushFrame, State.frames_setTop _ hr', State.setTop_of_frames _ hr', State.setFrames_setFrames, hr]
      rfl
    have hsame : U.sameButNew ({ U with heap := s₂.heap, slotsUsed := s₂.slotsUsed } : State) L mc ms := by
      refine ⟨?_, q2, q3, q4, q5, q6⟩
      obtain ⟨t, ht, -⟩ := State.frames_cons hr
      show ({ U with heap := s₂.heap, slotsUsed := s₂.slotsUsed } : State) = { U.setFrames U.frames with heap := s₂.heap, slotsUsed := s₂.slotsUsed }
      rw [State.setFrames_self ht]
    subst hg
    refine Or.inr ⟨q, ⟨(({ U with heap := s₂.heap, slotsUsed := s₂.slotsUsed } : State).setVm s₂.vm), Ls ++ L, c0 + mc, s0 + ms⟩,
      ⟨X.admits, X.cas, X.clock, X.frames, X.room, X.hears, X.method, X.code, (X.here.setHeapUsed s₂.heap s₂.slotsUsed).setVm hW'.alike, X.tail, State.WarmedH.trans X.warmed hW', X.limits, X.bytes, X.same.trans (hsame.setVm s.vm)⟩,
      ⟨g, mk, s₂, L, E, ce, rfl, rfl, hx, hce, hcv, hcl, rfl, hL, rfl, rfl⟩, ?_⟩
    show Steps p.tables e below _ (((({ U with heap := s₂.heap, slotsUsed := s₂.slotsUsed } : State).setVm s₂.vm).setTop g).pushFrame (.throwing q))
    rw [← hs₂]
    exact hsteps
end
variable {p : Program} {l : Launch} {e : Env} {R : Room} {s : State} {m : MethodId} {args : Array Value} {below : List Frame} {meth : Method} {c : Code} {T : State} {H : Heap} {locs : List Loc} {cells slots : Nat}
theorem vx_callVX (X : Stand p l e R s m args below meth c T locs cells slots) (hexec : p.tables.exec = Jvm.exec) {own C : String} {index : Nat} {y : MethodName} {bytes : ByteArray} {maxL : Nat} {ret : Option FieldType} {hh : List (Nat × Nat × Nat × Nat)}
    (hown : s.vm.findClass own = some m.cls) (hlink : (Cond.methodLink own index y).before args s = true) (hinst : (Cond.instanceMethod y).before args s = true) (hsel : (Cond.selects C y y).before args s = true)
    (hcode : (Cond.codeWith y bytes maxL ret hh).before args s = true) (hy : y.cls ≠ "java/lang/invoke/MethodHandle" ∧ y.cls ≠ "java/lang/invoke/VarHandle")
    {W9 : Nat} {Pre : Pt → Array Value → Prop} {Post : Pt → Array Value → Option Value → Pt → Prop} {PostX : Pt → Array Value → Addr → Pt → Prop} (hK : vx_Back l R p e below s args y 3 W9 Pre Post PostX)
    {b : Addr} {cellB : Cell} (hcell : T.heap[b]? = some cellB) (hobj : cellB.vm.isStatics = false) (hcls : s.vm.findClass C = some cellB.cls)
    {g : JFrame} (hg : g.method = m) (hsize : g.locals.size = c.maxLocals) {argsL rest : List Value} (hlen : ∀ sig, parseMethodDescriptor y.desc = some sig → argsL.length = sig.parameters.length)
    (hstack : g.stack = argsL.reverse ++ .ref b :: rest) (hW : 2 * g.monitorRoom + (rest.map fun v => v.category).sum ≤ W9) (hdg : decode c.code g.pc = .ok (.invokevirtual index, 3))
    (hpre : ∀ vm₁, s.WarmedH vm₁ → Pre ⟨T.setVm vm₁, locs, cells, slots⟩ (Value.ref b :: argsL).toArray) :
    (∃ (v : Option Value) (vm₁ : Vm) (B : Pt), s.WarmedH vm₁ ∧ Stand p l e R s m args below meth c B.U B.locs B.cells B.slots ∧ Post ⟨T.setVm vm₁, locs, cells, slots⟩ (Value.ref b :: argsL).toArray v B ∧
      ∀ target, Steps p.tables e below (B.U.setTop { g with pc := g.pc + 3, stack := v.toList ++ rest }) target → Steps p.tables e below (T.setTop g) target) ∨
    (∃ (q : Addr) (vm₁ : Vm) (B : Pt), s.WarmedH vm₁ ∧ Stand p l e R s m args below meth c B.U B.locs B.cells B.slots ∧ PostX ⟨T.setVm vm₁, locs, cells, slots⟩ (Value.ref b :: argsL).toArray q B ∧
      Steps p.tables e below (T.setTop g) ((B.U.setTop { g with stack := rest }).pushFrame (.throwing q))) := by
  obtain ⟨mk, methM, hnamed, hmethM, hstM, habM⟩ := Cond.instanceMethod_spec hinst
  obtain ⟨m8, methM', cM, hn8, hmethM', -, -, -, -, -, -, hsigM⟩ := Cond.codeWith_spec hcode
  cases Option.some.inj (hn8.symm.trans hnamed)
  cases hmethM.symm.trans hmethM'
  obtain ⟨c2, r2, m2, q1, q2, q3, q4, kP, hkP, hkPi⟩ := Cond.selects_spec hsel
  cases hcls.symm.trans q1
  cases (State.methodFound?_of_named hnamed hy).symm.trans q2
  cases hnamed.symm.trans q3
  have hselP : selectMethod e.platform s.vm cellB.cls mk = .method mk := by rw [Launch.admits_selectMethod X.admits]; exact q4
  obtain ⟨vm₁, X₁, hstep₁⟩ := X.invokevirtual hexec hown hlink hnamed hmethM hstM hkP hkPi hy (a := b) (cell := cellB) hcell
    (fun z h => by rw [h] at hobj; cases hobj) hselP hmethM habM hkP hkPi (g := g) hg (argsL := argsL) (rest := rest) (hlen _ hsigM) hstack hdg
  rcases hK m meth c ⟨T.setVm vm₁, locs, cells, slots⟩ { g with stack := rest } (.invokevirtual index) mk (Value.ref b :: argsL).toArray X₁ hg hsize hdg hW (X₁.named hnamed) (hpre vm₁ X₁.warmed) with ⟨v, B, X', hpost, hsteps⟩ | ⟨q, B, X', hpost, hsteps⟩
  · exact Or.inl ⟨v, vm₁, B, X₁.warmed, X', hpost, fun target h => hstep₁ _ fun acts => by rw [doInvoke_state]; exact hsteps.trans h⟩
  · exact Or.inr ⟨q, vm₁, B, X₁.warmed, X', hpost, hstep₁ _ fun acts => by rw [doInvoke_state]; exact hsteps⟩
theorem vx_callSX (X : Stand p l e R s m args below meth c T locs cells slots) (hexec : p.tables.exec = Jvm.exec) {own : String} {index : Nat} {y : MethodName} {bytes : ByteArray} {maxL : Nat} {ret : Option FieldType} {hh : List (Nat × Nat × Nat × Nat)}
    (hown : s.vm.findClass own = some m.cls) (hlink : (Cond.methodLink own index y).before args s = true) (hstat : (Cond.static y).before args s = true) (hinit : (Cond.initialized y.cls).before args s = true)
    (hcode : (Cond.codeWith y bytes maxL ret hh).before args s = true) (hy : y.cls ≠ "java/lang/invoke/MethodHandle" ∧ y.cls ≠ "java/lang/invoke/VarHandle")
    {W9 : Nat} {Pre : Pt → Array Value → Prop} {Post : Pt → Array Value → Option Value → Pt → Prop} {PostX : Pt → Array Value → Addr → Pt → Prop} (hK : vx_Back l R p e below s args y 3 W9 Pre Post PostX)
    {g : JFrame} (hg : g.method = m) (hsize : g.locals.size = c.maxLocals) {argsL rest : List Value} (hlen : ∀ sig, parseMethodDescriptor y.desc = some sig → argsL.length = sig.parameters.length)
    (hstack : g.stack = argsL.reverse ++ rest) (hW : 2 * g.monitorRoom + (rest.map fun v => v.category).sum ≤ W9) (hdg : decode c.code g.pc = .ok (.invokestatic index, 3))
    (hpre : ∀ vm₁, s.WarmedH vm₁ → Pre ⟨T.setVm vm₁, locs, cells, slots⟩ argsL.toArray) :
    (∃ (v : Option Value) (vm₁ : Vm) (B : Pt), s.WarmedH vm₁ ∧ Stand p l e R s m args below meth c B.U B.locs B.cells B.slots ∧ Post ⟨T.setVm vm₁, locs, cells, slots⟩ argsL.toArray v B ∧
      ∀ target, Steps p.tables e below (B.U.setTop { g with pc := g.pc + 3, stack := v.toList ++ rest }) target → Steps p.tables e below (T.setTop g) target) ∨
    (∃ (q : Addr) (vm₁ : Vm) (B : Pt), s.WarmedH vm₁ ∧ Stand p l e R s m args below meth c B.U B.locs B.cells B.slots ∧ PostX ⟨T.setVm vm₁, locs, cells, slots⟩ argsL.toArray q B ∧
      Steps p.tables e below (T.setTop g) ((B.U.setTop { g with stack := rest }).pushFrame (.throwing q))) := by
  obtain ⟨mk, methM, cM, hnamed, hmethM, -, -, -, -, -, -, hsigM⟩ := Cond.codeWith_spec hcode
  have hstatic : methM.isStatic = true := Cond.static_spec hnamed hmethM hstat
  obtain ⟨kP, hkP, -⟩ := className_of_methodNamed hnamed
  have hinitP : kP.init = .initialized := Cond.initialized_spec (findClass_of_methodNamed hnamed) hkP hinit
  obtain ⟨vm₁, X₁, hstep₁⟩ := X.invokestatic hexec hown hlink hnamed hmethM hstatic hkP hinitP hy (g := g) hg (argsL := argsL) (rest := rest) (hlen _ hsigM) hstack hdg
  rcases hK m meth c ⟨T.setVm vm₁, locs, cells, slots⟩ { g with stack := rest } (.invokestatic index) mk argsL.toArray X₁ hg hsize hdg hW (X₁.named hnamed) (hpre vm₁ X₁.warmed) with ⟨v, B, X', hpost, hsteps⟩ | ⟨q, B, X', hpost, hsteps⟩
  · exact Or.inl ⟨v, vm₁, B, X₁.warmed, X', hpost, fun target h => hstep₁ _ fun acts => by rw [doInvoke_state]; exact hsteps.trans h⟩
  · exact Or.inr ⟨q, vm₁, B, X₁.warmed, X', hpost, hstep₁ _ fun acts => by rw [doInvoke_state]; exact hsteps⟩
theorem vx_callVW (X : Stand p l e R s m args below meth c T locs cells slots) (hexec : p.tables.exec = Jvm.exec) {own C : String} {index : Nat} {y : MethodName} {bytes : ByteArray} {maxL : Nat} {ret : Option FieldType} {hh : List (Nat × Nat × Nat × Nat)}
    (hown : s.vm.findClass own = some m.cls) (hlink : (Cond.methodLink own index y).before args s = true) (hinst : (Cond.instanceMethod y).before args s = true) (hsel : (Cond.selects C y y).before args s = true)
    (hcode : (Cond.codeWith y bytes maxL ret hh).before args s = true) (hy : y.cls ≠ "java/lang/invoke/MethodHandle" ∧ y.cls ≠ "java/lang/invoke/VarHandle")
    {W9 : Nat} {Pre : Pt → Array Value → Prop} {Post : Pt → Array Value → Option Value → Pt → Prop} (hK : Back l R p e below s args y 3 W9 Pre Post)
    {b : Addr} {cellB : Cell} (hcell : T.heap[b]? = some cellB) (hobj : cellB.vm.isStatics = false) (hcls : s.vm.findClass C = some cellB.cls)
    {g : JFrame} (hg : g.method = m) (hsize : g.locals.size = c.maxLocals) {argsL rest : List Value} (hlen : ∀ sig, parseMethodDescriptor y.desc = some sig → argsL.length = sig.parameters.length)
    (hstack : g.stack = argsL.reverse ++ .ref b :: rest) (hW : 2 * g.monitorRoom + (rest.map fun v => v.category).sum ≤ W9) (hdg : decode c.code g.pc = .ok (.invokevirtual index, 3))
    (hpre : ∀ vm₁, s.WarmedH vm₁ → Pre ⟨T.setVm vm₁, locs, cells, slots⟩ (Value.ref b :: argsL).toArray) :
    ∃ (v : Option Value) (vm₁ : Vm) (B : Pt), s.WarmedH vm₁ ∧ Stand p l e R s m args below meth c B.U B.locs B.cells B.slots ∧ Post ⟨T.setVm vm₁, locs, cells, slots⟩ (Value.ref b :: argsL).toArray v B ∧
      ∀ target, Steps p.tables e below (B.U.setTop { g with pc := g.pc + 3, stack := v.toList ++ rest }) target → Steps p.tables e below (T.setTop g) target := by
  obtain ⟨mk, methM, hnamed, hmethM, hstM, habM⟩ := Cond.instanceMethod_spec hinst
  obtain ⟨m8, methM', cM, hn8, hmethM', -, -, -, -, -, -, hsigM⟩ := Cond.codeWith_spec hcode
  cases Option.some.inj (hn8.symm.trans hnamed)
  cases hmethM.symm.trans hmethM'
  obtain ⟨c2, r2, m2, q1, q2, q3, q4, kP, hkP, hkPi⟩ := Cond.selects_spec hsel
  cases hcls.symm.trans q1
  cases (State.methodFound?_of_named hnamed hy).symm.trans q2
  cases hnamed.symm.trans q3
  have hselP : selectMethod e.platform s.vm cellB.cls mk = .method mk := by rw [Launch.admits_selectMethod X.admits]; exact q4
  obtain ⟨vm₁, X₁, hstep₁⟩ := X.invokevirtual hexec hown hlink hnamed hmethM hstM hkP hkPi hy (a := b) (cell := cellB) hcell
    (fun z h => by rw [h] at hobj; cases hobj) hselP hmethM habM hkP hkPi (g := g) hg (argsL := argsL) (rest := rest) (hlen _ hsigM) hstack hdg
  obtain ⟨v, B, X', hpost, hsteps⟩ := hK m meth c ⟨T.setVm vm₁, locs, cells, slots⟩ { g with stack := rest } (.invokevirtual index) mk (Value.ref b :: argsL).toArray X₁ hg hsize hdg hW (X₁.named hnamed) (hpre vm₁ X₁.warmed)
  exact ⟨v, vm₁, B, X₁.warmed, X', hpost, fun target h => hstep₁ _ fun acts => by rw [doInvoke_state]; exact hsteps.trans h⟩
abbrev vx_CVW (R : Room) (s : State) (args : Array Value) (own C : String) (index : Nat) (y : MethodName) (bytes : ByteArray) (maxL : Nat) (ret : Option FieldType) (hh : List (Nat × Nat × Nat × Nat)) (ws : List Cond) (rm : Room) (mc ms n : Nat) : Prop :=
  (rm.cells = mc ∧ rm.slots = ms ∧ rm.frames + 1 ≤ R.frames ∧ 8 + (maxL + 11) + rm.locals ≤ R.locals ∧ (∀ w ∈ ws, ∀ (a' : Array Value) (U : State), s.WarmedH U.vm → w.before a' U = true) ∧ Cond.codeWith y bytes maxL ret hh ∈ ws) ∧
  (Cond.codeWith y bytes maxL ret hh).before args s = true ∧ (Cond.initialized y.cls).before args s = true ∧ (y.cls ≠ "java/lang/invoke/MethodHandle" ∧ y.cls ≠ "java/lang/invoke/VarHandle") ∧
  (∀ sig, parseMethodDescriptor y.desc = some sig → n = sig.parameters.length) ∧ (Cond.methodLink own index y).before args s = true ∧ (Cond.instanceMethod y).before args s = true ∧ (Cond.selects C y y).before args s = true
theorem vx_cwVW {own C : String} {index maxL mc ms : Nat} {y : MethodName} {bytes : ByteArray} {ret : Option FieldType} {hh : List (Nat × Nat × Nat × Nat)} {Ts ws ws' : List Cond} {rm : Room} (n : Nat) (ht : ∀ w ∈ Ts, w.before args s = true) (hT : GoodIn Ts (wsV own index C y ws)) (hw : ws = Cond.codeWith y bytes maxL ret hh :: ws') (hrc : rm.cells = mc) (hrs : rm.slots = ms)
    (hd : y.cls = C ∧ y.cls ≠ "java/lang/invoke/MethodHandle" ∧ y.cls ≠ "java/lang/invoke/VarHandle" ∧ (parseMethodDescriptor y.desc).map (fun d => d.parameters.length) = some n) (hR : rm.frames + 1 ≤ R.frames ∧ 8 + (maxL + 11) + rm.locals ≤ R.locals) :
    vx_CVW R s args own C index y bytes maxL ret hh ws rm mc ms n := by
  obtain ⟨hC, hd⟩ := hd
  subst hC
  have ok : ∀ w ∈ wsV own index y.cls y ws, w.before args s = true := fun w h => ht w (hT w h).1
  have hG : GoodIn Ts ws := fun w h => hT w (by unfold wsV; exact List.mem_append_right _ h)
  have hc : Cond.codeWith y bytes maxL ret hh ∈ ws := by rw [hw]; exact List.mem_cons_self
  refine ⟨⟨hrc, hrs, hR.1, hR.2, pay_in ht hG, hc⟩, ht _ (hG _ hc).1, ok _ (by simp [wsV]), ⟨hd.1, hd.2.1⟩, fun sig h => ?_, ok _ (by simp [wsV]), ok _ (by simp [wsV]), ok _ (by simp [wsV])⟩
  have h2 := hd.2.2
  rw [h] at h2
  exact (Option.some.inj h2).symm
theorem vx_runVW {y : MethodName} {bytes cc : ByteArray} {maxL nL mc ms n index : Nat} {ret : Option FieldType} {hh : List (Nat × Nat × Nat × Nat)} {ws : List Cond} {rm : Room} {Pc : Array Value → State → Prop} {Qc : Array Value → State → Outcome → State → Prop} {free : Addr → Prop} {Ts : List Cond} {own C : String} {b : Addr} {As rest : List Value} {g : JFrame}
    (S : CallFix p m c cc nL s args Ts own) (hM : Met l y ws rm Pc Qc mc ms free) (cw : vx_CVW R s args own C index y bytes maxL ret hh ws rm mc ms n) (hp : PreV s H C b Pc As)
    (hg : g.method = m) (hn : As.length = n) (hsize : g.locals.size = nL) (hstack : g.stack = As.reverse ++ .ref b :: rest) (hW : 2 * g.monitorRoom + (rest.map fun v => v.category).sum ≤ 8) (hdg : decode cc g.pc = .ok (.invokevirtual index, 3)) (hf : cells + mc ≤ R.cells ∧ slots + ms ≤ R.slots) :
    va_Run p l e R s m args below meth c H locs cells slots mc ms g rest (Qc (Value.ref b :: As).toArray) free := by
  obtain ⟨⟨hrc, hrs, hfr, hlo, hws, hcw⟩, hcode, hini, hy, hlen, hl, hin, hse⟩ := cw
  have hK : Back l R p e below s args y 3 8 (PreOf R mc ms Pc) (PostOf Qc mc ms free) := va_backW (hh := hh) (bytes := bytes) (maxL := maxL) (ret := ret) hM hp.1 hrc hrs hfr hlo hws hcw (fun a' U hW => word_at hW (Or.inl (by first | rfl | simp [Cond.onTables, Cond.keeps, Cond.steady])) hini)
  obtain ⟨hx, hb, hml, ho, -⟩ := S
  obtain ⟨-, ⟨cellB, hcB, hoB, hclB⟩, hPc⟩ := hp
  intro T hT X
  obtain ⟨v, vm₁, ⟨U', l2, c2, s2⟩, hW₁, X', ⟨g', mk, t, L, e1, e2, hq, h1, hL, h2, h3⟩, st⟩ := vx_callVW X hx (C := C) (hh := hh) (bytes := bytes) (maxL := maxL) (ret := ret) ho hl hin hse hcode hy hK (by rw [hT]; exact hcB) hoB hclB hg (hsize.trans hml.symm) (argsL := As) (rest := rest) (fun sig h => hn.trans (hlen sig h)) hstack hW (by rw [hb]; exact hdg)
    (fun vm₁ hW₁ => ⟨hf.1, hf.2, hPc (T.setVm vm₁) hT hW₁⟩)
  dsimp only [Pt.U, Pt.locs, Pt.cells, Pt.slots] at X' e1 e2 h1 h2 h3 st
  subst h1; subst h2; subst h3
  exact ⟨v, (T.setVm vm₁).calling g' mk (Value.ref b :: As).toArray, t, U', L, hT, X', hL, e1, e2, hq, st⟩
section
variable {y : MethodName} {bytes cc : ByteArray} {maxL nL mc ms n index : Nat} {ret : Option FieldType} {ws : List Cond} {rm : Room} {Pc : Array Value → State → Prop} {Qc : Array Value → State → Outcome → State → Prop} {XC : String → State → State → Prop} {free : Addr → Prop} {Ts : List Cond} {own C : String} {b : Addr} {As rest : List Value} {g : JFrame}
theorem vx_runVX {hh : List (Nat × Nat × Nat × Nat)} (S : CallFix p m c cc nL s args Ts own) (hM : vx_Met l y ws rm Pc Qc XC mc ms free) (cw : vx_CVW R s args own C index y bytes maxL ret hh ws rm mc ms n) (hp : PreV s H C b Pc As)
    (hg : g.method = m) (hn : As.length = n) (hsize : g.locals.size = nL) (hstack : g.stack = As.reverse ++ .ref b :: rest) (hW : 2 * g.monitorRoom + (rest.map fun v => v.category).sum ≤ 8) (hdg : decode cc g.pc = .ok (.invokevirtual index, 3)) (hf : cells + mc ≤ R.cells ∧ slots + ms ≤ R.slots) :
    vx_Run p l e R s m args below meth c H locs cells slots mc ms g rest (Qc (Value.ref b :: As).toArray) XC free := by
  obtain ⟨⟨hrc, hrs, hfr, hlo, hws, hcw⟩, hcode, hini, hy, hlen, hl, hin, hse⟩ := cw
  have hK : vx_Back l R p e below s args y 3 8 (PreOf R mc ms Pc) (PostOf Qc mc ms free) (vx_Post XC mc ms free) := vx_backW (hh := hh) (bytes := bytes) (maxL := maxL) (ret := ret) hM hp.1 hrc hrs hfr hlo hws hcw (fun a' U hW => word_at hW (Or.inl (by first | rfl | simp [Cond.onTables, Cond.keeps, Cond.steady])) hini)
  obtain ⟨hx, hb, hml, ho, -⟩ := S
  obtain ⟨-, ⟨cellB, hcB, hoB, hclB⟩, hPc⟩ := hp
  intro T hT X
  rcases vx_callVX X hx (C := C) (hh := hh) (bytes := bytes) (maxL := maxL) (ret := ret) ho hl hin hse hcode hy hK (by rw [hT]; exact hcB) hoB hclB hg (hsize.trans hml.symm) (argsL := As) (rest := rest) (fun sig h => hn.trans (hlen sig h)) hstack hW (by rw [hb]; exact hdg)
    (fun vm₁ hW₁ => ⟨hf.1, hf.2, hPc (T.setVm vm₁) hT hW₁⟩) with ⟨v, vm₁, ⟨U', l2, c2, s2⟩, hW₁, X', ⟨g', mk, t, L, e1, e2, hq, h1, hL, h2, h3⟩, st⟩ | ⟨q, vm₁, ⟨U', l2, c2, s2⟩, hW₁, X', ⟨g', mk, t, L, E, ce, e1, e2, hq, hce, hcv, hcl, h1, hL, h2, h3⟩, st⟩
  · dsimp only [Pt.U, Pt.locs, Pt.cells, Pt.slots] at X' e1 e2 h1 h2 h3 st
    subst h1; subst h2; subst h3
    exact Or.inl ⟨v, (T.setVm vm₁).calling g' mk (Value.ref b :: As).toArray, t, U', L, hT, X', hL, e1, e2, hq, st⟩
  · dsimp only [Pt.U, Pt.locs, Pt.cells, Pt.slots] at X' e1 e2 h1 h2 h3 st hcl
    subst h1; subst h2; subst h3
    exact Or.inr ⟨q, (T.setVm vm₁).calling g' mk (Value.ref b :: As).toArray, t, U', L, E, ce, hT, X', hL, e1, e2, hq, hce, hcv, vx_cls hW₁ hcl, st⟩
theorem vx_runSX {hh : List (Nat × Nat × Nat × Nat)} (S : CallFix p m c cc nL s args Ts own) (hM : vx_Met l y ws rm Pc Qc XC mc ms free) (cw : vx_CSW R s args own index y bytes maxL ret hh ws rm mc ms n) (hp : PreS s H Pc As)
    (hg : g.method = m) (hn : As.length = n) (hsize : g.locals.size = nL) (hstack : g.stack = As.reverse ++ rest) (hW : 2 * g.monitorRoom + (rest.map fun v => v.category).sum ≤ 8) (hdg : decode cc g.pc = .ok (.invokestatic index, 3)) (hf : cells + mc ≤ R.cells ∧ slots + ms ≤ R.slots) :
    vx_Run p l e R s m args below meth c H locs cells slots mc ms g rest (Qc As.toArray) XC free := by
  obtain ⟨⟨hrc, hrs, hfr, hlo, hws, hcw⟩, hcode, hini, hy, hlen, hl, hstt⟩ := cw
  have hK : vx_Back l R p e below s args y 3 8 (PreOf R mc ms Pc) (PostOf Qc mc ms free) (vx_Post XC mc ms free) := vx_backW (hh := hh) (bytes := bytes) (maxL := maxL) (ret := ret) hM hp.1 hrc hrs hfr hlo hws hcw (fun a' U hW => word_at hW (Or.inl (by first | rfl | simp [Cond.onTables, Cond.keeps, Cond.steady])) hini)
  obtain ⟨hx, hb, hml, ho, -⟩ := S
  intro T hT X
  rcases vx_callSX X hx (hh := hh) (bytes := bytes) (maxL := maxL) (ret := ret) ho hl hstt hini hcode hy hK hg (hsize.trans hml.symm) (argsL := As) (rest := rest) (fun sig h => hn.trans (hlen sig h)) hstack hW (by rw [hb]; exact hdg)
    (fun vm₁ hW₁ => ⟨hf.1, hf.2, hp.2 (T.setVm vm₁) hT hW₁⟩) with ⟨v, vm₁, ⟨U', l2, c2, s2⟩, hW₁, X', ⟨g', mk, t, L, e1, e2, hq, h1, hL, h2, h3⟩, st⟩ | ⟨q, vm₁, ⟨U', l2, c2, s2⟩, hW₁, X', ⟨g', mk, t, L, E, ce, e1, e2, hq, hce, hcv, hcl, h1, hL, h2, h3⟩, st⟩
  · dsimp only [Pt.U, Pt.locs, Pt.cells, Pt.slots] at X' e1 e2 h1 h2 h3 st
    subst h1; subst h2; subst h3
    exact Or.inl ⟨v, (T.setVm vm₁).calling g' mk As.toArray, t, U', L, hT, X', hL, e1, e2, hq, st⟩
  · dsimp only [Pt.U, Pt.locs, Pt.cells, Pt.slots] at X' e1 e2 h1 h2 h3 st hcl
    subst h1; subst h2; subst h3
    exact Or.inr ⟨q, (T.setVm vm₁).calling g' mk As.toArray, t, U', L, E, ce, hT, X', hL, e1, e2, hq, hce, hcv, vx_cls hW₁ hcl, st⟩
end
end VXH
theorem vx_ofWH {l : Launch} {y : MethodName} {ws ws' : List Cond} {rm : Room} {Pc : Array Value → State → Prop} {Qc : Array Value → State → Outcome → State → Prop} {XC : String → State → State → Prop} {mc ms : Nat} {free : Addr → Prop} {cc : ByteArray} {maxL : Nat} {ret : Option FieldType} {hh : List (Nat × Nat × Nat × Nat)}
    (hy : plainName y.cls = true) (hw : ws = Cond.codeWith y cc maxL ret hh :: ws')
    (body : ∀ p e s m args below meth c s₁, BodyLoose p l y (headSpec ws rm) cc maxL ret e s m args below meth c s₁ → c.maxLocals = maxL → Pc args s →
      W p l e (headSpec ws rm).room s m args below meth c s.heap [] 0 0 (vx_MQ below Qc XC args s mc ms free) (entryFrame m args maxL)) : vx_Met l y ws rm Pc Qc XC mc ms free := by
  refine MetFree.of_bodyS (code := cc) (maxLocals := maxL) (ret := ret) hy ?_ ?_
  · intro args s m h hn
    obtain ⟨m9, meth, c, hn9, h1, h2, h3, h4, -, h5, h6, -⟩ := Cond.codeWith_spec (atoms_spec (ws := ws) h _ (by rw [hw]; exact List.mem_cons_self))
    cases hn.symm.trans hn9
    exact ⟨meth, c, h1, h2, h3, h4, h5, h6⟩
  · intro p e s m args below meth c s₁ B hml hP _
    have hh0 : s₁.heap = s.heap := by rw [B.state]; rfl
    obtain ⟨t, a1, o, b1, b2, b3⟩ := body p e s m args below meth c s₁ B hml hP s₁ hh0 (Stand.of_body B)
    exact ⟨t, o, a1, b1, b2, b3⟩
/-! ===== END ===== -/
end
section
/-! ===== BEGIN printed: names, fields, word lists, decode rows ===== -/
def RX0 : String := "RopeChoices$PlankRow"
def TX0 : u_T := fun k => match k with
  | 0 => ("RopeChoices$PlankRow", "sorted", "[I", true)
  | _ => ("RopeChoices$PlankRow", "length", "I", false)
def tyX0 : Nat → FieldType := fun k => match k with
  | 0 => .array .int
  | _ => .int
abbrev wsX00 : List Cond := u_ws RX0 TX0 2
theorem nmX0 : ∀ a, a < 2 → ∀ b, b < 2 → a ≠ b → (TX0 a).2.1 ≠ (TX0 b).2.1 := by decide +kernel
theorem tyX0_ok : ∀ k, k < 2 → parseFieldDescriptor (TX0 k).2.2.1 = some (tyX0 k) := by decide +kernel
abbrev cX0_init : ByteArray := prog_2_method_1_code
def yX0_init : MethodName := ⟨RX0, "<init>", "()V"⟩
abbrev cX0_empty : ByteArray := prog_2_method_2_code
def yX0_empty : MethodName := ⟨RX0, "empty", "()V"⟩
abbrev cX0_isBare : ByteArray := prog_2_method_3_code
def yX0_isBare : MethodName := ⟨RX0, "isBare", "()Z"⟩
abbrev cX0_put : ByteArray := prog_2_method_4_code
def yX0_put : MethodName := ⟨RX0, "put", "(I)V"⟩
abbrev cX0_middle : ByteArray := prog_2_method_5_code
def yX0_middle : MethodName := ⟨RX0, "middle", "()I"⟩
abbrev cX0_middleWith : ByteArray := prog_2_method_6_code
def yX0_middleWith : MethodName := ⟨RX0, "middleWith", "(I)I"⟩
def RX1 : String := "RopeChoices"
def TX1 : u_T := fun k => match k with
  | 0 => ("RopeChoices", "count", "I", false)
  | 1 => ("RopeChoices", "roundsGone", "I", false)
  | 2 => ("RopeChoices", "plankStrength", "I", false)
  | 3 => ("RopeChoices", "villages", "[I", true)
  | 4 => ("RopeChoices", "wishes", "[I", true)
  | 5 => ("RopeChoices", "reaches", "[I", true)
  | 6 => ("RopeChoices", "paces", "[I", true)
  | 7 => ("RopeChoices", "planks", "[I", true)
  | 8 => ("RopeChoices", "laterPlanks", "[I", true)
  | _ => ("RopeChoices", "row", "LRopeChoices$PlankRow;", true)
def tyX1 : Nat → FieldType := fun k => match k with
  | 0 => .int
  | 1 => .int
  | 2 => .int
  | 3 => .array .int
  | 4 => .array .int
  | 5 => .array .int
  | 6 => .array .int
  | 7 => .array .int
  | 8 => .array .int
  | _ => .object "RopeChoices$PlankRow"
abbrev wsX10 : List Cond := u_ws RX1 TX1 10
theorem nmX1 : ∀ a, a < 10 → ∀ b, b < 10 → a ≠ b → (TX1 a).2.1 ≠ (TX1 b).2.1 := by decide +kernel
theorem tyX1_ok : ∀ k, k < 10 → parseFieldDescriptor (TX1 k).2.2.1 = some (tyX1 k) := by decide +kernel
abbrev cX1_init : ByteArray := prog_1_method_1_code
def yX1_init : MethodName := ⟨RX1, "<init>", "()V"⟩
abbrev cX1_send : ByteArray := prog_1_method_2_code
def yX1_send : MethodName := ⟨RX1, "send", "(IIII)I"⟩
abbrev cX1_recall : ByteArray := prog_1_method_3_code
def yX1_recall : MethodName := ⟨RX1, "recall", "(I)I"⟩
abbrev cX1_persuade : ByteArray := prog_1_method_4_code
def yX1_persuade : MethodName := ⟨RX1, "persuade", "(II)I"⟩
abbrev cX1_lead : ByteArray := prog_1_method_5_code
def yX1_lead : MethodName := ⟨RX1, "lead", "(II)I"⟩
abbrev cX1_setStrength : ByteArray := prog_1_method_6_code
def yX1_setStrength : MethodName := ⟨RX1, "setStrength", "(I)I"⟩
abbrev cX1_passRounds : ByteArray := prog_1_method_7_code
def yX1_passRounds : MethodName := ⟨RX1, "passRounds", "(I)I"⟩
abbrev cX1_delegates : ByteArray := prog_1_method_8_code
def yX1_delegates : MethodName := ⟨RX1, "delegates", "()I"⟩
abbrev cX1_rounds : ByteArray := prog_1_method_9_code
def yX1_rounds : MethodName := ⟨RX1, "rounds", "()I"⟩
abbrev cX1_strength : ByteArray := prog_1_method_10_code
def yX1_strength : MethodName := ⟨RX1, "strength", "()I"⟩
abbrev cX1_villageOf : ByteArray := prog_1_method_11_code
def yX1_villageOf : MethodName := ⟨RX1, "villageOf", "(I)I"⟩
abbrev cX1_wishOf : ByteArray := prog_1_method_12_code
def yX1_wishOf : MethodName := ⟨RX1, "wishOf", "(I)I"⟩
abbrev cX1_reachOf : ByteArray := prog_1_method_13_code
def yX1_reachOf : MethodName := ⟨RX1, "reachOf", "(I)I"⟩
abbrev cX1_paceOf : ByteArray := prog_1_method_14_code
def yX1_paceOf : MethodName := ⟨RX1, "paceOf", "(I)I"⟩
abbrev cX1_plankOf : ByteArray := prog_1_method_15_code
def yX1_plankOf : MethodName := ⟨RX1, "plankOf", "(I)I"⟩
abbrev cX1_standingOn : ByteArray := prog_1_method_16_code
def yX1_standingOn : MethodName := ⟨RX1, "standingOn", "(I)I"⟩
abbrev cX1_spread : ByteArray := prog_1_method_17_code
def yX1_spread : MethodName := ⟨RX1, "spread", "()I"⟩
abbrev cX1_isTreaty : ByteArray := prog_1_method_18_code
def yX1_isTreaty : MethodName := ⟨RX1, "isTreaty", "()Z"⟩
abbrev cX1_compromise : ByteArray := prog_1_method_19_code
def yX1_compromise : MethodName := ⟨RX1, "compromise", "()I"⟩
abbrev cX1_compromiseOf : ByteArray := prog_1_method_20_code
def yX1_compromiseOf : MethodName := ⟨RX1, "compromiseOf", "(I)I"⟩
abbrev cX1_compromiseWithout : ByteArray := prog_1_method_21_code
def yX1_compromiseWithout : MethodName := ⟨RX1, "compromiseWithout", "(I)I"⟩
abbrev cX1_decisiveOne : ByteArray := prog_1_method_22_code
def yX1_decisiveOne : MethodName := ⟨RX1, "decisiveOne", "()I"⟩
abbrev cX1_discontentOf : ByteArray := prog_1_method_23_code
def yX1_discontentOf : MethodName := ⟨RX1, "discontentOf", "(I)I"⟩
abbrev cX1_allDiscontent : ByteArray := prog_1_method_24_code
def yX1_allDiscontent : MethodName := ⟨RX1, "allDiscontent", "()I"⟩
abbrev cX1_bestPlank : ByteArray := prog_1_method_25_code
def yX1_bestPlank : MethodName := ⟨RX1, "bestPlank", "()I"⟩
abbrev cX1_votesFor : ByteArray := prog_1_method_26_code
def yX1_votesFor : MethodName := ⟨RX1, "votesFor", "(II)I"⟩
abbrev cX1_winnerOf : ByteArray := prog_1_method_27_code
def yX1_winnerOf : MethodName := ⟨RX1, "winnerOf", "(II)I"⟩
abbrev cX1_canLeadTo : ByteArray := prog_1_method_28_code
def yX1_canLeadTo : MethodName := ⟨RX1, "canLeadTo", "(II)Z"⟩
abbrev cX1_wouldStepTo : ByteArray := prog_1_method_29_code
def yX1_wouldStepTo : MethodName := ⟨RX1, "wouldStepTo", "(I)I"⟩
abbrev cX1_isStill : ByteArray := prog_1_method_30_code
def yX1_isStill : MethodName := ⟨RX1, "isStill", "()Z"⟩
abbrev cX1_plankIn : ByteArray := prog_1_method_31_code
def yX1_plankIn : MethodName := ⟨RX1, "plankIn", "(II)I"⟩
abbrev cX1_compromiseIn : ByteArray := prog_1_method_32_code
def yX1_compromiseIn : MethodName := ⟨RX1, "compromiseIn", "(I)I"⟩
abbrev cX1_roundsUntilTreaty : ByteArray := prog_1_method_33_code
def yX1_roundsUntilTreaty : MethodName := ⟨RX1, "roundsUntilTreaty", "()I"⟩
abbrev cX1_roundsUntilStill : ByteArray := prog_1_method_34_code
def yX1_roundsUntilStill : MethodName := ⟨RX1, "roundsUntilStill", "()I"⟩
abbrev cX1_bestStand : ByteArray := prog_1_method_35_code
def yX1_bestStand : MethodName := ⟨RX1, "bestStand", "(I)I"⟩
abbrev cX1_meanPlank : ByteArray := prog_1_method_36_code
def yX1_meanPlank : MethodName := ⟨RX1, "meanPlank", "()D"⟩
abbrev cX1_digest : ByteArray := prog_1_method_37_code
def yX1_digest : MethodName := ⟨RX1, "digest", "()J"⟩
abbrev cX1_foldDelegate : ByteArray := prog_1_method_38_code
def yX1_foldDelegate : MethodName := ⟨RX1, "foldDelegate", "(JI)J"⟩
abbrev cX1_fold : ByteArray := prog_1_method_39_code
def yX1_fold : MethodName := ⟨RX1, "fold", "(JI)J"⟩
abbrev cX1_checkDelegate : ByteArray := prog_1_method_40_code
def yX1_checkDelegate : MethodName := ⟨RX1, "checkDelegate", "(I)V"⟩
abbrev cX1_checkVillage : ByteArray := prog_1_method_41_code
def yX1_checkVillage : MethodName := ⟨RX1, "checkVillage", "(I)V"⟩
abbrev cX1_checkPlank : ByteArray := prog_1_method_42_code
def yX1_checkPlank : MethodName := ⟨RX1, "checkPlank", "(I)V"⟩
abbrev cX1_checkTwoPlanks : ByteArray := prog_1_method_43_code
def yX1_checkTwoPlanks : MethodName := ⟨RX1, "checkTwoPlanks", "(II)V"⟩
abbrev cX1_checkReachAndPace : ByteArray := prog_1_method_44_code
def yX1_checkReachAndPace : MethodName := ⟨RX1, "checkReachAndPace", "(II)V"⟩
abbrev cX1_checkRounds : ByteArray := prog_1_method_45_code
def yX1_checkRounds : MethodName := ⟨RX1, "checkRounds", "(I)V"⟩
abbrev cX1_checkSomeoneThere : ByteArray := prog_1_method_46_code
def yX1_checkSomeoneThere : MethodName := ⟨RX1, "checkSomeoneThere", "()V"⟩
abbrev cX1_isWilling : ByteArray := prog_1_method_47_code
def yX1_isWilling : MethodName := ⟨RX1, "isWilling", "(II)Z"⟩
abbrev cX1_discontent : ByteArray := prog_1_method_48_code
def yX1_discontent : MethodName := ⟨RX1, "discontent", "(II)I"⟩
abbrev cX1_hasPlaceFor : ByteArray := prog_1_method_49_code
def yX1_hasPlaceFor : MethodName := ⟨RX1, "hasPlaceFor", "(II)Z"⟩
abbrev cX1_stepFrom : ByteArray := prog_1_method_50_code
def yX1_stepFrom : MethodName := ⟨RX1, "stepFrom", "(III)I"⟩
abbrev cX1_nearestWillingPlank : ByteArray := prog_1_method_51_code
def yX1_nearestWillingPlank : MethodName := ⟨RX1, "nearestWillingPlank", "(II)I"⟩
abbrev cX1_cutTo : ByteArray := prog_1_method_52_code
def yX1_cutTo : MethodName := ⟨RX1, "cutTo", "(III)I"⟩
abbrev cX1_closeGap : ByteArray := prog_1_method_53_code
def yX1_closeGap : MethodName := ⟨RX1, "closeGap", "([II)V"⟩
abbrev cX1_hasRoom : ByteArray := prog_1_method_54_code
def yX1_hasRoom : MethodName := ⟨RX1, "hasRoom", "([II)Z"⟩
abbrev cX1_crowdOn : ByteArray := prog_1_method_55_code
def yX1_crowdOn : MethodName := ⟨RX1, "crowdOn", "([II)I"⟩
abbrev cX1_distanceOfEnds : ByteArray := prog_1_method_56_code
def yX1_distanceOfEnds : MethodName := ⟨RX1, "distanceOfEnds", "([I)I"⟩
abbrev cX1_agreesAt : ByteArray := prog_1_method_57_code
def yX1_agreesAt : MethodName := ⟨RX1, "agreesAt", "([I)Z"⟩
abbrev cX1_hasTwoVillages : ByteArray := prog_1_method_58_code
def yX1_hasTwoVillages : MethodName := ⟨RX1, "hasTwoVillages", "()Z"⟩
abbrev cX1_discontentOfAll : ByteArray := prog_1_method_59_code
def yX1_discontentOfAll : MethodName := ⟨RX1, "discontentOfAll", "(I)I"⟩
abbrev cX1_countVotes : ByteArray := prog_1_method_60_code
def yX1_countVotes : MethodName := ⟨RX1, "countVotes", "(II)I"⟩
abbrev cX1_middleOfAll : ByteArray := prog_1_method_61_code
def yX1_middleOfAll : MethodName := ⟨RX1, "middleOfAll", "([I)I"⟩
abbrev cX1_gatherVillage : ByteArray := prog_1_method_62_code
def yX1_gatherVillage : MethodName := ⟨RX1, "gatherVillage", "(I)V"⟩
abbrev cX1_gatherOthers : ByteArray := prog_1_method_63_code
def yX1_gatherOthers : MethodName := ⟨RX1, "gatherOthers", "(I)V"⟩
abbrev cX1_copyPlanksToLater : ByteArray := prog_1_method_64_code
def yX1_copyPlanksToLater : MethodName := ⟨RX1, "copyPlanksToLater", "()V"⟩
abbrev cX1_goRounds : ByteArray := prog_1_method_65_code
def yX1_goRounds : MethodName := ⟨RX1, "goRounds", "([II)I"⟩
abbrev cX1_goRound : ByteArray := prog_1_method_66_code
def yX1_goRound : MethodName := ⟨RX1, "goRound", "([I)I"⟩
def RX2 : String := "RopeChoicesModel"
def TX2 : u_T := fun k => match k with
  | 0 => ("RopeChoicesModel", "thrown", "I", false)
  | 1 => ("RopeChoicesModel", "many", "I", false)
  | 2 => ("RopeChoicesModel", "rounds", "I", false)
  | 3 => ("RopeChoicesModel", "strength", "I", false)
  | 4 => ("RopeChoicesModel", "village", "[I", true)
  | 5 => ("RopeChoicesModel", "wish", "[I", true)
  | 6 => ("RopeChoicesModel", "reach", "[I", true)
  | 7 => ("RopeChoicesModel", "pace", "[I", true)
  | 8 => ("RopeChoicesModel", "plank", "[I", true)
  | 9 => ("RopeChoicesModel", "kept", "[I", true)
  | _ => ("RopeChoicesModel", "count", "[I", true)
def tyX2 : Nat → FieldType := fun k => match k with
  | 0 => .int
  | 1 => .int
  | 2 => .int
  | 3 => .int
  | 4 => .array .int
  | 5 => .array .int
  | 6 => .array .int
  | 7 => .array .int
  | 8 => .array .int
  | 9 => .array .int
  | _ => .array .int
abbrev wsX20 : List Cond := u_ws RX2 TX2 11
theorem nmX2 : ∀ a, a < 11 → ∀ b, b < 11 → a ≠ b → (TX2 a).2.1 ≠ (TX2 b).2.1 := by decide +kernel
theorem tyX2_ok : ∀ k, k < 11 → parseFieldDescriptor (TX2 k).2.2.1 = some (tyX2 k) := by decide +kernel
abbrev cX2_init : ByteArray := prog_4_method_1_code
def yX2_init : MethodName := ⟨RX2, "<init>", "()V"⟩
abbrev cX2_thrown : ByteArray := prog_4_method_2_code
def yX2_thrown : MethodName := ⟨RX2, "thrown", "()I"⟩
abbrev cX2_fail : ByteArray := prog_4_method_3_code
def yX2_fail : MethodName := ⟨RX2, "fail", "(I)I"⟩
abbrev cX2_told : ByteArray := prog_4_method_4_code
def yX2_told : MethodName := ⟨RX2, "told", "(I)I"⟩
abbrev cX2_isIn : ByteArray := prog_4_method_5_code
def yX2_isIn : MethodName := ⟨RX2, "isIn", "(III)Z"⟩
abbrev cX2_isDelegate : ByteArray := prog_4_method_6_code
def yX2_isDelegate : MethodName := ⟨RX2, "isDelegate", "(I)Z"⟩
abbrev cX2_isPlank : ByteArray := prog_4_method_7_code
def yX2_isPlank : MethodName := ⟨RX2, "isPlank", "(I)Z"⟩
abbrev cX2_isVillage : ByteArray := prog_4_method_8_code
def yX2_isVillage : MethodName := ⟨RX2, "isVillage", "(I)Z"⟩
abbrev cX2_keep : ByteArray := prog_4_method_9_code
def yX2_keep : MethodName := ⟨RX2, "keep", "()V"⟩
abbrev cX2_bringBack : ByteArray := prog_4_method_10_code
def yX2_bringBack : MethodName := ⟨RX2, "bringBack", "()V"⟩
abbrev cX2_standing : ByteArray := prog_4_method_11_code
def yX2_standing : MethodName := ⟨RX2, "standing", "(I)I"⟩
abbrev cX2_hasRoom : ByteArray := prog_4_method_12_code
def yX2_hasRoom : MethodName := ⟨RX2, "hasRoom", "(I)Z"⟩
abbrev cX2_isWilling : ByteArray := prog_4_method_13_code
def yX2_isWilling : MethodName := ⟨RX2, "isWilling", "(II)Z"⟩
abbrev cX2_median : ByteArray := prog_4_method_14_code
def yX2_median : MethodName := ⟨RX2, "median", "(II)I"⟩
abbrev cX2_middle : ByteArray := prog_4_method_15_code
def yX2_middle : MethodName := ⟨RX2, "middle", "()I"⟩
abbrev cX2_step : ByteArray := prog_4_method_16_code
def yX2_step : MethodName := ⟨RX2, "step", "(II)I"⟩
abbrev cX2_roundOn : ByteArray := prog_4_method_17_code
def yX2_roundOn : MethodName := ⟨RX2, "roundOn", "()I"⟩
abbrev cX2_wide : ByteArray := prog_4_method_18_code
def yX2_wide : MethodName := ⟨RX2, "wide", "()I"⟩
abbrev cX2_agree : ByteArray := prog_4_method_19_code
def yX2_agree : MethodName := ⟨RX2, "agree", "()Z"⟩
abbrev cX2_still : ByteArray := prog_4_method_20_code
def yX2_still : MethodName := ⟨RX2, "still", "()Z"⟩
abbrev cX2_send : ByteArray := prog_4_method_21_code
def yX2_send : MethodName := ⟨RX2, "send", "(IIII)I"⟩
abbrev cX2_close : ByteArray := prog_4_method_22_code
def yX2_close : MethodName := ⟨RX2, "close", "([III)V"⟩
abbrev cX2_recall : ByteArray := prog_4_method_23_code
def yX2_recall : MethodName := ⟨RX2, "recall", "(I)I"⟩
abbrev cX2_persuade : ByteArray := prog_4_method_24_code
def yX2_persuade : MethodName := ⟨RX2, "persuade", "(II)I"⟩
abbrev cX2_can : ByteArray := prog_4_method_25_code
def yX2_can : MethodName := ⟨RX2, "can", "(II)Z"⟩
abbrev cX2_lead : ByteArray := prog_4_method_26_code
def yX2_lead : MethodName := ⟨RX2, "lead", "(II)I"⟩
abbrev cX2_setStrength : ByteArray := prog_4_method_27_code
def yX2_setStrength : MethodName := ⟨RX2, "setStrength", "(I)I"⟩
abbrev cX2_passRounds : ByteArray := prog_4_method_28_code
def yX2_passRounds : MethodName := ⟨RX2, "passRounds", "(I)I"⟩
abbrev cX2_delegates : ByteArray := prog_4_method_29_code
def yX2_delegates : MethodName := ⟨RX2, "delegates", "()I"⟩
abbrev cX2_rounds : ByteArray := prog_4_method_30_code
def yX2_rounds : MethodName := ⟨RX2, "rounds", "()I"⟩
abbrev cX2_strength : ByteArray := prog_4_method_31_code
def yX2_strength : MethodName := ⟨RX2, "strength", "()I"⟩
abbrev cX2_of : ByteArray := prog_4_method_32_code
def yX2_of : MethodName := ⟨RX2, "of", "(I[I)I"⟩
abbrev cX2_villageOf : ByteArray := prog_4_method_33_code
def yX2_villageOf : MethodName := ⟨RX2, "villageOf", "(I)I"⟩
abbrev cX2_wishOf : ByteArray := prog_4_method_34_code
def yX2_wishOf : MethodName := ⟨RX2, "wishOf", "(I)I"⟩
abbrev cX2_reachOf : ByteArray := prog_4_method_35_code
def yX2_reachOf : MethodName := ⟨RX2, "reachOf", "(I)I"⟩
abbrev cX2_paceOf : ByteArray := prog_4_method_36_code
def yX2_paceOf : MethodName := ⟨RX2, "paceOf", "(I)I"⟩
abbrev cX2_plankOf : ByteArray := prog_4_method_37_code
def yX2_plankOf : MethodName := ⟨RX2, "plankOf", "(I)I"⟩
abbrev cX2_standingOn : ByteArray := prog_4_method_38_code
def yX2_standingOn : MethodName := ⟨RX2, "standingOn", "(I)I"⟩
abbrev cX2_spread : ByteArray := prog_4_method_39_code
def yX2_spread : MethodName := ⟨RX2, "spread", "()I"⟩
abbrev cX2_isTreaty : ByteArray := prog_4_method_40_code
def yX2_isTreaty : MethodName := ⟨RX2, "isTreaty", "()Z"⟩
abbrev cX2_compromise : ByteArray := prog_4_method_41_code
def yX2_compromise : MethodName := ⟨RX2, "compromise", "()I"⟩
abbrev cX2_compromiseOf : ByteArray := prog_4_method_42_code
def yX2_compromiseOf : MethodName := ⟨RX2, "compromiseOf", "(I)I"⟩
abbrev cX2_compromiseWithout : ByteArray := prog_4_method_43_code
def yX2_compromiseWithout : MethodName := ⟨RX2, "compromiseWithout", "(I)I"⟩
abbrev cX2_decisive : ByteArray := prog_4_method_44_code
def yX2_decisive : MethodName := ⟨RX2, "decisive", "()I"⟩
abbrev cX2_decisiveOne : ByteArray := prog_4_method_45_code
def yX2_decisiveOne : MethodName := ⟨RX2, "decisiveOne", "()I"⟩
abbrev cX2_apart : ByteArray := prog_4_method_46_code
def yX2_apart : MethodName := ⟨RX2, "apart", "(II)I"⟩
abbrev cX2_discontentOf : ByteArray := prog_4_method_47_code
def yX2_discontentOf : MethodName := ⟨RX2, "discontentOf", "(I)I"⟩
abbrev cX2_allApart : ByteArray := prog_4_method_48_code
def yX2_allApart : MethodName := ⟨RX2, "allApart", "(I)I"⟩
abbrev cX2_allDiscontent : ByteArray := prog_4_method_49_code
def yX2_allDiscontent : MethodName := ⟨RX2, "allDiscontent", "()I"⟩
abbrev cX2_best : ByteArray := prog_4_method_50_code
def yX2_best : MethodName := ⟨RX2, "best", "()I"⟩
abbrev cX2_bestPlank : ByteArray := prog_4_method_51_code
def yX2_bestPlank : MethodName := ⟨RX2, "bestPlank", "()I"⟩
abbrev cX2_votes : ByteArray := prog_4_method_52_code
def yX2_votes : MethodName := ⟨RX2, "votes", "(II)I"⟩
abbrev cX2_areTwo : ByteArray := prog_4_method_53_code
def yX2_areTwo : MethodName := ⟨RX2, "areTwo", "(II)Z"⟩
abbrev cX2_votesFor : ByteArray := prog_4_method_54_code
def yX2_votesFor : MethodName := ⟨RX2, "votesFor", "(II)I"⟩
abbrev cX2_winnerOf : ByteArray := prog_4_method_55_code
def yX2_winnerOf : MethodName := ⟨RX2, "winnerOf", "(II)I"⟩
abbrev cX2_canLeadTo : ByteArray := prog_4_method_56_code
def yX2_canLeadTo : MethodName := ⟨RX2, "canLeadTo", "(II)Z"⟩
abbrev cX2_wouldStepTo : ByteArray := prog_4_method_57_code
def yX2_wouldStepTo : MethodName := ⟨RX2, "wouldStepTo", "(I)I"⟩
abbrev cX2_isStill : ByteArray := prog_4_method_58_code
def yX2_isStill : MethodName := ⟨RX2, "isStill", "()Z"⟩
abbrev cX2_plankIn : ByteArray := prog_4_method_59_code
def yX2_plankIn : MethodName := ⟨RX2, "plankIn", "(II)I"⟩
abbrev cX2_compromiseIn : ByteArray := prog_4_method_60_code
def yX2_compromiseIn : MethodName := ⟨RX2, "compromiseIn", "(I)I"⟩
abbrev cX2_roundsUntilTreaty : ByteArray := prog_4_method_61_code
def yX2_roundsUntilTreaty : MethodName := ⟨RX2, "roundsUntilTreaty", "()I"⟩
abbrev cX2_untilStill : ByteArray := prog_4_method_62_code
def yX2_untilStill : MethodName := ⟨RX2, "untilStill", "()I"⟩
abbrev cX2_roundsUntilStill : ByteArray := prog_4_method_63_code
def yX2_roundsUntilStill : MethodName := ⟨RX2, "roundsUntilStill", "()I"⟩
abbrev cX2_stand : ByteArray := prog_4_method_64_code
def yX2_stand : MethodName := ⟨RX2, "stand", "(I)I"⟩
abbrev cX2_bestStand : ByteArray := prog_4_method_65_code
def yX2_bestStand : MethodName := ⟨RX2, "bestStand", "(I)I"⟩
abbrev cX2_meanPlank : ByteArray := prog_4_method_66_code
def yX2_meanPlank : MethodName := ⟨RX2, "meanPlank", "()D"⟩
abbrev cX2_digest : ByteArray := prog_4_method_67_code
def yX2_digest : MethodName := ⟨RX2, "digest", "()J"⟩
def RJ9 : String := "java/lang/Math"
def TJ9 : u_T := fun k => match k with
  | _ => ("", "", "", false)
def tyJ9 : Nat → FieldType := fun k => match k with
  | _ => .int
abbrev wsJ90 : List Cond := u_ws RJ9 TJ9 0
theorem nmJ9 : ∀ a, a < 0 → ∀ b, b < 0 → a ≠ b → (TJ9 a).2.1 ≠ (TJ9 b).2.1 := by decide +kernel
theorem tyJ9_ok : ∀ k, k < 0 → parseFieldDescriptor (TJ9 k).2.2.1 = some (tyJ9 k) := by decide +kernel
abbrev cJ9_abs_0f7a4 : ByteArray := prog_9_method_59_code
def yJ9_abs_0f7a4 : MethodName := ⟨RJ9, "abs", "(I)I"⟩
abbrev cJ9_max_7cf53 : ByteArray := prog_9_method_65_code
def yJ9_max_7cf53 : MethodName := ⟨RJ9, "max", "(II)I"⟩
abbrev cJ9_min_7cf53 : ByteArray := prog_9_method_69_code
def yJ9_min_7cf53 : MethodName := ⟨RJ9, "min", "(II)I"⟩
def RJ0 : String := "java/lang/String"
def TJ0 : u_T := fun k => match k with
  | _ => ("", "", "", false)
def tyJ0 : Nat → FieldType := fun k => match k with
  | _ => .int
abbrev wsJ00 : List Cond := u_ws RJ0 TJ0 0
theorem nmJ0 : ∀ a, a < 0 → ∀ b, b < 0 → a ≠ b → (TJ0 a).2.1 ≠ (TJ0 b).2.1 := by decide +kernel
theorem tyJ0_ok : ∀ k, k < 0 → parseFieldDescriptor (TJ0 k).2.2.1 = some (tyJ0 k) := by decide +kernel
def RJ10 : String := "java/lang/System"
def TJ10 : u_T := fun k => match k with
  | _ => ("", "", "", false)
def tyJ10 : Nat → FieldType := fun k => match k with
  | _ => .int
abbrev wsJ100 : List Cond := u_ws RJ10 TJ10 0
theorem nmJ10 : ∀ a, a < 0 → ∀ b, b < 0 → a ≠ b → (TJ10 a).2.1 ≠ (TJ10 b).2.1 := by decide +kernel
theorem tyJ10_ok : ∀ k, k < 0 → parseFieldDescriptor (TJ10 k).2.2.1 = some (tyJ10 k) := by decide +kernel
def RL : String := "RopeChoicesLaw"
abbrev cL_send : ByteArray := method_3_code
def yL_send : MethodName := ⟨RL, "send", "(LRopeChoices;IIII[J)I"⟩
abbrev cL_recall : ByteArray := method_4_code
def yL_recall : MethodName := ⟨RL, "recall", "(LRopeChoices;I[J)I"⟩
abbrev cL_persuade : ByteArray := method_5_code
def yL_persuade : MethodName := ⟨RL, "persuade", "(LRopeChoices;II[J)I"⟩
abbrev cL_lead : ByteArray := method_6_code
def yL_lead : MethodName := ⟨RL, "lead", "(LRopeChoices;II[J)I"⟩
abbrev cL_setStrength : ByteArray := method_7_code
def yL_setStrength : MethodName := ⟨RL, "setStrength", "(LRopeChoices;I[J)I"⟩
abbrev cL_passRounds : ByteArray := method_8_code
def yL_passRounds : MethodName := ⟨RL, "passRounds", "(LRopeChoices;I[J)I"⟩
abbrev cL_villageOf : ByteArray := method_9_code
def yL_villageOf : MethodName := ⟨RL, "villageOf", "(LRopeChoices;I[J)I"⟩
abbrev cL_wishOf : ByteArray := method_10_code
def yL_wishOf : MethodName := ⟨RL, "wishOf", "(LRopeChoices;I[J)I"⟩
abbrev cL_reachOf : ByteArray := method_11_code
def yL_reachOf : MethodName := ⟨RL, "reachOf", "(LRopeChoices;I[J)I"⟩
abbrev cL_paceOf : ByteArray := method_12_code
def yL_paceOf : MethodName := ⟨RL, "paceOf", "(LRopeChoices;I[J)I"⟩
abbrev cL_plankOf : ByteArray := method_13_code
def yL_plankOf : MethodName := ⟨RL, "plankOf", "(LRopeChoices;I[J)I"⟩
abbrev cL_standingOn : ByteArray := method_14_code
def yL_standingOn : MethodName := ⟨RL, "standingOn", "(LRopeChoices;I[J)I"⟩
abbrev cL_compromise : ByteArray := method_15_code
def yL_compromise : MethodName := ⟨RL, "compromise", "(LRopeChoices;[J)I"⟩
abbrev cL_compromiseOf : ByteArray := method_16_code
def yL_compromiseOf : MethodName := ⟨RL, "compromiseOf", "(LRopeChoices;I[J)I"⟩
abbrev cL_compromiseWithout : ByteArray := method_17_code
def yL_compromiseWithout : MethodName := ⟨RL, "compromiseWithout", "(LRopeChoices;I[J)I"⟩
abbrev cL_decisiveOne : ByteArray := method_18_code
def yL_decisiveOne : MethodName := ⟨RL, "decisiveOne", "(LRopeChoices;[J)I"⟩
abbrev cL_discontentOf : ByteArray := method_19_code
def yL_discontentOf : MethodName := ⟨RL, "discontentOf", "(LRopeChoices;I[J)I"⟩
abbrev cL_bestPlank : ByteArray := method_20_code
def yL_bestPlank : MethodName := ⟨RL, "bestPlank", "(LRopeChoices;[J)I"⟩
abbrev cL_votesFor : ByteArray := method_21_code
def yL_votesFor : MethodName := ⟨RL, "votesFor", "(LRopeChoices;II[J)I"⟩
abbrev cL_winnerOf : ByteArray := method_22_code
def yL_winnerOf : MethodName := ⟨RL, "winnerOf", "(LRopeChoices;II[J)I"⟩
abbrev cL_canLeadTo : ByteArray := method_23_code
def yL_canLeadTo : MethodName := ⟨RL, "canLeadTo", "(LRopeChoices;II[J)I"⟩
abbrev cL_wouldStepTo : ByteArray := method_24_code
def yL_wouldStepTo : MethodName := ⟨RL, "wouldStepTo", "(LRopeChoices;I[J)I"⟩
abbrev cL_plankIn : ByteArray := method_25_code
def yL_plankIn : MethodName := ⟨RL, "plankIn", "(LRopeChoices;II[J)I"⟩
abbrev cL_compromiseIn : ByteArray := method_26_code
def yL_compromiseIn : MethodName := ⟨RL, "compromiseIn", "(LRopeChoices;I[J)I"⟩
abbrev cL_bestStand : ByteArray := method_27_code
def yL_bestStand : MethodName := ⟨RL, "bestStand", "(LRopeChoices;I[J)I"⟩
abbrev cL_law : ByteArray := code
def yL_law : MethodName := ⟨RL, "law", "([I)Z"⟩
def wsX0_init : List Cond := .code yX0_init cX0_init 1 none :: ([.methodLink RX0 3 objectInit, .instanceMethod objectInit, .code objectInit ⟨#[0xb1]⟩ 1 none, .arrayClass .int, .fieldLink RX0 9 "RopeChoices$PlankRow" "sorted" "[I", .fieldLink RX0 15 "RopeChoices$PlankRow" "length" "I"] ++ wsX00)
def wsX0_empty : List Cond := .code yX0_empty cX0_empty 1 none :: ([.fieldLink RX0 15 "RopeChoices$PlankRow" "length" "I"] ++ wsX00)
def wsX0_isBare : List Cond := .code yX0_isBare cX0_isBare 1 (some .boolean) :: ([.fieldLink RX0 15 "RopeChoices$PlankRow" "length" "I"] ++ wsX00)
def wsX0_put : List Cond := .code yX0_put cX0_put 3 none :: ([.fieldLink RX0 15 "RopeChoices$PlankRow" "length" "I", .fieldLink RX0 9 "RopeChoices$PlankRow" "sorted" "[I"] ++ wsX00)
def wsX0_middle : List Cond := .code yX0_middle cX0_middle 1 (some .int) :: ([.fieldLink RX0 15 "RopeChoices$PlankRow" "length" "I", .fieldLink RX0 9 "RopeChoices$PlankRow" "sorted" "[I"] ++ wsX00)
def wsX1_cutTo : List Cond := .code yX1_cutTo cX1_cutTo 3 (some .int) :: ([.methodLink RX1 146 Lib.Math.min.name, .static Lib.Math.min.name, .initialized "java/lang/Math", .code Lib.Math.min.name Lib.Math.min.code 2 (some .int), .methodLink RX1 260 Lib.Math.max.name, .static Lib.Math.max.name, .code Lib.Math.max.name Lib.Math.max.code 2 (some .int)])
def wsX0_middleWith : List Cond := .code yX0_middleWith cX0_middleWith 5 (some .int) :: ([.fieldLink RX0 15 "RopeChoices$PlankRow" "length" "I", .fieldLink RX0 9 "RopeChoices$PlankRow" "sorted" "[I", .static yX1_cutTo, .initialized RX1, .code yX1_cutTo cX1_cutTo 3 (some .int), .methodLink RX1 146 Lib.Math.min.name, .static Lib.Math.min.name, .initialized "java/lang/Math", .code Lib.Math.min.name Lib.Math.min.code 2 (some .int), .methodLink RX1 260 Lib.Math.max.name, .static Lib.Math.max.name, .code Lib.Math.max.name Lib.Math.max.code 2 (some .int)] ++ wsX00)
def wsX1_init : List Cond := .code yX1_init cX1_init 1 none :: ([.methodLink RX1 1 objectInit, .instanceMethod objectInit, .code objectInit ⟨#[0xb1]⟩ 1 none, .fieldLink RX1 7 "RopeChoices" "count" "I", .fieldLink RX1 13 "RopeChoices" "roundsGone" "I", .fieldLink RX1 16 "RopeChoices" "plankStrength" "I", .arrayClass .int, .fieldLink RX1 19 "RopeChoices" "villages" "[I", .fieldLink RX1 23 "RopeChoices" "wishes" "[I", .fieldLink RX1 26 "RopeChoices" "reaches" "[I", .fieldLink RX1 29 "RopeChoices" "paces" "[I", .fieldLink RX1 32 "RopeChoices" "planks" "[I", .fieldLink RX1 35 "RopeChoices" "laterPlanks" "[I", .classLink RX1 38 RX0, .instantiable RX0 2, .initialized RX0, .fieldLink RX1 41 "RopeChoices" "row" "LRopeChoices$PlankRow;", .instanceMethod yX0_init, .code yX0_init cX0_init 1 none, .methodLink RX0 3 objectInit, .fieldLink RX0 9 "RopeChoices$PlankRow" "sorted" "[I", .fieldLink RX0 15 "RopeChoices$PlankRow" "length" "I"] ++ wsX10 ++ wsX00)
def wsX1_checkVillage : List Cond := .code yX1_checkVillage cX1_checkVillage 1 none :: ([.classLink RX1 232 "java/lang/IndexOutOfBoundsException", .initialized "java/lang/IndexOutOfBoundsException"] ++ (vx_atS RX1 236 "java/lang/IndexOutOfBoundsException" ["java/lang/RuntimeException", "java/lang/Exception"]).filter goodWord)
def wsX1_checkPlank : List Cond := .code yX1_checkPlank cX1_checkPlank 1 none :: ([.classLink RX1 232 "java/lang/IndexOutOfBoundsException", .initialized "java/lang/IndexOutOfBoundsException"] ++ (vx_atS RX1 236 "java/lang/IndexOutOfBoundsException" ["java/lang/RuntimeException", "java/lang/Exception"]).filter goodWord)
def wsX1_checkReachAndPace : List Cond := .code yX1_checkReachAndPace cX1_checkReachAndPace 2 none :: ([.classLink RX1 85 "java/lang/IllegalArgumentException", .initialized "java/lang/IllegalArgumentException"] ++ (vx_atS RX1 89 "java/lang/IllegalArgumentException" ["java/lang/RuntimeException", "java/lang/Exception"]).filter goodWord)
def wsX1_crowdOn : List Cond := .code yX1_crowdOn cX1_crowdOn 5 (some .int) :: ([.fieldLink RX1 7 "RopeChoices" "count" "I"] ++ wsX10)
def wsX1_hasRoom : List Cond := .code yX1_hasRoom cX1_hasRoom 3 (some .boolean) :: ([.fieldLink RX1 16 "RopeChoices" "plankStrength" "I", .methodLink RX1 97 yX1_crowdOn, .instanceMethod yX1_crowdOn, .selects RX1 yX1_crowdOn yX1_crowdOn, .initialized RX1, .code yX1_crowdOn cX1_crowdOn 5 (some .int), .fieldLink RX1 7 "RopeChoices" "count" "I"] ++ wsX10)
def wsX1_send_r1 : List Cond := [Cond.classLink RX1 56 "java/lang/IllegalStateException", Cond.initialized "java/lang/IllegalStateException", Cond.fieldLink RX1 7 "RopeChoices" "count" "I", Cond.fieldLink RX1 32 "RopeChoices" "planks" "[I", Cond.fieldLink RX1 19 "RopeChoices" "villages" "[I", Cond.fieldLink RX1 23 "RopeChoices" "wishes" "[I", Cond.fieldLink RX1 26 "RopeChoices" "reaches" "[I", Cond.fieldLink RX1 29 "RopeChoices" "paces" "[I", Cond.methodLink RX1 45 yX1_checkVillage, Cond.static yX1_checkVillage, Cond.initialized RX1, Cond.code yX1_checkVillage cX1_checkVillage 1 none, Cond.classLink RX1 232 "java/lang/IndexOutOfBoundsException", Cond.initialized "java/lang/IndexOutOfBoundsException", Cond.methodLink RX1 49 yX1_checkPlank, Cond.static yX1_checkPlank, Cond.code yX1_checkPlank cX1_checkPlank 1 none, Cond.methodLink RX1 52 yX1_checkReachAndPace, Cond.static yX1_checkReachAndPace, Cond.code yX1_checkReachAndPace cX1_checkReachAndPace 2 none, Cond.classLink RX1 85 "java/lang/IllegalArgumentException", Cond.initialized "java/lang/IllegalArgumentException", Cond.methodLink RX1 63 yX1_hasRoom, Cond.instanceMethod yX1_hasRoom]
def wsX1_send_r2 : List Cond := [Cond.selects RX1 yX1_hasRoom yX1_hasRoom, Cond.code yX1_hasRoom cX1_hasRoom 3 (some .boolean), Cond.fieldLink RX1 16 "RopeChoices" "plankStrength" "I", Cond.methodLink RX1 97 yX1_crowdOn, Cond.instanceMethod yX1_crowdOn, Cond.selects RX1 yX1_crowdOn yX1_crowdOn, Cond.code yX1_crowdOn cX1_crowdOn 5 (some .int)]
def wsX1_send : List Cond := .code yX1_send cX1_send 6 (some .int) :: ((wsX1_send_r1 ++ wsX1_send_r2) ++ wsX10 ++ (vx_atS RX1 60 "java/lang/IllegalStateException" ["java/lang/RuntimeException", "java/lang/Exception"]).filter goodWord ++ (vx_atS RX1 236 "java/lang/IndexOutOfBoundsException" ["java/lang/RuntimeException", "java/lang/Exception"]).filter goodWord ++ (vx_atS RX1 89 "java/lang/IllegalArgumentException" ["java/lang/RuntimeException", "java/lang/Exception"]).filter goodWord)
def wsX1_checkDelegate : List Cond := .code yX1_checkDelegate cX1_checkDelegate 2 none :: ([.classLink RX1 232 "java/lang/IndexOutOfBoundsException", .initialized "java/lang/IndexOutOfBoundsException", .fieldLink RX1 7 "RopeChoices" "count" "I"] ++ wsX10 ++ (vx_atS RX1 236 "java/lang/IndexOutOfBoundsException" ["java/lang/RuntimeException", "java/lang/Exception"]).filter goodWord)
def wsX1_closeGap : List Cond := .code yX1_closeGap cX1_closeGap 4 none :: ([.fieldLink RX1 7 "RopeChoices" "count" "I"] ++ wsX10)
def wsX1_recall : List Cond := .code yX1_recall cX1_recall 3 (some .int) :: ([.fieldLink RX1 32 "RopeChoices" "planks" "[I", .fieldLink RX1 19 "RopeChoices" "villages" "[I", .fieldLink RX1 23 "RopeChoices" "wishes" "[I", .fieldLink RX1 26 "RopeChoices" "reaches" "[I", .fieldLink RX1 29 "RopeChoices" "paces" "[I", .fieldLink RX1 7 "RopeChoices" "count" "I", .methodLink RX1 69 yX1_checkDelegate, .instanceMethod yX1_checkDelegate, .selects RX1 yX1_checkDelegate yX1_checkDelegate, .initialized RX1, .code yX1_checkDelegate cX1_checkDelegate 2 none, .classLink RX1 232 "java/lang/IndexOutOfBoundsException", .initialized "java/lang/IndexOutOfBoundsException", .methodLink RX1 72 yX1_closeGap, .instanceMethod yX1_closeGap, .selects RX1 yX1_closeGap yX1_closeGap, .code yX1_closeGap cX1_closeGap 4 none] ++ wsX10 ++ (vx_atS RX1 236 "java/lang/IndexOutOfBoundsException" ["java/lang/RuntimeException", "java/lang/Exception"]).filter goodWord)
def wsX1_persuade : List Cond := .code yX1_persuade cX1_persuade 4 (some .int) :: ([.fieldLink RX1 23 "RopeChoices" "wishes" "[I", .methodLink RX1 69 yX1_checkDelegate, .instanceMethod yX1_checkDelegate, .selects RX1 yX1_checkDelegate yX1_checkDelegate, .initialized RX1, .code yX1_checkDelegate cX1_checkDelegate 2 none, .classLink RX1 232 "java/lang/IndexOutOfBoundsException", .initialized "java/lang/IndexOutOfBoundsException", .fieldLink RX1 7 "RopeChoices" "count" "I", .methodLink RX1 49 yX1_checkPlank, .static yX1_checkPlank, .code yX1_checkPlank cX1_checkPlank 1 none] ++ wsX10 ++ (vx_atS RX1 236 "java/lang/IndexOutOfBoundsException" ["java/lang/RuntimeException", "java/lang/Exception"]).filter goodWord)
def wsX1_discontent : List Cond := .code yX1_discontent cX1_discontent 3 (some .int) :: ([.fieldLink RX1 23 "RopeChoices" "wishes" "[I", .methodLink RX1 251 Lib.Math.abs.name, .static Lib.Math.abs.name, .initialized "java/lang/Math", .code Lib.Math.abs.name Lib.Math.abs.code 1 (some .int)] ++ wsX10)
def wsX1_isWilling : List Cond := .code yX1_isWilling cX1_isWilling 3 (some .boolean) :: ([.fieldLink RX1 26 "RopeChoices" "reaches" "[I", .methodLink RX1 132 yX1_discontent, .instanceMethod yX1_discontent, .selects RX1 yX1_discontent yX1_discontent, .initialized RX1, .code yX1_discontent cX1_discontent 3 (some .int), .fieldLink RX1 23 "RopeChoices" "wishes" "[I", .methodLink RX1 251 Lib.Math.abs.name, .static Lib.Math.abs.name, .initialized "java/lang/Math", .code Lib.Math.abs.name Lib.Math.abs.code 1 (some .int)] ++ wsX10)
def wsX1_hasPlaceFor : List Cond := .code yX1_hasPlaceFor cX1_hasPlaceFor 3 (some .boolean) :: ([.fieldLink RX1 32 "RopeChoices" "planks" "[I", .methodLink RX1 63 yX1_hasRoom, .instanceMethod yX1_hasRoom, .selects RX1 yX1_hasRoom yX1_hasRoom, .initialized RX1, .code yX1_hasRoom cX1_hasRoom 3 (some .boolean), .fieldLink RX1 16 "RopeChoices" "plankStrength" "I", .methodLink RX1 97 yX1_crowdOn, .instanceMethod yX1_crowdOn, .selects RX1 yX1_crowdOn yX1_crowdOn, .code yX1_crowdOn cX1_crowdOn 5 (some .int), .fieldLink RX1 7 "RopeChoices" "count" "I"] ++ wsX10)
def wsX1_lead_r1 : List Cond := [Cond.classLink RX1 56 "java/lang/IllegalStateException", Cond.initialized "java/lang/IllegalStateException", Cond.fieldLink RX1 32 "RopeChoices" "planks" "[I", Cond.methodLink RX1 69 yX1_checkDelegate, Cond.instanceMethod yX1_checkDelegate, Cond.selects RX1 yX1_checkDelegate yX1_checkDelegate, Cond.initialized RX1, Cond.code yX1_checkDelegate cX1_checkDelegate 2 none, Cond.classLink RX1 232 "java/lang/IndexOutOfBoundsException", Cond.initialized "java/lang/IndexOutOfBoundsException", Cond.fieldLink RX1 7 "RopeChoices" "count" "I", Cond.methodLink RX1 49 yX1_checkPlank, Cond.static yX1_checkPlank, Cond.code yX1_checkPlank cX1_checkPlank 1 none, Cond.methodLink RX1 76 yX1_isWilling, Cond.instanceMethod yX1_isWilling, Cond.selects RX1 yX1_isWilling yX1_isWilling, Cond.code yX1_isWilling cX1_isWilling 3 (some .boolean), Cond.fieldLink RX1 26 "RopeChoices" "reaches" "[I", Cond.methodLink RX1 132 yX1_discontent, Cond.instanceMethod yX1_discontent, Cond.selects RX1 yX1_discontent yX1_discontent, Cond.code yX1_discontent cX1_discontent 3 (some .int), Cond.fieldLink RX1 23 "RopeChoices" "wishes" "[I"]
def wsX1_lead_r2 : List Cond := [Cond.methodLink RX1 251 Lib.Math.abs.name, Cond.static Lib.Math.abs.name, Cond.initialized "java/lang/Math", Cond.code Lib.Math.abs.name Lib.Math.abs.code 1 (some .int), Cond.methodLink RX1 82 yX1_hasPlaceFor, Cond.instanceMethod yX1_hasPlaceFor, Cond.selects RX1 yX1_hasPlaceFor yX1_hasPlaceFor, Cond.code yX1_hasPlaceFor cX1_hasPlaceFor 3 (some .boolean), Cond.methodLink RX1 63 yX1_hasRoom, Cond.instanceMethod yX1_hasRoom, Cond.selects RX1 yX1_hasRoom yX1_hasRoom, Cond.code yX1_hasRoom cX1_hasRoom 3 (some .boolean), Cond.fieldLink RX1 16 "RopeChoices" "plankStrength" "I", Cond.methodLink RX1 97 yX1_crowdOn, Cond.instanceMethod yX1_crowdOn, Cond.selects RX1 yX1_crowdOn yX1_crowdOn, Cond.code yX1_crowdOn cX1_crowdOn 5 (some .int)]
def wsX1_lead : List Cond := .code yX1_lead cX1_lead 4 (some .int) :: ((wsX1_lead_r1 ++ wsX1_lead_r2) ++ wsX10 ++ (vx_atS RX1 60 "java/lang/IllegalStateException" ["java/lang/RuntimeException", "java/lang/Exception"]).filter goodWord ++ (vx_atS RX1 236 "java/lang/IndexOutOfBoundsException" ["java/lang/RuntimeException", "java/lang/Exception"]).filter goodWord)
def wsX1_setStrength : List Cond := .code yX1_setStrength cX1_setStrength 3 (some .int) :: ([.classLink RX1 85 "java/lang/IllegalArgumentException", .initialized "java/lang/IllegalArgumentException", .fieldLink RX1 16 "RopeChoices" "plankStrength" "I"] ++ wsX10 ++ (vx_atS RX1 89 "java/lang/IllegalArgumentException" ["java/lang/RuntimeException", "java/lang/Exception"]).filter goodWord)
def wsX1_checkRounds : List Cond := .code yX1_checkRounds cX1_checkRounds 1 none :: ([.classLink RX1 85 "java/lang/IllegalArgumentException", .initialized "java/lang/IllegalArgumentException"] ++ (vx_atS RX1 89 "java/lang/IllegalArgumentException" ["java/lang/RuntimeException", "java/lang/Exception"]).filter goodWord)
def wsX1_middleOfAll : List Cond := .code yX1_middleOfAll cX1_middleOfAll 3 (some .int) :: ([.fieldLink RX1 41 "RopeChoices" "row" "LRopeChoices$PlankRow;", .fieldLink RX1 7 "RopeChoices" "count" "I", .methodLink RX1 266 yX0_empty, .instanceMethod yX0_empty, .selects RX0 yX0_empty yX0_empty, .initialized RX0, .code yX0_empty cX0_empty 1 none, .fieldLink RX0 15 "RopeChoices$PlankRow" "length" "I", .methodLink RX1 269 yX0_put, .instanceMethod yX0_put, .selects RX0 yX0_put yX0_put, .code yX0_put cX0_put 3 none, .fieldLink RX0 9 "RopeChoices$PlankRow" "sorted" "[I", .methodLink RX1 123 yX0_middle, .instanceMethod yX0_middle, .selects RX0 yX0_middle yX0_middle, .code yX0_middle cX0_middle 1 (some .int)] ++ wsX10 ++ wsX00)
def wsX1_nearestWillingPlank : List Cond := .code yX1_nearestWillingPlank cX1_nearestWillingPlank 4 (some .int) :: ([.fieldLink RX1 23 "RopeChoices" "wishes" "[I", .fieldLink RX1 26 "RopeChoices" "reaches" "[I", .methodLink RX1 257 yX1_cutTo, .static yX1_cutTo, .initialized RX1, .code yX1_cutTo cX1_cutTo 3 (some .int), .methodLink RX1 146 Lib.Math.min.name, .static Lib.Math.min.name, .initialized "java/lang/Math", .code Lib.Math.min.name Lib.Math.min.code 2 (some .int), .methodLink RX1 260 Lib.Math.max.name, .static Lib.Math.max.name, .code Lib.Math.max.name Lib.Math.max.code 2 (some .int)] ++ wsX10)
def wsX1_stepFrom : List Cond := .code yX1_stepFrom cX1_stepFrom 5 (some .int) :: ([.fieldLink RX1 29 "RopeChoices" "paces" "[I", .methodLink RX1 254 yX1_nearestWillingPlank, .instanceMethod yX1_nearestWillingPlank, .selects RX1 yX1_nearestWillingPlank yX1_nearestWillingPlank, .initialized RX1, .code yX1_nearestWillingPlank cX1_nearestWillingPlank 4 (some .int), .fieldLink RX1 23 "RopeChoices" "wishes" "[I", .fieldLink RX1 26 "RopeChoices" "reaches" "[I", .methodLink RX1 257 yX1_cutTo, .static yX1_cutTo, .code yX1_cutTo cX1_cutTo 3 (some .int), .methodLink RX1 146 Lib.Math.min.name, .static Lib.Math.min.name, .initialized "java/lang/Math", .code Lib.Math.min.name Lib.Math.min.code 2 (some .int), .methodLink RX1 260 Lib.Math.max.name, .static Lib.Math.max.name, .code Lib.Math.max.name Lib.Math.max.code 2 (some .int)] ++ wsX10)
def wsX1_goRound_r1 : List Cond := [Cond.fieldLink RX1 7 "RopeChoices" "count" "I", Cond.methodLink RX1 111 yX1_middleOfAll, Cond.instanceMethod yX1_middleOfAll, Cond.selects RX1 yX1_middleOfAll yX1_middleOfAll, Cond.initialized RX1, Cond.code yX1_middleOfAll cX1_middleOfAll 3 (some .int), Cond.fieldLink RX1 41 "RopeChoices" "row" "LRopeChoices$PlankRow;", Cond.methodLink RX1 266 yX0_empty, Cond.instanceMethod yX0_empty, Cond.selects RX0 yX0_empty yX0_empty, Cond.initialized RX0, Cond.code yX0_empty cX0_empty 1 none, Cond.fieldLink RX0 15 "RopeChoices$PlankRow" "length" "I", Cond.methodLink RX1 269 yX0_put, Cond.instanceMethod yX0_put, Cond.selects RX0 yX0_put yX0_put, Cond.code yX0_put cX0_put 3 none, Cond.fieldLink RX0 9 "RopeChoices$PlankRow" "sorted" "[I", Cond.methodLink RX1 123 yX0_middle, Cond.instanceMethod yX0_middle, Cond.selects RX0 yX0_middle yX0_middle, Cond.code yX0_middle cX0_middle 1 (some .int), Cond.methodLink RX1 151 yX1_stepFrom, Cond.instanceMethod yX1_stepFrom]
def wsX1_goRound_r2 : List Cond := [Cond.selects RX1 yX1_stepFrom yX1_stepFrom, Cond.code yX1_stepFrom cX1_stepFrom 5 (some .int), Cond.fieldLink RX1 29 "RopeChoices" "paces" "[I", Cond.methodLink RX1 254 yX1_nearestWillingPlank, Cond.instanceMethod yX1_nearestWillingPlank, Cond.selects RX1 yX1_nearestWillingPlank yX1_nearestWillingPlank, Cond.code yX1_nearestWillingPlank cX1_nearestWillingPlank 4 (some .int), Cond.fieldLink RX1 23 "RopeChoices" "wishes" "[I", Cond.fieldLink RX1 26 "RopeChoices" "reaches" "[I", Cond.methodLink RX1 257 yX1_cutTo, Cond.static yX1_cutTo, Cond.code yX1_cutTo cX1_cutTo 3 (some .int), Cond.methodLink RX1 146 Lib.Math.min.name, Cond.static Lib.Math.min.name, Cond.initialized "java/lang/Math", Cond.code Lib.Math.min.name Lib.Math.min.code 2 (some .int), Cond.methodLink RX1 260 Lib.Math.max.name, Cond.static Lib.Math.max.name, Cond.code Lib.Math.max.name Lib.Math.max.code 2 (some .int), Cond.methodLink RX1 63 yX1_hasRoom, Cond.instanceMethod yX1_hasRoom, Cond.selects RX1 yX1_hasRoom yX1_hasRoom, Cond.code yX1_hasRoom cX1_hasRoom 3 (some .boolean), Cond.fieldLink RX1 16 "RopeChoices" "plankStrength" "I"]
def wsX1_goRound_r3 : List Cond := [Cond.methodLink RX1 97 yX1_crowdOn, Cond.instanceMethod yX1_crowdOn, Cond.selects RX1 yX1_crowdOn yX1_crowdOn, Cond.code yX1_crowdOn cX1_crowdOn 5 (some .int)]
def wsX1_goRound : List Cond := .code yX1_goRound cX1_goRound 6 (some .int) :: ((wsX1_goRound_r1 ++ (wsX1_goRound_r2 ++ wsX1_goRound_r3)) ++ wsX10 ++ wsX00)
def wsX1_goRounds_r1 : List Cond := [Cond.methodLink RX1 158 yX1_goRound, Cond.instanceMethod yX1_goRound, Cond.selects RX1 yX1_goRound yX1_goRound, Cond.initialized RX1, Cond.code yX1_goRound cX1_goRound 6 (some .int), Cond.fieldLink RX1 7 "RopeChoices" "count" "I", Cond.methodLink RX1 111 yX1_middleOfAll, Cond.instanceMethod yX1_middleOfAll, Cond.selects RX1 yX1_middleOfAll yX1_middleOfAll, Cond.code yX1_middleOfAll cX1_middleOfAll 3 (some .int), Cond.fieldLink RX1 41 "RopeChoices" "row" "LRopeChoices$PlankRow;", Cond.methodLink RX1 266 yX0_empty, Cond.instanceMethod yX0_empty, Cond.selects RX0 yX0_empty yX0_empty, Cond.initialized RX0, Cond.code yX0_empty cX0_empty 1 none, Cond.fieldLink RX0 15 "RopeChoices$PlankRow" "length" "I", Cond.methodLink RX1 269 yX0_put, Cond.instanceMethod yX0_put, Cond.selects RX0 yX0_put yX0_put, Cond.code yX0_put cX0_put 3 none, Cond.fieldLink RX0 9 "RopeChoices$PlankRow" "sorted" "[I", Cond.methodLink RX1 123 yX0_middle, Cond.instanceMethod yX0_middle]
def wsX1_goRounds_r2 : List Cond := [Cond.selects RX0 yX0_middle yX0_middle, Cond.code yX0_middle cX0_middle 1 (some .int), Cond.methodLink RX1 151 yX1_stepFrom, Cond.instanceMethod yX1_stepFrom, Cond.selects RX1 yX1_stepFrom yX1_stepFrom, Cond.code yX1_stepFrom cX1_stepFrom 5 (some .int), Cond.fieldLink RX1 29 "RopeChoices" "paces" "[I", Cond.methodLink RX1 254 yX1_nearestWillingPlank, Cond.instanceMethod yX1_nearestWillingPlank, Cond.selects RX1 yX1_nearestWillingPlank yX1_nearestWillingPlank, Cond.code yX1_nearestWillingPlank cX1_nearestWillingPlank 4 (some .int), Cond.fieldLink RX1 23 "RopeChoices" "wishes" "[I", Cond.fieldLink RX1 26 "RopeChoices" "reaches" "[I", Cond.methodLink RX1 257 yX1_cutTo, Cond.static yX1_cutTo, Cond.code yX1_cutTo cX1_cutTo 3 (some .int), Cond.methodLink RX1 146 Lib.Math.min.name, Cond.static Lib.Math.min.name, Cond.initialized "java/lang/Math", Cond.code Lib.Math.min.name Lib.Math.min.code 2 (some .int), Cond.methodLink RX1 260 Lib.Math.max.name, Cond.static Lib.Math.max.name, Cond.code Lib.Math.max.name Lib.Math.max.code 2 (some .int), Cond.methodLink RX1 63 yX1_hasRoom]
def wsX1_goRounds_r3 : List Cond := [Cond.instanceMethod yX1_hasRoom, Cond.selects RX1 yX1_hasRoom yX1_hasRoom, Cond.code yX1_hasRoom cX1_hasRoom 3 (some .boolean), Cond.fieldLink RX1 16 "RopeChoices" "plankStrength" "I", Cond.methodLink RX1 97 yX1_crowdOn, Cond.instanceMethod yX1_crowdOn, Cond.selects RX1 yX1_crowdOn yX1_crowdOn, Cond.code yX1_crowdOn cX1_crowdOn 5 (some .int)]
def wsX1_goRounds : List Cond := .code yX1_goRounds cX1_goRounds 5 (some .int) :: ((wsX1_goRounds_r1 ++ (wsX1_goRounds_r2 ++ wsX1_goRounds_r3)) ++ wsX10 ++ wsX00)
def wsX1_passRounds_r1 : List Cond := [Cond.fieldLink RX1 13 "RopeChoices" "roundsGone" "I", Cond.fieldLink RX1 32 "RopeChoices" "planks" "[I", Cond.methodLink RX1 90 yX1_checkRounds, Cond.static yX1_checkRounds, Cond.initialized RX1, Cond.code yX1_checkRounds cX1_checkRounds 1 none, Cond.classLink RX1 85 "java/lang/IllegalArgumentException", Cond.initialized "java/lang/IllegalArgumentException", Cond.methodLink RX1 93 yX1_goRounds, Cond.instanceMethod yX1_goRounds, Cond.selects RX1 yX1_goRounds yX1_goRounds, Cond.code yX1_goRounds cX1_goRounds 5 (some .int), Cond.methodLink RX1 158 yX1_goRound, Cond.instanceMethod yX1_goRound, Cond.selects RX1 yX1_goRound yX1_goRound, Cond.code yX1_goRound cX1_goRound 6 (some .int), Cond.fieldLink RX1 7 "RopeChoices" "count" "I", Cond.methodLink RX1 111 yX1_middleOfAll, Cond.instanceMethod yX1_middleOfAll, Cond.selects RX1 yX1_middleOfAll yX1_middleOfAll, Cond.code yX1_middleOfAll cX1_middleOfAll 3 (some .int), Cond.fieldLink RX1 41 "RopeChoices" "row" "LRopeChoices$PlankRow;", Cond.methodLink RX1 266 yX0_empty, Cond.instanceMethod yX0_empty]
def wsX1_passRounds_r2 : List Cond := [Cond.selects RX0 yX0_empty yX0_empty, Cond.initialized RX0, Cond.code yX0_empty cX0_empty 1 none, Cond.fieldLink RX0 15 "RopeChoices$PlankRow" "length" "I", Cond.methodLink RX1 269 yX0_put, Cond.instanceMethod yX0_put, Cond.selects RX0 yX0_put yX0_put, Cond.code yX0_put cX0_put 3 none, Cond.fieldLink RX0 9 "RopeChoices$PlankRow" "sorted" "[I", Cond.methodLink RX1 123 yX0_middle, Cond.instanceMethod yX0_middle, Cond.selects RX0 yX0_middle yX0_middle, Cond.code yX0_middle cX0_middle 1 (some .int), Cond.methodLink RX1 151 yX1_stepFrom, Cond.instanceMethod yX1_stepFrom, Cond.selects RX1 yX1_stepFrom yX1_stepFrom, Cond.code yX1_stepFrom cX1_stepFrom 5 (some .int), Cond.fieldLink RX1 29 "RopeChoices" "paces" "[I", Cond.methodLink RX1 254 yX1_nearestWillingPlank, Cond.instanceMethod yX1_nearestWillingPlank, Cond.selects RX1 yX1_nearestWillingPlank yX1_nearestWillingPlank, Cond.code yX1_nearestWillingPlank cX1_nearestWillingPlank 4 (some .int), Cond.fieldLink RX1 23 "RopeChoices" "wishes" "[I", Cond.fieldLink RX1 26 "RopeChoices" "reaches" "[I"]
def wsX1_passRounds_r3 : List Cond := [Cond.methodLink RX1 257 yX1_cutTo, Cond.static yX1_cutTo, Cond.code yX1_cutTo cX1_cutTo 3 (some .int), Cond.methodLink RX1 146 Lib.Math.min.name, Cond.static Lib.Math.min.name, Cond.initialized "java/lang/Math", Cond.code Lib.Math.min.name Lib.Math.min.code 2 (some .int), Cond.methodLink RX1 260 Lib.Math.max.name, Cond.static Lib.Math.max.name, Cond.code Lib.Math.max.name Lib.Math.max.code 2 (some .int), Cond.methodLink RX1 63 yX1_hasRoom, Cond.instanceMethod yX1_hasRoom, Cond.selects RX1 yX1_hasRoom yX1_hasRoom, Cond.code yX1_hasRoom cX1_hasRoom 3 (some .boolean), Cond.fieldLink RX1 16 "RopeChoices" "plankStrength" "I", Cond.methodLink RX1 97 yX1_crowdOn, Cond.instanceMethod yX1_crowdOn, Cond.selects RX1 yX1_crowdOn yX1_crowdOn, Cond.code yX1_crowdOn cX1_crowdOn 5 (some .int)]
def wsX1_passRounds : List Cond := .code yX1_passRounds cX1_passRounds 2 (some .int) :: ((wsX1_passRounds_r1 ++ (wsX1_passRounds_r2 ++ wsX1_passRounds_r3)) ++ wsX10 ++ wsX00 ++ (vx_atS RX1 89 "java/lang/IllegalArgumentException" ["java/lang/RuntimeException", "java/lang/Exception"]).filter goodWord)
def wsX1_delegates : List Cond := .code yX1_delegates cX1_delegates 1 (some .int) :: ([.fieldLink RX1 7 "RopeChoices" "count" "I"] ++ wsX10)
def wsX1_rounds : List Cond := .code yX1_rounds cX1_rounds 1 (some .int) :: ([.fieldLink RX1 13 "RopeChoices" "roundsGone" "I"] ++ wsX10)
def wsX1_strength : List Cond := .code yX1_strength cX1_strength 1 (some .int) :: ([.fieldLink RX1 16 "RopeChoices" "plankStrength" "I"] ++ wsX10)
def wsX1_villageOf : List Cond := .code yX1_villageOf cX1_villageOf 2 (some .int) :: ([.fieldLink RX1 19 "RopeChoices" "villages" "[I", .methodLink RX1 69 yX1_checkDelegate, .instanceMethod yX1_checkDelegate, .selects RX1 yX1_checkDelegate yX1_checkDelegate, .initialized RX1, .code yX1_checkDelegate cX1_checkDelegate 2 none, .classLink RX1 232 "java/lang/IndexOutOfBoundsException", .initialized "java/lang/IndexOutOfBoundsException", .fieldLink RX1 7 "RopeChoices" "count" "I"] ++ wsX10 ++ (vx_atS RX1 236 "java/lang/IndexOutOfBoundsException" ["java/lang/RuntimeException", "java/lang/Exception"]).filter goodWord)
def wsX1_wishOf : List Cond := .code yX1_wishOf cX1_wishOf 2 (some .int) :: ([.fieldLink RX1 23 "RopeChoices" "wishes" "[I", .methodLink RX1 69 yX1_checkDelegate, .instanceMethod yX1_checkDelegate, .selects RX1 yX1_checkDelegate yX1_checkDelegate, .initialized RX1, .code yX1_checkDelegate cX1_checkDelegate 2 none, .classLink RX1 232 "java/lang/IndexOutOfBoundsException", .initialized "java/lang/IndexOutOfBoundsException", .fieldLink RX1 7 "RopeChoices" "count" "I"] ++ wsX10 ++ (vx_atS RX1 236 "java/lang/IndexOutOfBoundsException" ["java/lang/RuntimeException", "java/lang/Exception"]).filter goodWord)
def wsX1_reachOf : List Cond := .code yX1_reachOf cX1_reachOf 2 (some .int) :: ([.fieldLink RX1 26 "RopeChoices" "reaches" "[I", .methodLink RX1 69 yX1_checkDelegate, .instanceMethod yX1_checkDelegate, .selects RX1 yX1_checkDelegate yX1_checkDelegate, .initialized RX1, .code yX1_checkDelegate cX1_checkDelegate 2 none, .classLink RX1 232 "java/lang/IndexOutOfBoundsException", .initialized "java/lang/IndexOutOfBoundsException", .fieldLink RX1 7 "RopeChoices" "count" "I"] ++ wsX10 ++ (vx_atS RX1 236 "java/lang/IndexOutOfBoundsException" ["java/lang/RuntimeException", "java/lang/Exception"]).filter goodWord)
def wsX1_paceOf : List Cond := .code yX1_paceOf cX1_paceOf 2 (some .int) :: ([.fieldLink RX1 29 "RopeChoices" "paces" "[I", .methodLink RX1 69 yX1_checkDelegate, .instanceMethod yX1_checkDelegate, .selects RX1 yX1_checkDelegate yX1_checkDelegate, .initialized RX1, .code yX1_checkDelegate cX1_checkDelegate 2 none, .classLink RX1 232 "java/lang/IndexOutOfBoundsException", .initialized "java/lang/IndexOutOfBoundsException", .fieldLink RX1 7 "RopeChoices" "count" "I"] ++ wsX10 ++ (vx_atS RX1 236 "java/lang/IndexOutOfBoundsException" ["java/lang/RuntimeException", "java/lang/Exception"]).filter goodWord)
def wsX1_plankOf : List Cond := .code yX1_plankOf cX1_plankOf 2 (some .int) :: ([.fieldLink RX1 32 "RopeChoices" "planks" "[I", .methodLink RX1 69 yX1_checkDelegate, .instanceMethod yX1_checkDelegate, .selects RX1 yX1_checkDelegate yX1_checkDelegate, .initialized RX1, .code yX1_checkDelegate cX1_checkDelegate 2 none, .classLink RX1 232 "java/lang/IndexOutOfBoundsException", .initialized "java/lang/IndexOutOfBoundsException", .fieldLink RX1 7 "RopeChoices" "count" "I"] ++ wsX10 ++ (vx_atS RX1 236 "java/lang/IndexOutOfBoundsException" ["java/lang/RuntimeException", "java/lang/Exception"]).filter goodWord)
def wsX1_standingOn : List Cond := .code yX1_standingOn cX1_standingOn 2 (some .int) :: ([.fieldLink RX1 32 "RopeChoices" "planks" "[I", .methodLink RX1 49 yX1_checkPlank, .static yX1_checkPlank, .initialized RX1, .code yX1_checkPlank cX1_checkPlank 1 none, .classLink RX1 232 "java/lang/IndexOutOfBoundsException", .initialized "java/lang/IndexOutOfBoundsException", .methodLink RX1 97 yX1_crowdOn, .instanceMethod yX1_crowdOn, .selects RX1 yX1_crowdOn yX1_crowdOn, .code yX1_crowdOn cX1_crowdOn 5 (some .int), .fieldLink RX1 7 "RopeChoices" "count" "I"] ++ wsX10 ++ (vx_atS RX1 236 "java/lang/IndexOutOfBoundsException" ["java/lang/RuntimeException", "java/lang/Exception"]).filter goodWord)
def wsX1_distanceOfEnds : List Cond := .code yX1_distanceOfEnds cX1_distanceOfEnds 5 (some .int) :: ([.fieldLink RX1 7 "RopeChoices" "count" "I", .methodLink RX1 146 Lib.Math.min.name, .static Lib.Math.min.name, .initialized "java/lang/Math", .code Lib.Math.min.name Lib.Math.min.code 2 (some .int), .methodLink RX1 260 Lib.Math.max.name, .static Lib.Math.max.name, .code Lib.Math.max.name Lib.Math.max.code 2 (some .int)] ++ wsX10)
def wsX1_spread : List Cond := .code yX1_spread cX1_spread 1 (some .int) :: ([.fieldLink RX1 32 "RopeChoices" "planks" "[I", .methodLink RX1 100 yX1_distanceOfEnds, .instanceMethod yX1_distanceOfEnds, .selects RX1 yX1_distanceOfEnds yX1_distanceOfEnds, .initialized RX1, .code yX1_distanceOfEnds cX1_distanceOfEnds 5 (some .int), .fieldLink RX1 7 "RopeChoices" "count" "I", .methodLink RX1 146 Lib.Math.min.name, .static Lib.Math.min.name, .initialized "java/lang/Math", .code Lib.Math.min.name Lib.Math.min.code 2 (some .int), .methodLink RX1 260 Lib.Math.max.name, .static Lib.Math.max.name, .code Lib.Math.max.name Lib.Math.max.code 2 (some .int)] ++ wsX10)
def wsX1_hasTwoVillages : List Cond := .code yX1_hasTwoVillages cX1_hasTwoVillages 2 (some .boolean) :: ([.fieldLink RX1 7 "RopeChoices" "count" "I", .fieldLink RX1 19 "RopeChoices" "villages" "[I"] ++ wsX10)
def wsX1_agreesAt : List Cond := .code yX1_agreesAt cX1_agreesAt 2 (some .boolean) :: ([.methodLink RX1 263 yX1_hasTwoVillages, .instanceMethod yX1_hasTwoVillages, .selects RX1 yX1_hasTwoVillages yX1_hasTwoVillages, .initialized RX1, .code yX1_hasTwoVillages cX1_hasTwoVillages 2 (some .boolean), .fieldLink RX1 7 "RopeChoices" "count" "I", .fieldLink RX1 19 "RopeChoices" "villages" "[I", .methodLink RX1 100 yX1_distanceOfEnds, .instanceMethod yX1_distanceOfEnds, .selects RX1 yX1_distanceOfEnds yX1_distanceOfEnds, .code yX1_distanceOfEnds cX1_distanceOfEnds 5 (some .int), .methodLink RX1 146 Lib.Math.min.name, .static Lib.Math.min.name, .initialized "java/lang/Math", .code Lib.Math.min.name Lib.Math.min.code 2 (some .int), .methodLink RX1 260 Lib.Math.max.name, .static Lib.Math.max.name, .code Lib.Math.max.name Lib.Math.max.code 2 (some .int)] ++ wsX10)
def wsX1_isTreaty : List Cond := .code yX1_isTreaty cX1_isTreaty 1 (some .boolean) :: ([.fieldLink RX1 32 "RopeChoices" "planks" "[I", .methodLink RX1 104 yX1_agreesAt, .instanceMethod yX1_agreesAt, .selects RX1 yX1_agreesAt yX1_agreesAt, .initialized RX1, .code yX1_agreesAt cX1_agreesAt 2 (some .boolean), .methodLink RX1 263 yX1_hasTwoVillages, .instanceMethod yX1_hasTwoVillages, .selects RX1 yX1_hasTwoVillages yX1_hasTwoVillages, .code yX1_hasTwoVillages cX1_hasTwoVillages 2 (some .boolean), .fieldLink RX1 7 "RopeChoices" "count" "I", .fieldLink RX1 19 "RopeChoices" "villages" "[I", .methodLink RX1 100 yX1_distanceOfEnds, .instanceMethod yX1_distanceOfEnds, .selects RX1 yX1_distanceOfEnds yX1_distanceOfEnds, .code yX1_distanceOfEnds cX1_distanceOfEnds 5 (some .int), .methodLink RX1 146 Lib.Math.min.name, .static Lib.Math.min.name, .initialized "java/lang/Math", .code Lib.Math.min.name Lib.Math.min.code 2 (some .int), .methodLink RX1 260 Lib.Math.max.name, .static Lib.Math.max.name, .code Lib.Math.max.name Lib.Math.max.code 2 (some .int)] ++ wsX10)
def wsX1_checkSomeoneThere : List Cond := .code yX1_checkSomeoneThere cX1_checkSomeoneThere 1 none :: ([.classLink RX1 56 "java/lang/IllegalStateException", .initialized "java/lang/IllegalStateException", .fieldLink RX1 7 "RopeChoices" "count" "I"] ++ wsX10 ++ (vx_atS RX1 60 "java/lang/IllegalStateException" ["java/lang/RuntimeException", "java/lang/Exception"]).filter goodWord)
def wsX1_compromise_r1 : List Cond := [Cond.fieldLink RX1 32 "RopeChoices" "planks" "[I", Cond.methodLink RX1 108 yX1_checkSomeoneThere, Cond.instanceMethod yX1_checkSomeoneThere, Cond.selects RX1 yX1_checkSomeoneThere yX1_checkSomeoneThere, Cond.initialized RX1, Cond.code yX1_checkSomeoneThere cX1_checkSomeoneThere 1 none, Cond.classLink RX1 56 "java/lang/IllegalStateException", Cond.initialized "java/lang/IllegalStateException", Cond.fieldLink RX1 7 "RopeChoices" "count" "I", Cond.methodLink RX1 111 yX1_middleOfAll, Cond.instanceMethod yX1_middleOfAll, Cond.selects RX1 yX1_middleOfAll yX1_middleOfAll, Cond.code yX1_middleOfAll cX1_middleOfAll 3 (some .int), Cond.fieldLink RX1 41 "RopeChoices" "row" "LRopeChoices$PlankRow;", Cond.methodLink RX1 266 yX0_empty, Cond.instanceMethod yX0_empty, Cond.selects RX0 yX0_empty yX0_empty, Cond.initialized RX0, Cond.code yX0_empty cX0_empty 1 none, Cond.fieldLink RX0 15 "RopeChoices$PlankRow" "length" "I", Cond.methodLink RX1 269 yX0_put, Cond.instanceMethod yX0_put, Cond.selects RX0 yX0_put yX0_put, Cond.code yX0_put cX0_put 3 none]
def wsX1_compromise_r2 : List Cond := [Cond.fieldLink RX0 9 "RopeChoices$PlankRow" "sorted" "[I", Cond.methodLink RX1 123 yX0_middle, Cond.instanceMethod yX0_middle, Cond.selects RX0 yX0_middle yX0_middle, Cond.code yX0_middle cX0_middle 1 (some .int)]
def wsX1_compromise : List Cond := .code yX1_compromise cX1_compromise 1 (some .int) :: ((wsX1_compromise_r1 ++ wsX1_compromise_r2) ++ wsX10 ++ wsX00 ++ (vx_atS RX1 60 "java/lang/IllegalStateException" ["java/lang/RuntimeException", "java/lang/Exception"]).filter goodWord)
def wsX1_gatherVillage : List Cond := .code yX1_gatherVillage cX1_gatherVillage 3 none :: ([.fieldLink RX1 41 "RopeChoices" "row" "LRopeChoices$PlankRow;", .fieldLink RX1 7 "RopeChoices" "count" "I", .fieldLink RX1 19 "RopeChoices" "villages" "[I", .fieldLink RX1 32 "RopeChoices" "planks" "[I", .methodLink RX1 266 yX0_empty, .instanceMethod yX0_empty, .selects RX0 yX0_empty yX0_empty, .initialized RX0, .code yX0_empty cX0_empty 1 none, .fieldLink RX0 15 "RopeChoices$PlankRow" "length" "I", .methodLink RX1 269 yX0_put, .instanceMethod yX0_put, .selects RX0 yX0_put yX0_put, .code yX0_put cX0_put 3 none, .fieldLink RX0 9 "RopeChoices$PlankRow" "sorted" "[I"] ++ wsX10 ++ wsX00)
def wsX1_compromiseOf_r1 : List Cond := [Cond.classLink RX1 56 "java/lang/IllegalStateException", Cond.initialized "java/lang/IllegalStateException", Cond.fieldLink RX1 41 "RopeChoices" "row" "LRopeChoices$PlankRow;", Cond.methodLink RX1 45 yX1_checkVillage, Cond.static yX1_checkVillage, Cond.initialized RX1, Cond.code yX1_checkVillage cX1_checkVillage 1 none, Cond.classLink RX1 232 "java/lang/IndexOutOfBoundsException", Cond.initialized "java/lang/IndexOutOfBoundsException", Cond.methodLink RX1 114 yX1_gatherVillage, Cond.instanceMethod yX1_gatherVillage, Cond.selects RX1 yX1_gatherVillage yX1_gatherVillage, Cond.code yX1_gatherVillage cX1_gatherVillage 3 none, Cond.fieldLink RX1 7 "RopeChoices" "count" "I", Cond.fieldLink RX1 19 "RopeChoices" "villages" "[I", Cond.fieldLink RX1 32 "RopeChoices" "planks" "[I", Cond.methodLink RX1 266 yX0_empty, Cond.instanceMethod yX0_empty, Cond.selects RX0 yX0_empty yX0_empty, Cond.initialized RX0, Cond.code yX0_empty cX0_empty 1 none, Cond.fieldLink RX0 15 "RopeChoices$PlankRow" "length" "I", Cond.methodLink RX1 269 yX0_put, Cond.instanceMethod yX0_put]
def wsX1_compromiseOf_r2 : List Cond := [Cond.selects RX0 yX0_put yX0_put, Cond.code yX0_put cX0_put 3 none, Cond.fieldLink RX0 9 "RopeChoices$PlankRow" "sorted" "[I", Cond.methodLink RX1 117 yX0_isBare, Cond.instanceMethod yX0_isBare, Cond.selects RX0 yX0_isBare yX0_isBare, Cond.code yX0_isBare cX0_isBare 1 (some .boolean), Cond.methodLink RX1 123 yX0_middle, Cond.instanceMethod yX0_middle, Cond.selects RX0 yX0_middle yX0_middle, Cond.code yX0_middle cX0_middle 1 (some .int)]
def wsX1_compromiseOf : List Cond := .code yX1_compromiseOf cX1_compromiseOf 2 (some .int) :: ((wsX1_compromiseOf_r1 ++ wsX1_compromiseOf_r2) ++ wsX10 ++ wsX00 ++ (vx_atS RX1 60 "java/lang/IllegalStateException" ["java/lang/RuntimeException", "java/lang/Exception"]).filter goodWord ++ (vx_atS RX1 236 "java/lang/IndexOutOfBoundsException" ["java/lang/RuntimeException", "java/lang/Exception"]).filter goodWord)
def wsX1_gatherOthers : List Cond := .code yX1_gatherOthers cX1_gatherOthers 3 none :: ([.fieldLink RX1 41 "RopeChoices" "row" "LRopeChoices$PlankRow;", .fieldLink RX1 7 "RopeChoices" "count" "I", .fieldLink RX1 32 "RopeChoices" "planks" "[I", .methodLink RX1 266 yX0_empty, .instanceMethod yX0_empty, .selects RX0 yX0_empty yX0_empty, .initialized RX0, .code yX0_empty cX0_empty 1 none, .fieldLink RX0 15 "RopeChoices$PlankRow" "length" "I", .methodLink RX1 269 yX0_put, .instanceMethod yX0_put, .selects RX0 yX0_put yX0_put, .code yX0_put cX0_put 3 none, .fieldLink RX0 9 "RopeChoices$PlankRow" "sorted" "[I"] ++ wsX10 ++ wsX00)
def wsX1_compromiseWithout_r1 : List Cond := [Cond.classLink RX1 56 "java/lang/IllegalStateException", Cond.initialized "java/lang/IllegalStateException", Cond.fieldLink RX1 41 "RopeChoices" "row" "LRopeChoices$PlankRow;", Cond.methodLink RX1 69 yX1_checkDelegate, Cond.instanceMethod yX1_checkDelegate, Cond.selects RX1 yX1_checkDelegate yX1_checkDelegate, Cond.initialized RX1, Cond.code yX1_checkDelegate cX1_checkDelegate 2 none, Cond.classLink RX1 232 "java/lang/IndexOutOfBoundsException", Cond.initialized "java/lang/IndexOutOfBoundsException", Cond.fieldLink RX1 7 "RopeChoices" "count" "I", Cond.methodLink RX1 127 yX1_gatherOthers, Cond.instanceMethod yX1_gatherOthers, Cond.selects RX1 yX1_gatherOthers yX1_gatherOthers, Cond.code yX1_gatherOthers cX1_gatherOthers 3 none, Cond.fieldLink RX1 32 "RopeChoices" "planks" "[I", Cond.methodLink RX1 266 yX0_empty, Cond.instanceMethod yX0_empty, Cond.selects RX0 yX0_empty yX0_empty, Cond.initialized RX0, Cond.code yX0_empty cX0_empty 1 none, Cond.fieldLink RX0 15 "RopeChoices$PlankRow" "length" "I", Cond.methodLink RX1 269 yX0_put, Cond.instanceMethod yX0_put]
def wsX1_compromiseWithout_r2 : List Cond := [Cond.selects RX0 yX0_put yX0_put, Cond.code yX0_put cX0_put 3 none, Cond.fieldLink RX0 9 "RopeChoices$PlankRow" "sorted" "[I", Cond.methodLink RX1 117 yX0_isBare, Cond.instanceMethod yX0_isBare, Cond.selects RX0 yX0_isBare yX0_isBare, Cond.code yX0_isBare cX0_isBare 1 (some .boolean), Cond.methodLink RX1 123 yX0_middle, Cond.instanceMethod yX0_middle, Cond.selects RX0 yX0_middle yX0_middle, Cond.code yX0_middle cX0_middle 1 (some .int)]
def wsX1_compromiseWithout : List Cond := .code yX1_compromiseWithout cX1_compromiseWithout 2 (some .int) :: ((wsX1_compromiseWithout_r1 ++ wsX1_compromiseWithout_r2) ++ wsX10 ++ wsX00 ++ (vx_atS RX1 60 "java/lang/IllegalStateException" ["java/lang/RuntimeException", "java/lang/Exception"]).filter goodWord ++ (vx_atS RX1 236 "java/lang/IndexOutOfBoundsException" ["java/lang/RuntimeException", "java/lang/Exception"]).filter goodWord)
def wsX1_decisiveOne_r1 : List Cond := [Cond.fieldLink RX1 32 "RopeChoices" "planks" "[I", Cond.fieldLink RX1 7 "RopeChoices" "count" "I", Cond.methodLink RX1 108 yX1_checkSomeoneThere, Cond.instanceMethod yX1_checkSomeoneThere, Cond.selects RX1 yX1_checkSomeoneThere yX1_checkSomeoneThere, Cond.initialized RX1, Cond.code yX1_checkSomeoneThere cX1_checkSomeoneThere 1 none, Cond.classLink RX1 56 "java/lang/IllegalStateException", Cond.initialized "java/lang/IllegalStateException", Cond.methodLink RX1 111 yX1_middleOfAll, Cond.instanceMethod yX1_middleOfAll, Cond.selects RX1 yX1_middleOfAll yX1_middleOfAll, Cond.code yX1_middleOfAll cX1_middleOfAll 3 (some .int), Cond.fieldLink RX1 41 "RopeChoices" "row" "LRopeChoices$PlankRow;", Cond.methodLink RX1 266 yX0_empty, Cond.instanceMethod yX0_empty, Cond.selects RX0 yX0_empty yX0_empty, Cond.initialized RX0, Cond.code yX0_empty cX0_empty 1 none, Cond.fieldLink RX0 15 "RopeChoices$PlankRow" "length" "I", Cond.methodLink RX1 269 yX0_put, Cond.instanceMethod yX0_put, Cond.selects RX0 yX0_put yX0_put, Cond.code yX0_put cX0_put 3 none]
def wsX1_decisiveOne_r2 : List Cond := [Cond.fieldLink RX0 9 "RopeChoices$PlankRow" "sorted" "[I", Cond.methodLink RX1 123 yX0_middle, Cond.instanceMethod yX0_middle, Cond.selects RX0 yX0_middle yX0_middle, Cond.code yX0_middle cX0_middle 1 (some .int)]
def wsX1_decisiveOne : List Cond := .code yX1_decisiveOne cX1_decisiveOne 3 (some .int) :: ((wsX1_decisiveOne_r1 ++ wsX1_decisiveOne_r2) ++ wsX10 ++ wsX00 ++ (vx_atS RX1 60 "java/lang/IllegalStateException" ["java/lang/RuntimeException", "java/lang/Exception"]).filter goodWord)
def wsX1_discontentOf_r1 : List Cond := [Cond.fieldLink RX1 32 "RopeChoices" "planks" "[I", Cond.methodLink RX1 69 yX1_checkDelegate, Cond.instanceMethod yX1_checkDelegate, Cond.selects RX1 yX1_checkDelegate yX1_checkDelegate, Cond.initialized RX1, Cond.code yX1_checkDelegate cX1_checkDelegate 2 none, Cond.classLink RX1 232 "java/lang/IndexOutOfBoundsException", Cond.initialized "java/lang/IndexOutOfBoundsException", Cond.fieldLink RX1 7 "RopeChoices" "count" "I", Cond.methodLink RX1 111 yX1_middleOfAll, Cond.instanceMethod yX1_middleOfAll, Cond.selects RX1 yX1_middleOfAll yX1_middleOfAll, Cond.code yX1_middleOfAll cX1_middleOfAll 3 (some .int), Cond.fieldLink RX1 41 "RopeChoices" "row" "LRopeChoices$PlankRow;", Cond.methodLink RX1 266 yX0_empty, Cond.instanceMethod yX0_empty, Cond.selects RX0 yX0_empty yX0_empty, Cond.initialized RX0, Cond.code yX0_empty cX0_empty 1 none, Cond.fieldLink RX0 15 "RopeChoices$PlankRow" "length" "I", Cond.methodLink RX1 269 yX0_put, Cond.instanceMethod yX0_put, Cond.selects RX0 yX0_put yX0_put, Cond.code yX0_put cX0_put 3 none]
def wsX1_discontentOf_r2 : List Cond := [Cond.fieldLink RX0 9 "RopeChoices$PlankRow" "sorted" "[I", Cond.methodLink RX1 123 yX0_middle, Cond.instanceMethod yX0_middle, Cond.selects RX0 yX0_middle yX0_middle, Cond.code yX0_middle cX0_middle 1 (some .int), Cond.methodLink RX1 132 yX1_discontent, Cond.instanceMethod yX1_discontent, Cond.selects RX1 yX1_discontent yX1_discontent, Cond.code yX1_discontent cX1_discontent 3 (some .int), Cond.fieldLink RX1 23 "RopeChoices" "wishes" "[I", Cond.methodLink RX1 251 Lib.Math.abs.name, Cond.static Lib.Math.abs.name, Cond.initialized "java/lang/Math", Cond.code Lib.Math.abs.name Lib.Math.abs.code 1 (some .int)]
def wsX1_discontentOf : List Cond := .code yX1_discontentOf cX1_discontentOf 2 (some .int) :: ((wsX1_discontentOf_r1 ++ wsX1_discontentOf_r2) ++ wsX10 ++ wsX00 ++ (vx_atS RX1 236 "java/lang/IndexOutOfBoundsException" ["java/lang/RuntimeException", "java/lang/Exception"]).filter goodWord)
def wsX1_discontentOfAll : List Cond := .code yX1_discontentOfAll cX1_discontentOfAll 4 (some .int) :: ([.fieldLink RX1 7 "RopeChoices" "count" "I", .methodLink RX1 132 yX1_discontent, .instanceMethod yX1_discontent, .selects RX1 yX1_discontent yX1_discontent, .initialized RX1, .code yX1_discontent cX1_discontent 3 (some .int), .fieldLink RX1 23 "RopeChoices" "wishes" "[I", .methodLink RX1 251 Lib.Math.abs.name, .static Lib.Math.abs.name, .initialized "java/lang/Math", .code Lib.Math.abs.name Lib.Math.abs.code 1 (some .int)] ++ wsX10)
def wsX1_allDiscontent_r1 : List Cond := [Cond.fieldLink RX1 32 "RopeChoices" "planks" "[I", Cond.methodLink RX1 111 yX1_middleOfAll, Cond.instanceMethod yX1_middleOfAll, Cond.selects RX1 yX1_middleOfAll yX1_middleOfAll, Cond.initialized RX1, Cond.code yX1_middleOfAll cX1_middleOfAll 3 (some .int), Cond.fieldLink RX1 41 "RopeChoices" "row" "LRopeChoices$PlankRow;", Cond.fieldLink RX1 7 "RopeChoices" "count" "I", Cond.methodLink RX1 266 yX0_empty, Cond.instanceMethod yX0_empty, Cond.selects RX0 yX0_empty yX0_empty, Cond.initialized RX0, Cond.code yX0_empty cX0_empty 1 none, Cond.fieldLink RX0 15 "RopeChoices$PlankRow" "length" "I", Cond.methodLink RX1 269 yX0_put, Cond.instanceMethod yX0_put, Cond.selects RX0 yX0_put yX0_put, Cond.code yX0_put cX0_put 3 none, Cond.fieldLink RX0 9 "RopeChoices$PlankRow" "sorted" "[I", Cond.methodLink RX1 123 yX0_middle, Cond.instanceMethod yX0_middle, Cond.selects RX0 yX0_middle yX0_middle, Cond.code yX0_middle cX0_middle 1 (some .int), Cond.methodLink RX1 136 yX1_discontentOfAll]
def wsX1_allDiscontent_r2 : List Cond := [Cond.instanceMethod yX1_discontentOfAll, Cond.selects RX1 yX1_discontentOfAll yX1_discontentOfAll, Cond.code yX1_discontentOfAll cX1_discontentOfAll 4 (some .int), Cond.methodLink RX1 132 yX1_discontent, Cond.instanceMethod yX1_discontent, Cond.selects RX1 yX1_discontent yX1_discontent, Cond.code yX1_discontent cX1_discontent 3 (some .int), Cond.fieldLink RX1 23 "RopeChoices" "wishes" "[I", Cond.methodLink RX1 251 Lib.Math.abs.name, Cond.static Lib.Math.abs.name, Cond.initialized "java/lang/Math", Cond.code Lib.Math.abs.name Lib.Math.abs.code 1 (some .int)]
def wsX1_allDiscontent : List Cond := .code yX1_allDiscontent cX1_allDiscontent 1 (some .int) :: ((wsX1_allDiscontent_r1 ++ wsX1_allDiscontent_r2) ++ wsX10 ++ wsX00)
def wsX1_bestPlank : List Cond := .code yX1_bestPlank cX1_bestPlank 5 (some .int) :: ([.methodLink RX1 108 yX1_checkSomeoneThere, .instanceMethod yX1_checkSomeoneThere, .selects RX1 yX1_checkSomeoneThere yX1_checkSomeoneThere, .initialized RX1, .code yX1_checkSomeoneThere cX1_checkSomeoneThere 1 none, .classLink RX1 56 "java/lang/IllegalStateException", .initialized "java/lang/IllegalStateException", .fieldLink RX1 7 "RopeChoices" "count" "I", .methodLink RX1 136 yX1_discontentOfAll, .instanceMethod yX1_discontentOfAll, .selects RX1 yX1_discontentOfAll yX1_discontentOfAll, .code yX1_discontentOfAll cX1_discontentOfAll 4 (some .int), .methodLink RX1 132 yX1_discontent, .instanceMethod yX1_discontent, .selects RX1 yX1_discontent yX1_discontent, .code yX1_discontent cX1_discontent 3 (some .int), .fieldLink RX1 23 "RopeChoices" "wishes" "[I", .methodLink RX1 251 Lib.Math.abs.name, .static Lib.Math.abs.name, .initialized "java/lang/Math", .code Lib.Math.abs.name Lib.Math.abs.code 1 (some .int)] ++ wsX10 ++ (vx_atS RX1 60 "java/lang/IllegalStateException" ["java/lang/RuntimeException", "java/lang/Exception"]).filter goodWord)
def wsX1_checkTwoPlanks : List Cond := .code yX1_checkTwoPlanks cX1_checkTwoPlanks 2 none :: ([.classLink RX1 85 "java/lang/IllegalArgumentException", .initialized "java/lang/IllegalArgumentException", .methodLink RX1 49 yX1_checkPlank, .static yX1_checkPlank, .initialized RX1, .code yX1_checkPlank cX1_checkPlank 1 none, .classLink RX1 232 "java/lang/IndexOutOfBoundsException", .initialized "java/lang/IndexOutOfBoundsException"] ++ (vx_atS RX1 89 "java/lang/IllegalArgumentException" ["java/lang/RuntimeException", "java/lang/Exception"]).filter goodWord ++ (vx_atS RX1 236 "java/lang/IndexOutOfBoundsException" ["java/lang/RuntimeException", "java/lang/Exception"]).filter goodWord)
def wsX1_countVotes : List Cond := .code yX1_countVotes cX1_countVotes 5 (some .int) :: ([.fieldLink RX1 7 "RopeChoices" "count" "I", .methodLink RX1 132 yX1_discontent, .instanceMethod yX1_discontent, .selects RX1 yX1_discontent yX1_discontent, .initialized RX1, .code yX1_discontent cX1_discontent 3 (some .int), .fieldLink RX1 23 "RopeChoices" "wishes" "[I", .methodLink RX1 251 Lib.Math.abs.name, .static Lib.Math.abs.name, .initialized "java/lang/Math", .code Lib.Math.abs.name Lib.Math.abs.code 1 (some .int)] ++ wsX10)
def wsX1_votesFor_r1 : List Cond := [Cond.methodLink RX1 140 yX1_checkTwoPlanks, Cond.static yX1_checkTwoPlanks, Cond.initialized RX1, Cond.code yX1_checkTwoPlanks cX1_checkTwoPlanks 2 none, Cond.classLink RX1 85 "java/lang/IllegalArgumentException", Cond.initialized "java/lang/IllegalArgumentException", Cond.methodLink RX1 49 yX1_checkPlank, Cond.static yX1_checkPlank, Cond.code yX1_checkPlank cX1_checkPlank 1 none, Cond.classLink RX1 232 "java/lang/IndexOutOfBoundsException", Cond.initialized "java/lang/IndexOutOfBoundsException", Cond.methodLink RX1 143 yX1_countVotes, Cond.instanceMethod yX1_countVotes, Cond.selects RX1 yX1_countVotes yX1_countVotes, Cond.code yX1_countVotes cX1_countVotes 5 (some .int), Cond.fieldLink RX1 7 "RopeChoices" "count" "I", Cond.methodLink RX1 132 yX1_discontent, Cond.instanceMethod yX1_discontent, Cond.selects RX1 yX1_discontent yX1_discontent, Cond.code yX1_discontent cX1_discontent 3 (some .int), Cond.fieldLink RX1 23 "RopeChoices" "wishes" "[I", Cond.methodLink RX1 251 Lib.Math.abs.name, Cond.static Lib.Math.abs.name, Cond.initialized "java/lang/Math"]
def wsX1_votesFor_r2 : List Cond := [Cond.code Lib.Math.abs.name Lib.Math.abs.code 1 (some .int)]
def wsX1_votesFor : List Cond := .code yX1_votesFor cX1_votesFor 3 (some .int) :: ((wsX1_votesFor_r1 ++ wsX1_votesFor_r2) ++ wsX10 ++ (vx_atS RX1 89 "java/lang/IllegalArgumentException" ["java/lang/RuntimeException", "java/lang/Exception"]).filter goodWord ++ (vx_atS RX1 236 "java/lang/IndexOutOfBoundsException" ["java/lang/RuntimeException", "java/lang/Exception"]).filter goodWord)
def wsX1_winnerOf_r1 : List Cond := [Cond.methodLink RX1 146 Lib.Math.min.name, Cond.static Lib.Math.min.name, Cond.initialized "java/lang/Math", Cond.code Lib.Math.min.name Lib.Math.min.code 2 (some .int), Cond.methodLink RX1 140 yX1_checkTwoPlanks, Cond.static yX1_checkTwoPlanks, Cond.initialized RX1, Cond.code yX1_checkTwoPlanks cX1_checkTwoPlanks 2 none, Cond.classLink RX1 85 "java/lang/IllegalArgumentException", Cond.initialized "java/lang/IllegalArgumentException", Cond.methodLink RX1 49 yX1_checkPlank, Cond.static yX1_checkPlank, Cond.code yX1_checkPlank cX1_checkPlank 1 none, Cond.classLink RX1 232 "java/lang/IndexOutOfBoundsException", Cond.initialized "java/lang/IndexOutOfBoundsException", Cond.methodLink RX1 143 yX1_countVotes, Cond.instanceMethod yX1_countVotes, Cond.selects RX1 yX1_countVotes yX1_countVotes, Cond.code yX1_countVotes cX1_countVotes 5 (some .int), Cond.fieldLink RX1 7 "RopeChoices" "count" "I", Cond.methodLink RX1 132 yX1_discontent, Cond.instanceMethod yX1_discontent, Cond.selects RX1 yX1_discontent yX1_discontent, Cond.code yX1_discontent cX1_discontent 3 (some .int)]
def wsX1_winnerOf_r2 : List Cond := [Cond.fieldLink RX1 23 "RopeChoices" "wishes" "[I", Cond.methodLink RX1 251 Lib.Math.abs.name, Cond.static Lib.Math.abs.name, Cond.code Lib.Math.abs.name Lib.Math.abs.code 1 (some .int)]
def wsX1_winnerOf : List Cond := .code yX1_winnerOf cX1_winnerOf 5 (some .int) :: ((wsX1_winnerOf_r1 ++ wsX1_winnerOf_r2) ++ wsX10 ++ (vx_atS RX1 89 "java/lang/IllegalArgumentException" ["java/lang/RuntimeException", "java/lang/Exception"]).filter goodWord ++ (vx_atS RX1 236 "java/lang/IndexOutOfBoundsException" ["java/lang/RuntimeException", "java/lang/Exception"]).filter goodWord)
def wsX1_canLeadTo_r1 : List Cond := [Cond.methodLink RX1 69 yX1_checkDelegate, Cond.instanceMethod yX1_checkDelegate, Cond.selects RX1 yX1_checkDelegate yX1_checkDelegate, Cond.initialized RX1, Cond.code yX1_checkDelegate cX1_checkDelegate 2 none, Cond.classLink RX1 232 "java/lang/IndexOutOfBoundsException", Cond.initialized "java/lang/IndexOutOfBoundsException", Cond.fieldLink RX1 7 "RopeChoices" "count" "I", Cond.methodLink RX1 49 yX1_checkPlank, Cond.static yX1_checkPlank, Cond.code yX1_checkPlank cX1_checkPlank 1 none, Cond.methodLink RX1 76 yX1_isWilling, Cond.instanceMethod yX1_isWilling, Cond.selects RX1 yX1_isWilling yX1_isWilling, Cond.code yX1_isWilling cX1_isWilling 3 (some .boolean), Cond.fieldLink RX1 26 "RopeChoices" "reaches" "[I", Cond.methodLink RX1 132 yX1_discontent, Cond.instanceMethod yX1_discontent, Cond.selects RX1 yX1_discontent yX1_discontent, Cond.code yX1_discontent cX1_discontent 3 (some .int), Cond.fieldLink RX1 23 "RopeChoices" "wishes" "[I", Cond.methodLink RX1 251 Lib.Math.abs.name, Cond.static Lib.Math.abs.name, Cond.initialized "java/lang/Math"]
def wsX1_canLeadTo_r2 : List Cond := [Cond.code Lib.Math.abs.name Lib.Math.abs.code 1 (some .int), Cond.methodLink RX1 82 yX1_hasPlaceFor, Cond.instanceMethod yX1_hasPlaceFor, Cond.selects RX1 yX1_hasPlaceFor yX1_hasPlaceFor, Cond.code yX1_hasPlaceFor cX1_hasPlaceFor 3 (some .boolean), Cond.fieldLink RX1 32 "RopeChoices" "planks" "[I", Cond.methodLink RX1 63 yX1_hasRoom, Cond.instanceMethod yX1_hasRoom, Cond.selects RX1 yX1_hasRoom yX1_hasRoom, Cond.code yX1_hasRoom cX1_hasRoom 3 (some .boolean), Cond.fieldLink RX1 16 "RopeChoices" "plankStrength" "I", Cond.methodLink RX1 97 yX1_crowdOn, Cond.instanceMethod yX1_crowdOn, Cond.selects RX1 yX1_crowdOn yX1_crowdOn, Cond.code yX1_crowdOn cX1_crowdOn 5 (some .int)]
def wsX1_canLeadTo : List Cond := .code yX1_canLeadTo cX1_canLeadTo 3 (some .boolean) :: ((wsX1_canLeadTo_r1 ++ wsX1_canLeadTo_r2) ++ wsX10 ++ (vx_atS RX1 236 "java/lang/IndexOutOfBoundsException" ["java/lang/RuntimeException", "java/lang/Exception"]).filter goodWord)
def wsX1_wouldStepTo_r1 : List Cond := [Cond.fieldLink RX1 32 "RopeChoices" "planks" "[I", Cond.methodLink RX1 69 yX1_checkDelegate, Cond.instanceMethod yX1_checkDelegate, Cond.selects RX1 yX1_checkDelegate yX1_checkDelegate, Cond.initialized RX1, Cond.code yX1_checkDelegate cX1_checkDelegate 2 none, Cond.classLink RX1 232 "java/lang/IndexOutOfBoundsException", Cond.initialized "java/lang/IndexOutOfBoundsException", Cond.fieldLink RX1 7 "RopeChoices" "count" "I", Cond.methodLink RX1 111 yX1_middleOfAll, Cond.instanceMethod yX1_middleOfAll, Cond.selects RX1 yX1_middleOfAll yX1_middleOfAll, Cond.code yX1_middleOfAll cX1_middleOfAll 3 (some .int), Cond.fieldLink RX1 41 "RopeChoices" "row" "LRopeChoices$PlankRow;", Cond.methodLink RX1 266 yX0_empty, Cond.instanceMethod yX0_empty, Cond.selects RX0 yX0_empty yX0_empty, Cond.initialized RX0, Cond.code yX0_empty cX0_empty 1 none, Cond.fieldLink RX0 15 "RopeChoices$PlankRow" "length" "I", Cond.methodLink RX1 269 yX0_put, Cond.instanceMethod yX0_put, Cond.selects RX0 yX0_put yX0_put, Cond.code yX0_put cX0_put 3 none]
def wsX1_wouldStepTo_r2 : List Cond := [Cond.fieldLink RX0 9 "RopeChoices$PlankRow" "sorted" "[I", Cond.methodLink RX1 123 yX0_middle, Cond.instanceMethod yX0_middle, Cond.selects RX0 yX0_middle yX0_middle, Cond.code yX0_middle cX0_middle 1 (some .int), Cond.methodLink RX1 151 yX1_stepFrom, Cond.instanceMethod yX1_stepFrom, Cond.selects RX1 yX1_stepFrom yX1_stepFrom, Cond.code yX1_stepFrom cX1_stepFrom 5 (some .int), Cond.fieldLink RX1 29 "RopeChoices" "paces" "[I", Cond.methodLink RX1 254 yX1_nearestWillingPlank, Cond.instanceMethod yX1_nearestWillingPlank, Cond.selects RX1 yX1_nearestWillingPlank yX1_nearestWillingPlank, Cond.code yX1_nearestWillingPlank cX1_nearestWillingPlank 4 (some .int), Cond.fieldLink RX1 23 "RopeChoices" "wishes" "[I", Cond.fieldLink RX1 26 "RopeChoices" "reaches" "[I", Cond.methodLink RX1 257 yX1_cutTo, Cond.static yX1_cutTo, Cond.code yX1_cutTo cX1_cutTo 3 (some .int), Cond.methodLink RX1 146 Lib.Math.min.name, Cond.static Lib.Math.min.name, Cond.initialized "java/lang/Math", Cond.code Lib.Math.min.name Lib.Math.min.code 2 (some .int), Cond.methodLink RX1 260 Lib.Math.max.name]
def wsX1_wouldStepTo_r3 : List Cond := [Cond.static Lib.Math.max.name, Cond.code Lib.Math.max.name Lib.Math.max.code 2 (some .int)]
def wsX1_wouldStepTo : List Cond := .code yX1_wouldStepTo cX1_wouldStepTo 2 (some .int) :: ((wsX1_wouldStepTo_r1 ++ (wsX1_wouldStepTo_r2 ++ wsX1_wouldStepTo_r3)) ++ wsX10 ++ wsX00 ++ (vx_atS RX1 236 "java/lang/IndexOutOfBoundsException" ["java/lang/RuntimeException", "java/lang/Exception"]).filter goodWord)
def wsX1_copyPlanksToLater : List Cond := .code yX1_copyPlanksToLater cX1_copyPlanksToLater 2 none :: ([.fieldLink RX1 7 "RopeChoices" "count" "I", .fieldLink RX1 35 "RopeChoices" "laterPlanks" "[I", .fieldLink RX1 32 "RopeChoices" "planks" "[I"] ++ wsX10)
def wsX1_isStill_r1 : List Cond := [Cond.fieldLink RX1 35 "RopeChoices" "laterPlanks" "[I", Cond.methodLink RX1 155 yX1_copyPlanksToLater, Cond.instanceMethod yX1_copyPlanksToLater, Cond.selects RX1 yX1_copyPlanksToLater yX1_copyPlanksToLater, Cond.initialized RX1, Cond.code yX1_copyPlanksToLater cX1_copyPlanksToLater 2 none, Cond.fieldLink RX1 7 "RopeChoices" "count" "I", Cond.fieldLink RX1 32 "RopeChoices" "planks" "[I", Cond.methodLink RX1 158 yX1_goRound, Cond.instanceMethod yX1_goRound, Cond.selects RX1 yX1_goRound yX1_goRound, Cond.code yX1_goRound cX1_goRound 6 (some .int), Cond.methodLink RX1 111 yX1_middleOfAll, Cond.instanceMethod yX1_middleOfAll, Cond.selects RX1 yX1_middleOfAll yX1_middleOfAll, Cond.code yX1_middleOfAll cX1_middleOfAll 3 (some .int), Cond.fieldLink RX1 41 "RopeChoices" "row" "LRopeChoices$PlankRow;", Cond.methodLink RX1 266 yX0_empty, Cond.instanceMethod yX0_empty, Cond.selects RX0 yX0_empty yX0_empty, Cond.initialized RX0, Cond.code yX0_empty cX0_empty 1 none, Cond.fieldLink RX0 15 "RopeChoices$PlankRow" "length" "I", Cond.methodLink RX1 269 yX0_put]
def wsX1_isStill_r2 : List Cond := [Cond.instanceMethod yX0_put, Cond.selects RX0 yX0_put yX0_put, Cond.code yX0_put cX0_put 3 none, Cond.fieldLink RX0 9 "RopeChoices$PlankRow" "sorted" "[I", Cond.methodLink RX1 123 yX0_middle, Cond.instanceMethod yX0_middle, Cond.selects RX0 yX0_middle yX0_middle, Cond.code yX0_middle cX0_middle 1 (some .int), Cond.methodLink RX1 151 yX1_stepFrom, Cond.instanceMethod yX1_stepFrom, Cond.selects RX1 yX1_stepFrom yX1_stepFrom, Cond.code yX1_stepFrom cX1_stepFrom 5 (some .int), Cond.fieldLink RX1 29 "RopeChoices" "paces" "[I", Cond.methodLink RX1 254 yX1_nearestWillingPlank, Cond.instanceMethod yX1_nearestWillingPlank, Cond.selects RX1 yX1_nearestWillingPlank yX1_nearestWillingPlank, Cond.code yX1_nearestWillingPlank cX1_nearestWillingPlank 4 (some .int), Cond.fieldLink RX1 23 "RopeChoices" "wishes" "[I", Cond.fieldLink RX1 26 "RopeChoices" "reaches" "[I", Cond.methodLink RX1 257 yX1_cutTo, Cond.static yX1_cutTo, Cond.code yX1_cutTo cX1_cutTo 3 (some .int), Cond.methodLink RX1 146 Lib.Math.min.name, Cond.static Lib.Math.min.name]
def wsX1_isStill_r3 : List Cond := [Cond.initialized "java/lang/Math", Cond.code Lib.Math.min.name Lib.Math.min.code 2 (some .int), Cond.methodLink RX1 260 Lib.Math.max.name, Cond.static Lib.Math.max.name, Cond.code Lib.Math.max.name Lib.Math.max.code 2 (some .int), Cond.methodLink RX1 63 yX1_hasRoom, Cond.instanceMethod yX1_hasRoom, Cond.selects RX1 yX1_hasRoom yX1_hasRoom, Cond.code yX1_hasRoom cX1_hasRoom 3 (some .boolean), Cond.fieldLink RX1 16 "RopeChoices" "plankStrength" "I", Cond.methodLink RX1 97 yX1_crowdOn, Cond.instanceMethod yX1_crowdOn, Cond.selects RX1 yX1_crowdOn yX1_crowdOn, Cond.code yX1_crowdOn cX1_crowdOn 5 (some .int)]
def wsX1_isStill : List Cond := .code yX1_isStill cX1_isStill 1 (some .boolean) :: ((wsX1_isStill_r1 ++ (wsX1_isStill_r2 ++ wsX1_isStill_r3)) ++ wsX10 ++ wsX00)
def wsX1_plankIn_r1 : List Cond := [Cond.fieldLink RX1 35 "RopeChoices" "laterPlanks" "[I", Cond.methodLink RX1 69 yX1_checkDelegate, Cond.instanceMethod yX1_checkDelegate, Cond.selects RX1 yX1_checkDelegate yX1_checkDelegate, Cond.initialized RX1, Cond.code yX1_checkDelegate cX1_checkDelegate 2 none, Cond.classLink RX1 232 "java/lang/IndexOutOfBoundsException", Cond.initialized "java/lang/IndexOutOfBoundsException", Cond.fieldLink RX1 7 "RopeChoices" "count" "I", Cond.methodLink RX1 90 yX1_checkRounds, Cond.static yX1_checkRounds, Cond.code yX1_checkRounds cX1_checkRounds 1 none, Cond.classLink RX1 85 "java/lang/IllegalArgumentException", Cond.initialized "java/lang/IllegalArgumentException", Cond.methodLink RX1 155 yX1_copyPlanksToLater, Cond.instanceMethod yX1_copyPlanksToLater, Cond.selects RX1 yX1_copyPlanksToLater yX1_copyPlanksToLater, Cond.code yX1_copyPlanksToLater cX1_copyPlanksToLater 2 none, Cond.fieldLink RX1 32 "RopeChoices" "planks" "[I", Cond.methodLink RX1 93 yX1_goRounds, Cond.instanceMethod yX1_goRounds, Cond.selects RX1 yX1_goRounds yX1_goRounds, Cond.code yX1_goRounds cX1_goRounds 5 (some .int), Cond.methodLink RX1 158 yX1_goRound]
def wsX1_plankIn_r2 : List Cond := [Cond.instanceMethod yX1_goRound, Cond.selects RX1 yX1_goRound yX1_goRound, Cond.code yX1_goRound cX1_goRound 6 (some .int), Cond.methodLink RX1 111 yX1_middleOfAll, Cond.instanceMethod yX1_middleOfAll, Cond.selects RX1 yX1_middleOfAll yX1_middleOfAll, Cond.code yX1_middleOfAll cX1_middleOfAll 3 (some .int), Cond.fieldLink RX1 41 "RopeChoices" "row" "LRopeChoices$PlankRow;", Cond.methodLink RX1 266 yX0_empty, Cond.instanceMethod yX0_empty, Cond.selects RX0 yX0_empty yX0_empty, Cond.initialized RX0, Cond.code yX0_empty cX0_empty 1 none, Cond.fieldLink RX0 15 "RopeChoices$PlankRow" "length" "I", Cond.methodLink RX1 269 yX0_put, Cond.instanceMethod yX0_put, Cond.selects RX0 yX0_put yX0_put, Cond.code yX0_put cX0_put 3 none, Cond.fieldLink RX0 9 "RopeChoices$PlankRow" "sorted" "[I", Cond.methodLink RX1 123 yX0_middle, Cond.instanceMethod yX0_middle, Cond.selects RX0 yX0_middle yX0_middle, Cond.code yX0_middle cX0_middle 1 (some .int), Cond.methodLink RX1 151 yX1_stepFrom]
def wsX1_plankIn_r3 : List Cond := [Cond.instanceMethod yX1_stepFrom, Cond.selects RX1 yX1_stepFrom yX1_stepFrom, Cond.code yX1_stepFrom cX1_stepFrom 5 (some .int), Cond.fieldLink RX1 29 "RopeChoices" "paces" "[I", Cond.methodLink RX1 254 yX1_nearestWillingPlank, Cond.instanceMethod yX1_nearestWillingPlank, Cond.selects RX1 yX1_nearestWillingPlank yX1_nearestWillingPlank, Cond.code yX1_nearestWillingPlank cX1_nearestWillingPlank 4 (some .int), Cond.fieldLink RX1 23 "RopeChoices" "wishes" "[I", Cond.fieldLink RX1 26 "RopeChoices" "reaches" "[I", Cond.methodLink RX1 257 yX1_cutTo, Cond.static yX1_cutTo, Cond.code yX1_cutTo cX1_cutTo 3 (some .int), Cond.methodLink RX1 146 Lib.Math.min.name, Cond.static Lib.Math.min.name, Cond.initialized "java/lang/Math", Cond.code Lib.Math.min.name Lib.Math.min.code 2 (some .int), Cond.methodLink RX1 260 Lib.Math.max.name, Cond.static Lib.Math.max.name, Cond.code Lib.Math.max.name Lib.Math.max.code 2 (some .int), Cond.methodLink RX1 63 yX1_hasRoom, Cond.instanceMethod yX1_hasRoom, Cond.selects RX1 yX1_hasRoom yX1_hasRoom, Cond.code yX1_hasRoom cX1_hasRoom 3 (some .boolean)]
def wsX1_plankIn_r4 : List Cond := [Cond.fieldLink RX1 16 "RopeChoices" "plankStrength" "I", Cond.methodLink RX1 97 yX1_crowdOn, Cond.instanceMethod yX1_crowdOn, Cond.selects RX1 yX1_crowdOn yX1_crowdOn, Cond.code yX1_crowdOn cX1_crowdOn 5 (some .int)]
def wsX1_plankIn : List Cond := .code yX1_plankIn cX1_plankIn 3 (some .int) :: ((wsX1_plankIn_r1 ++ (wsX1_plankIn_r2 ++ (wsX1_plankIn_r3 ++ wsX1_plankIn_r4))) ++ wsX10 ++ wsX00 ++ (vx_atS RX1 236 "java/lang/IndexOutOfBoundsException" ["java/lang/RuntimeException", "java/lang/Exception"]).filter goodWord ++ (vx_atS RX1 89 "java/lang/IllegalArgumentException" ["java/lang/RuntimeException", "java/lang/Exception"]).filter goodWord)
def wsX1_compromiseIn_r1 : List Cond := [Cond.fieldLink RX1 35 "RopeChoices" "laterPlanks" "[I", Cond.methodLink RX1 90 yX1_checkRounds, Cond.static yX1_checkRounds, Cond.initialized RX1, Cond.code yX1_checkRounds cX1_checkRounds 1 none, Cond.classLink RX1 85 "java/lang/IllegalArgumentException", Cond.initialized "java/lang/IllegalArgumentException", Cond.methodLink RX1 108 yX1_checkSomeoneThere, Cond.instanceMethod yX1_checkSomeoneThere, Cond.selects RX1 yX1_checkSomeoneThere yX1_checkSomeoneThere, Cond.code yX1_checkSomeoneThere cX1_checkSomeoneThere 1 none, Cond.classLink RX1 56 "java/lang/IllegalStateException", Cond.initialized "java/lang/IllegalStateException", Cond.fieldLink RX1 7 "RopeChoices" "count" "I", Cond.methodLink RX1 155 yX1_copyPlanksToLater, Cond.instanceMethod yX1_copyPlanksToLater, Cond.selects RX1 yX1_copyPlanksToLater yX1_copyPlanksToLater, Cond.code yX1_copyPlanksToLater cX1_copyPlanksToLater 2 none, Cond.fieldLink RX1 32 "RopeChoices" "planks" "[I", Cond.methodLink RX1 93 yX1_goRounds, Cond.instanceMethod yX1_goRounds, Cond.selects RX1 yX1_goRounds yX1_goRounds, Cond.code yX1_goRounds cX1_goRounds 5 (some .int), Cond.methodLink RX1 158 yX1_goRound]
def wsX1_compromiseIn_r2 : List Cond := [Cond.instanceMethod yX1_goRound, Cond.selects RX1 yX1_goRound yX1_goRound, Cond.code yX1_goRound cX1_goRound 6 (some .int), Cond.methodLink RX1 111 yX1_middleOfAll, Cond.instanceMethod yX1_middleOfAll, Cond.selects RX1 yX1_middleOfAll yX1_middleOfAll, Cond.code yX1_middleOfAll cX1_middleOfAll 3 (some .int), Cond.fieldLink RX1 41 "RopeChoices" "row" "LRopeChoices$PlankRow;", Cond.methodLink RX1 266 yX0_empty, Cond.instanceMethod yX0_empty, Cond.selects RX0 yX0_empty yX0_empty, Cond.initialized RX0, Cond.code yX0_empty cX0_empty 1 none, Cond.fieldLink RX0 15 "RopeChoices$PlankRow" "length" "I", Cond.methodLink RX1 269 yX0_put, Cond.instanceMethod yX0_put, Cond.selects RX0 yX0_put yX0_put, Cond.code yX0_put cX0_put 3 none, Cond.fieldLink RX0 9 "RopeChoices$PlankRow" "sorted" "[I", Cond.methodLink RX1 123 yX0_middle, Cond.instanceMethod yX0_middle, Cond.selects RX0 yX0_middle yX0_middle, Cond.code yX0_middle cX0_middle 1 (some .int), Cond.methodLink RX1 151 yX1_stepFrom]
def wsX1_compromiseIn_r3 : List Cond := [Cond.instanceMethod yX1_stepFrom, Cond.selects RX1 yX1_stepFrom yX1_stepFrom, Cond.code yX1_stepFrom cX1_stepFrom 5 (some .int), Cond.fieldLink RX1 29 "RopeChoices" "paces" "[I", Cond.methodLink RX1 254 yX1_nearestWillingPlank, Cond.instanceMethod yX1_nearestWillingPlank, Cond.selects RX1 yX1_nearestWillingPlank yX1_nearestWillingPlank, Cond.code yX1_nearestWillingPlank cX1_nearestWillingPlank 4 (some .int), Cond.fieldLink RX1 23 "RopeChoices" "wishes" "[I", Cond.fieldLink RX1 26 "RopeChoices" "reaches" "[I", Cond.methodLink RX1 257 yX1_cutTo, Cond.static yX1_cutTo, Cond.code yX1_cutTo cX1_cutTo 3 (some .int), Cond.methodLink RX1 146 Lib.Math.min.name, Cond.static Lib.Math.min.name, Cond.initialized "java/lang/Math", Cond.code Lib.Math.min.name Lib.Math.min.code 2 (some .int), Cond.methodLink RX1 260 Lib.Math.max.name, Cond.static Lib.Math.max.name, Cond.code Lib.Math.max.name Lib.Math.max.code 2 (some .int), Cond.methodLink RX1 63 yX1_hasRoom, Cond.instanceMethod yX1_hasRoom, Cond.selects RX1 yX1_hasRoom yX1_hasRoom, Cond.code yX1_hasRoom cX1_hasRoom 3 (some .boolean)]
def wsX1_compromiseIn_r4 : List Cond := [Cond.fieldLink RX1 16 "RopeChoices" "plankStrength" "I", Cond.methodLink RX1 97 yX1_crowdOn, Cond.instanceMethod yX1_crowdOn, Cond.selects RX1 yX1_crowdOn yX1_crowdOn, Cond.code yX1_crowdOn cX1_crowdOn 5 (some .int)]
def wsX1_compromiseIn : List Cond := .code yX1_compromiseIn cX1_compromiseIn 2 (some .int) :: ((wsX1_compromiseIn_r1 ++ (wsX1_compromiseIn_r2 ++ (wsX1_compromiseIn_r3 ++ wsX1_compromiseIn_r4))) ++ wsX10 ++ wsX00 ++ (vx_atS RX1 89 "java/lang/IllegalArgumentException" ["java/lang/RuntimeException", "java/lang/Exception"]).filter goodWord ++ (vx_atS RX1 60 "java/lang/IllegalStateException" ["java/lang/RuntimeException", "java/lang/Exception"]).filter goodWord)
def wsX1_roundsUntilTreaty_r1 : List Cond := [Cond.fieldLink RX1 35 "RopeChoices" "laterPlanks" "[I", Cond.methodLink RX1 155 yX1_copyPlanksToLater, Cond.instanceMethod yX1_copyPlanksToLater, Cond.selects RX1 yX1_copyPlanksToLater yX1_copyPlanksToLater, Cond.initialized RX1, Cond.code yX1_copyPlanksToLater cX1_copyPlanksToLater 2 none, Cond.fieldLink RX1 7 "RopeChoices" "count" "I", Cond.fieldLink RX1 32 "RopeChoices" "planks" "[I", Cond.methodLink RX1 104 yX1_agreesAt, Cond.instanceMethod yX1_agreesAt, Cond.selects RX1 yX1_agreesAt yX1_agreesAt, Cond.code yX1_agreesAt cX1_agreesAt 2 (some .boolean), Cond.methodLink RX1 263 yX1_hasTwoVillages, Cond.instanceMethod yX1_hasTwoVillages, Cond.selects RX1 yX1_hasTwoVillages yX1_hasTwoVillages, Cond.code yX1_hasTwoVillages cX1_hasTwoVillages 2 (some .boolean), Cond.fieldLink RX1 19 "RopeChoices" "villages" "[I", Cond.methodLink RX1 100 yX1_distanceOfEnds, Cond.instanceMethod yX1_distanceOfEnds, Cond.selects RX1 yX1_distanceOfEnds yX1_distanceOfEnds, Cond.code yX1_distanceOfEnds cX1_distanceOfEnds 5 (some .int), Cond.methodLink RX1 146 Lib.Math.min.name, Cond.static Lib.Math.min.name, Cond.initialized "java/lang/Math"]
def wsX1_roundsUntilTreaty_r2 : List Cond := [Cond.code Lib.Math.min.name Lib.Math.min.code 2 (some .int), Cond.methodLink RX1 260 Lib.Math.max.name, Cond.static Lib.Math.max.name, Cond.code Lib.Math.max.name Lib.Math.max.code 2 (some .int), Cond.methodLink RX1 158 yX1_goRound, Cond.instanceMethod yX1_goRound, Cond.selects RX1 yX1_goRound yX1_goRound, Cond.code yX1_goRound cX1_goRound 6 (some .int), Cond.methodLink RX1 111 yX1_middleOfAll, Cond.instanceMethod yX1_middleOfAll, Cond.selects RX1 yX1_middleOfAll yX1_middleOfAll, Cond.code yX1_middleOfAll cX1_middleOfAll 3 (some .int), Cond.fieldLink RX1 41 "RopeChoices" "row" "LRopeChoices$PlankRow;", Cond.methodLink RX1 266 yX0_empty, Cond.instanceMethod yX0_empty, Cond.selects RX0 yX0_empty yX0_empty, Cond.initialized RX0, Cond.code yX0_empty cX0_empty 1 none, Cond.fieldLink RX0 15 "RopeChoices$PlankRow" "length" "I", Cond.methodLink RX1 269 yX0_put, Cond.instanceMethod yX0_put, Cond.selects RX0 yX0_put yX0_put, Cond.code yX0_put cX0_put 3 none, Cond.fieldLink RX0 9 "RopeChoices$PlankRow" "sorted" "[I"]
def wsX1_roundsUntilTreaty_r3 : List Cond := [Cond.methodLink RX1 123 yX0_middle, Cond.instanceMethod yX0_middle, Cond.selects RX0 yX0_middle yX0_middle, Cond.code yX0_middle cX0_middle 1 (some .int), Cond.methodLink RX1 151 yX1_stepFrom, Cond.instanceMethod yX1_stepFrom, Cond.selects RX1 yX1_stepFrom yX1_stepFrom, Cond.code yX1_stepFrom cX1_stepFrom 5 (some .int), Cond.fieldLink RX1 29 "RopeChoices" "paces" "[I", Cond.methodLink RX1 254 yX1_nearestWillingPlank, Cond.instanceMethod yX1_nearestWillingPlank, Cond.selects RX1 yX1_nearestWillingPlank yX1_nearestWillingPlank, Cond.code yX1_nearestWillingPlank cX1_nearestWillingPlank 4 (some .int), Cond.fieldLink RX1 23 "RopeChoices" "wishes" "[I", Cond.fieldLink RX1 26 "RopeChoices" "reaches" "[I", Cond.methodLink RX1 257 yX1_cutTo, Cond.static yX1_cutTo, Cond.code yX1_cutTo cX1_cutTo 3 (some .int), Cond.methodLink RX1 63 yX1_hasRoom, Cond.instanceMethod yX1_hasRoom, Cond.selects RX1 yX1_hasRoom yX1_hasRoom, Cond.code yX1_hasRoom cX1_hasRoom 3 (some .boolean), Cond.fieldLink RX1 16 "RopeChoices" "plankStrength" "I", Cond.methodLink RX1 97 yX1_crowdOn]
def wsX1_roundsUntilTreaty_r4 : List Cond := [Cond.instanceMethod yX1_crowdOn, Cond.selects RX1 yX1_crowdOn yX1_crowdOn, Cond.code yX1_crowdOn cX1_crowdOn 5 (some .int)]
def wsX1_roundsUntilTreaty : List Cond := .code yX1_roundsUntilTreaty cX1_roundsUntilTreaty 2 (some .int) :: ((wsX1_roundsUntilTreaty_r1 ++ (wsX1_roundsUntilTreaty_r2 ++ (wsX1_roundsUntilTreaty_r3 ++ wsX1_roundsUntilTreaty_r4))) ++ wsX10 ++ wsX00)
def wsX1_roundsUntilStill_r1 : List Cond := [Cond.fieldLink RX1 35 "RopeChoices" "laterPlanks" "[I", Cond.methodLink RX1 155 yX1_copyPlanksToLater, Cond.instanceMethod yX1_copyPlanksToLater, Cond.selects RX1 yX1_copyPlanksToLater yX1_copyPlanksToLater, Cond.initialized RX1, Cond.code yX1_copyPlanksToLater cX1_copyPlanksToLater 2 none, Cond.fieldLink RX1 7 "RopeChoices" "count" "I", Cond.fieldLink RX1 32 "RopeChoices" "planks" "[I", Cond.methodLink RX1 158 yX1_goRound, Cond.instanceMethod yX1_goRound, Cond.selects RX1 yX1_goRound yX1_goRound, Cond.code yX1_goRound cX1_goRound 6 (some .int), Cond.methodLink RX1 111 yX1_middleOfAll, Cond.instanceMethod yX1_middleOfAll, Cond.selects RX1 yX1_middleOfAll yX1_middleOfAll, Cond.code yX1_middleOfAll cX1_middleOfAll 3 (some .int), Cond.fieldLink RX1 41 "RopeChoices" "row" "LRopeChoices$PlankRow;", Cond.methodLink RX1 266 yX0_empty, Cond.instanceMethod yX0_empty, Cond.selects RX0 yX0_empty yX0_empty, Cond.initialized RX0, Cond.code yX0_empty cX0_empty 1 none, Cond.fieldLink RX0 15 "RopeChoices$PlankRow" "length" "I", Cond.methodLink RX1 269 yX0_put]
def wsX1_roundsUntilStill_r2 : List Cond := [Cond.instanceMethod yX0_put, Cond.selects RX0 yX0_put yX0_put, Cond.code yX0_put cX0_put 3 none, Cond.fieldLink RX0 9 "RopeChoices$PlankRow" "sorted" "[I", Cond.methodLink RX1 123 yX0_middle, Cond.instanceMethod yX0_middle, Cond.selects RX0 yX0_middle yX0_middle, Cond.code yX0_middle cX0_middle 1 (some .int), Cond.methodLink RX1 151 yX1_stepFrom, Cond.instanceMethod yX1_stepFrom, Cond.selects RX1 yX1_stepFrom yX1_stepFrom, Cond.code yX1_stepFrom cX1_stepFrom 5 (some .int), Cond.fieldLink RX1 29 "RopeChoices" "paces" "[I", Cond.methodLink RX1 254 yX1_nearestWillingPlank, Cond.instanceMethod yX1_nearestWillingPlank, Cond.selects RX1 yX1_nearestWillingPlank yX1_nearestWillingPlank, Cond.code yX1_nearestWillingPlank cX1_nearestWillingPlank 4 (some .int), Cond.fieldLink RX1 23 "RopeChoices" "wishes" "[I", Cond.fieldLink RX1 26 "RopeChoices" "reaches" "[I", Cond.methodLink RX1 257 yX1_cutTo, Cond.static yX1_cutTo, Cond.code yX1_cutTo cX1_cutTo 3 (some .int), Cond.methodLink RX1 146 Lib.Math.min.name, Cond.static Lib.Math.min.name]
def wsX1_roundsUntilStill_r3 : List Cond := [Cond.initialized "java/lang/Math", Cond.code Lib.Math.min.name Lib.Math.min.code 2 (some .int), Cond.methodLink RX1 260 Lib.Math.max.name, Cond.static Lib.Math.max.name, Cond.code Lib.Math.max.name Lib.Math.max.code 2 (some .int), Cond.methodLink RX1 63 yX1_hasRoom, Cond.instanceMethod yX1_hasRoom, Cond.selects RX1 yX1_hasRoom yX1_hasRoom, Cond.code yX1_hasRoom cX1_hasRoom 3 (some .boolean), Cond.fieldLink RX1 16 "RopeChoices" "plankStrength" "I", Cond.methodLink RX1 97 yX1_crowdOn, Cond.instanceMethod yX1_crowdOn, Cond.selects RX1 yX1_crowdOn yX1_crowdOn, Cond.code yX1_crowdOn cX1_crowdOn 5 (some .int)]
def wsX1_roundsUntilStill : List Cond := .code yX1_roundsUntilStill cX1_roundsUntilStill 2 (some .int) :: ((wsX1_roundsUntilStill_r1 ++ (wsX1_roundsUntilStill_r2 ++ wsX1_roundsUntilStill_r3)) ++ wsX10 ++ wsX00)
def wsX1_bestStand_r1 : List Cond := [Cond.fieldLink RX1 41 "RopeChoices" "row" "LRopeChoices$PlankRow;", Cond.methodLink RX1 69 yX1_checkDelegate, Cond.instanceMethod yX1_checkDelegate, Cond.selects RX1 yX1_checkDelegate yX1_checkDelegate, Cond.initialized RX1, Cond.code yX1_checkDelegate cX1_checkDelegate 2 none, Cond.classLink RX1 232 "java/lang/IndexOutOfBoundsException", Cond.initialized "java/lang/IndexOutOfBoundsException", Cond.fieldLink RX1 7 "RopeChoices" "count" "I", Cond.methodLink RX1 127 yX1_gatherOthers, Cond.instanceMethod yX1_gatherOthers, Cond.selects RX1 yX1_gatherOthers yX1_gatherOthers, Cond.code yX1_gatherOthers cX1_gatherOthers 3 none, Cond.fieldLink RX1 32 "RopeChoices" "planks" "[I", Cond.methodLink RX1 266 yX0_empty, Cond.instanceMethod yX0_empty, Cond.selects RX0 yX0_empty yX0_empty, Cond.initialized RX0, Cond.code yX0_empty cX0_empty 1 none, Cond.fieldLink RX0 15 "RopeChoices$PlankRow" "length" "I", Cond.methodLink RX1 269 yX0_put, Cond.instanceMethod yX0_put, Cond.selects RX0 yX0_put yX0_put, Cond.code yX0_put cX0_put 3 none]
def wsX1_bestStand_r2 : List Cond := [Cond.fieldLink RX0 9 "RopeChoices$PlankRow" "sorted" "[I", Cond.methodLink RX1 161 yX0_middleWith, Cond.instanceMethod yX0_middleWith, Cond.selects RX0 yX0_middleWith yX0_middleWith, Cond.code yX0_middleWith cX0_middleWith 5 (some .int), Cond.static yX1_cutTo, Cond.code yX1_cutTo cX1_cutTo 3 (some .int), Cond.methodLink RX1 146 Lib.Math.min.name, Cond.static Lib.Math.min.name, Cond.initialized "java/lang/Math", Cond.code Lib.Math.min.name Lib.Math.min.code 2 (some .int), Cond.methodLink RX1 260 Lib.Math.max.name, Cond.static Lib.Math.max.name, Cond.code Lib.Math.max.name Lib.Math.max.code 2 (some .int), Cond.methodLink RX1 132 yX1_discontent, Cond.instanceMethod yX1_discontent, Cond.selects RX1 yX1_discontent yX1_discontent, Cond.code yX1_discontent cX1_discontent 3 (some .int), Cond.fieldLink RX1 23 "RopeChoices" "wishes" "[I", Cond.methodLink RX1 251 Lib.Math.abs.name, Cond.static Lib.Math.abs.name, Cond.code Lib.Math.abs.name Lib.Math.abs.code 1 (some .int)]
def wsX1_bestStand : List Cond := .code yX1_bestStand cX1_bestStand 6 (some .int) :: ((wsX1_bestStand_r1 ++ wsX1_bestStand_r2) ++ wsX10 ++ wsX00 ++ (vx_atS RX1 236 "java/lang/IndexOutOfBoundsException" ["java/lang/RuntimeException", "java/lang/Exception"]).filter goodWord)
def wsX1_meanPlank : List Cond := .code yX1_meanPlank cX1_meanPlank 3 (some .double) :: ([.fieldLink RX1 7 "RopeChoices" "count" "I", .fieldLink RX1 32 "RopeChoices" "planks" "[I"] ++ wsX10)
def wsX1_fold : List Cond := .code yX1_fold cX1_fold 3 (some .long) :: ([.constantLong RX1 230 (31)])
def wsX1_foldDelegate_r1 : List Cond := [Cond.methodLink RX1 206 yX1_villageOf, Cond.instanceMethod yX1_villageOf, Cond.selects RX1 yX1_villageOf yX1_villageOf, Cond.initialized RX1, Cond.code yX1_villageOf cX1_villageOf 2 (some .int), Cond.fieldLink RX1 19 "RopeChoices" "villages" "[I", Cond.methodLink RX1 69 yX1_checkDelegate, Cond.instanceMethod yX1_checkDelegate, Cond.selects RX1 yX1_checkDelegate yX1_checkDelegate, Cond.code yX1_checkDelegate cX1_checkDelegate 2 none, Cond.classLink RX1 232 "java/lang/IndexOutOfBoundsException", Cond.initialized "java/lang/IndexOutOfBoundsException", Cond.fieldLink RX1 7 "RopeChoices" "count" "I", Cond.methodLink RX1 169 yX1_fold, Cond.static yX1_fold, Cond.code yX1_fold cX1_fold 3 (some .long), Cond.constantLong RX1 230 (31), Cond.methodLink RX1 209 yX1_wishOf, Cond.instanceMethod yX1_wishOf, Cond.selects RX1 yX1_wishOf yX1_wishOf, Cond.code yX1_wishOf cX1_wishOf 2 (some .int), Cond.fieldLink RX1 23 "RopeChoices" "wishes" "[I", Cond.methodLink RX1 212 yX1_reachOf, Cond.instanceMethod yX1_reachOf]
def wsX1_foldDelegate_r2 : List Cond := [Cond.selects RX1 yX1_reachOf yX1_reachOf, Cond.code yX1_reachOf cX1_reachOf 2 (some .int), Cond.fieldLink RX1 26 "RopeChoices" "reaches" "[I", Cond.methodLink RX1 215 yX1_paceOf, Cond.instanceMethod yX1_paceOf, Cond.selects RX1 yX1_paceOf yX1_paceOf, Cond.code yX1_paceOf cX1_paceOf 2 (some .int), Cond.fieldLink RX1 29 "RopeChoices" "paces" "[I", Cond.methodLink RX1 218 yX1_plankOf, Cond.instanceMethod yX1_plankOf, Cond.selects RX1 yX1_plankOf yX1_plankOf, Cond.code yX1_plankOf cX1_plankOf 2 (some .int), Cond.fieldLink RX1 32 "RopeChoices" "planks" "[I", Cond.methodLink RX1 221 yX1_wouldStepTo, Cond.instanceMethod yX1_wouldStepTo, Cond.selects RX1 yX1_wouldStepTo yX1_wouldStepTo, Cond.code yX1_wouldStepTo cX1_wouldStepTo 2 (some .int), Cond.methodLink RX1 111 yX1_middleOfAll, Cond.instanceMethod yX1_middleOfAll, Cond.selects RX1 yX1_middleOfAll yX1_middleOfAll, Cond.code yX1_middleOfAll cX1_middleOfAll 3 (some .int), Cond.fieldLink RX1 41 "RopeChoices" "row" "LRopeChoices$PlankRow;", Cond.methodLink RX1 266 yX0_empty, Cond.instanceMethod yX0_empty]
def wsX1_foldDelegate_r3 : List Cond := [Cond.selects RX0 yX0_empty yX0_empty, Cond.initialized RX0, Cond.code yX0_empty cX0_empty 1 none, Cond.fieldLink RX0 15 "RopeChoices$PlankRow" "length" "I", Cond.methodLink RX1 269 yX0_put, Cond.instanceMethod yX0_put, Cond.selects RX0 yX0_put yX0_put, Cond.code yX0_put cX0_put 3 none, Cond.fieldLink RX0 9 "RopeChoices$PlankRow" "sorted" "[I", Cond.methodLink RX1 123 yX0_middle, Cond.instanceMethod yX0_middle, Cond.selects RX0 yX0_middle yX0_middle, Cond.code yX0_middle cX0_middle 1 (some .int), Cond.methodLink RX1 151 yX1_stepFrom, Cond.instanceMethod yX1_stepFrom, Cond.selects RX1 yX1_stepFrom yX1_stepFrom, Cond.code yX1_stepFrom cX1_stepFrom 5 (some .int), Cond.methodLink RX1 254 yX1_nearestWillingPlank, Cond.instanceMethod yX1_nearestWillingPlank, Cond.selects RX1 yX1_nearestWillingPlank yX1_nearestWillingPlank, Cond.code yX1_nearestWillingPlank cX1_nearestWillingPlank 4 (some .int), Cond.methodLink RX1 257 yX1_cutTo, Cond.static yX1_cutTo, Cond.code yX1_cutTo cX1_cutTo 3 (some .int)]
def wsX1_foldDelegate_r4 : List Cond := [Cond.methodLink RX1 146 Lib.Math.min.name, Cond.static Lib.Math.min.name, Cond.initialized "java/lang/Math", Cond.code Lib.Math.min.name Lib.Math.min.code 2 (some .int), Cond.methodLink RX1 260 Lib.Math.max.name, Cond.static Lib.Math.max.name, Cond.code Lib.Math.max.name Lib.Math.max.code 2 (some .int), Cond.methodLink RX1 224 yX1_bestStand, Cond.instanceMethod yX1_bestStand, Cond.selects RX1 yX1_bestStand yX1_bestStand, Cond.code yX1_bestStand cX1_bestStand 6 (some .int), Cond.methodLink RX1 127 yX1_gatherOthers, Cond.instanceMethod yX1_gatherOthers, Cond.selects RX1 yX1_gatherOthers yX1_gatherOthers, Cond.code yX1_gatherOthers cX1_gatherOthers 3 none, Cond.methodLink RX1 161 yX0_middleWith, Cond.instanceMethod yX0_middleWith, Cond.selects RX0 yX0_middleWith yX0_middleWith, Cond.code yX0_middleWith cX0_middleWith 5 (some .int), Cond.methodLink RX1 132 yX1_discontent, Cond.instanceMethod yX1_discontent, Cond.selects RX1 yX1_discontent yX1_discontent, Cond.code yX1_discontent cX1_discontent 3 (some .int), Cond.methodLink RX1 251 Lib.Math.abs.name]
def wsX1_foldDelegate_r5 : List Cond := [Cond.static Lib.Math.abs.name, Cond.code Lib.Math.abs.name Lib.Math.abs.code 1 (some .int), Cond.methodLink RX1 227 yX1_discontentOf, Cond.instanceMethod yX1_discontentOf, Cond.selects RX1 yX1_discontentOf yX1_discontentOf, Cond.code yX1_discontentOf cX1_discontentOf 2 (some .int)]
def wsX1_foldDelegate : List Cond := .code yX1_foldDelegate cX1_foldDelegate 6 (some .long) :: ((wsX1_foldDelegate_r1 ++ (wsX1_foldDelegate_r2 ++ (wsX1_foldDelegate_r3 ++ (wsX1_foldDelegate_r4 ++ wsX1_foldDelegate_r5)))) ++ wsX10 ++ wsX00 ++ (vx_atS RX1 236 "java/lang/IndexOutOfBoundsException" ["java/lang/RuntimeException", "java/lang/Exception"]).filter goodWord)
def wsX1_digest_r1 : List Cond := [Cond.constantLong RX1 164 (1933), Cond.fieldLink RX1 7 "RopeChoices" "count" "I", Cond.methodLink RX1 166 yX1_delegates, Cond.instanceMethod yX1_delegates, Cond.selects RX1 yX1_delegates yX1_delegates, Cond.initialized RX1, Cond.code yX1_delegates cX1_delegates 1 (some .int), Cond.methodLink RX1 169 yX1_fold, Cond.static yX1_fold, Cond.code yX1_fold cX1_fold 3 (some .long), Cond.constantLong RX1 230 (31), Cond.methodLink RX1 173 yX1_rounds, Cond.instanceMethod yX1_rounds, Cond.selects RX1 yX1_rounds yX1_rounds, Cond.code yX1_rounds cX1_rounds 1 (some .int), Cond.fieldLink RX1 13 "RopeChoices" "roundsGone" "I", Cond.methodLink RX1 176 yX1_strength, Cond.instanceMethod yX1_strength, Cond.selects RX1 yX1_strength yX1_strength, Cond.code yX1_strength cX1_strength 1 (some .int), Cond.fieldLink RX1 16 "RopeChoices" "plankStrength" "I", Cond.methodLink RX1 179 yX1_spread, Cond.instanceMethod yX1_spread, Cond.selects RX1 yX1_spread yX1_spread]
def wsX1_digest_r2 : List Cond := [Cond.code yX1_spread cX1_spread 1 (some .int), Cond.fieldLink RX1 32 "RopeChoices" "planks" "[I", Cond.methodLink RX1 100 yX1_distanceOfEnds, Cond.instanceMethod yX1_distanceOfEnds, Cond.selects RX1 yX1_distanceOfEnds yX1_distanceOfEnds, Cond.code yX1_distanceOfEnds cX1_distanceOfEnds 5 (some .int), Cond.methodLink RX1 146 Lib.Math.min.name, Cond.static Lib.Math.min.name, Cond.initialized "java/lang/Math", Cond.code Lib.Math.min.name Lib.Math.min.code 2 (some .int), Cond.methodLink RX1 260 Lib.Math.max.name, Cond.static Lib.Math.max.name, Cond.code Lib.Math.max.name Lib.Math.max.code 2 (some .int), Cond.methodLink RX1 182 yX1_isTreaty, Cond.instanceMethod yX1_isTreaty, Cond.selects RX1 yX1_isTreaty yX1_isTreaty, Cond.code yX1_isTreaty cX1_isTreaty 1 (some .boolean), Cond.methodLink RX1 104 yX1_agreesAt, Cond.instanceMethod yX1_agreesAt, Cond.selects RX1 yX1_agreesAt yX1_agreesAt, Cond.code yX1_agreesAt cX1_agreesAt 2 (some .boolean), Cond.methodLink RX1 263 yX1_hasTwoVillages, Cond.instanceMethod yX1_hasTwoVillages, Cond.selects RX1 yX1_hasTwoVillages yX1_hasTwoVillages]
def wsX1_digest_r3 : List Cond := [Cond.code yX1_hasTwoVillages cX1_hasTwoVillages 2 (some .boolean), Cond.fieldLink RX1 19 "RopeChoices" "villages" "[I", Cond.methodLink RX1 185 yX1_isStill, Cond.instanceMethod yX1_isStill, Cond.selects RX1 yX1_isStill yX1_isStill, Cond.code yX1_isStill cX1_isStill 1 (some .boolean), Cond.fieldLink RX1 35 "RopeChoices" "laterPlanks" "[I", Cond.methodLink RX1 155 yX1_copyPlanksToLater, Cond.instanceMethod yX1_copyPlanksToLater, Cond.selects RX1 yX1_copyPlanksToLater yX1_copyPlanksToLater, Cond.code yX1_copyPlanksToLater cX1_copyPlanksToLater 2 none, Cond.methodLink RX1 158 yX1_goRound, Cond.instanceMethod yX1_goRound, Cond.selects RX1 yX1_goRound yX1_goRound, Cond.code yX1_goRound cX1_goRound 6 (some .int), Cond.methodLink RX1 111 yX1_middleOfAll, Cond.instanceMethod yX1_middleOfAll, Cond.selects RX1 yX1_middleOfAll yX1_middleOfAll, Cond.code yX1_middleOfAll cX1_middleOfAll 3 (some .int), Cond.fieldLink RX1 41 "RopeChoices" "row" "LRopeChoices$PlankRow;", Cond.methodLink RX1 266 yX0_empty, Cond.instanceMethod yX0_empty, Cond.selects RX0 yX0_empty yX0_empty, Cond.initialized RX0]
def wsX1_digest_r4 : List Cond := [Cond.code yX0_empty cX0_empty 1 none, Cond.fieldLink RX0 15 "RopeChoices$PlankRow" "length" "I", Cond.methodLink RX1 269 yX0_put, Cond.instanceMethod yX0_put, Cond.selects RX0 yX0_put yX0_put, Cond.code yX0_put cX0_put 3 none, Cond.fieldLink RX0 9 "RopeChoices$PlankRow" "sorted" "[I", Cond.methodLink RX1 123 yX0_middle, Cond.instanceMethod yX0_middle, Cond.selects RX0 yX0_middle yX0_middle, Cond.code yX0_middle cX0_middle 1 (some .int), Cond.methodLink RX1 151 yX1_stepFrom, Cond.instanceMethod yX1_stepFrom, Cond.selects RX1 yX1_stepFrom yX1_stepFrom, Cond.code yX1_stepFrom cX1_stepFrom 5 (some .int), Cond.fieldLink RX1 29 "RopeChoices" "paces" "[I", Cond.methodLink RX1 254 yX1_nearestWillingPlank, Cond.instanceMethod yX1_nearestWillingPlank, Cond.selects RX1 yX1_nearestWillingPlank yX1_nearestWillingPlank, Cond.code yX1_nearestWillingPlank cX1_nearestWillingPlank 4 (some .int), Cond.fieldLink RX1 23 "RopeChoices" "wishes" "[I", Cond.fieldLink RX1 26 "RopeChoices" "reaches" "[I", Cond.methodLink RX1 257 yX1_cutTo, Cond.static yX1_cutTo]
def wsX1_digest_r5 : List Cond := [Cond.code yX1_cutTo cX1_cutTo 3 (some .int), Cond.methodLink RX1 63 yX1_hasRoom, Cond.instanceMethod yX1_hasRoom, Cond.selects RX1 yX1_hasRoom yX1_hasRoom, Cond.code yX1_hasRoom cX1_hasRoom 3 (some .boolean), Cond.methodLink RX1 97 yX1_crowdOn, Cond.instanceMethod yX1_crowdOn, Cond.selects RX1 yX1_crowdOn yX1_crowdOn, Cond.code yX1_crowdOn cX1_crowdOn 5 (some .int), Cond.methodLink RX1 188 yX1_compromise, Cond.instanceMethod yX1_compromise, Cond.selects RX1 yX1_compromise yX1_compromise, Cond.code yX1_compromise cX1_compromise 1 (some .int), Cond.methodLink RX1 108 yX1_checkSomeoneThere, Cond.instanceMethod yX1_checkSomeoneThere, Cond.selects RX1 yX1_checkSomeoneThere yX1_checkSomeoneThere, Cond.code yX1_checkSomeoneThere cX1_checkSomeoneThere 1 none, Cond.classLink RX1 56 "java/lang/IllegalStateException", Cond.initialized "java/lang/IllegalStateException", Cond.methodLink RX1 191 yX1_decisiveOne, Cond.instanceMethod yX1_decisiveOne, Cond.selects RX1 yX1_decisiveOne yX1_decisiveOne, Cond.code yX1_decisiveOne cX1_decisiveOne 3 (some .int), Cond.methodLink RX1 194 yX1_bestPlank]
def wsX1_digest_r6 : List Cond := [Cond.instanceMethod yX1_bestPlank, Cond.selects RX1 yX1_bestPlank yX1_bestPlank, Cond.code yX1_bestPlank cX1_bestPlank 5 (some .int), Cond.methodLink RX1 136 yX1_discontentOfAll, Cond.instanceMethod yX1_discontentOfAll, Cond.selects RX1 yX1_discontentOfAll yX1_discontentOfAll, Cond.code yX1_discontentOfAll cX1_discontentOfAll 4 (some .int), Cond.methodLink RX1 132 yX1_discontent, Cond.instanceMethod yX1_discontent, Cond.selects RX1 yX1_discontent yX1_discontent, Cond.code yX1_discontent cX1_discontent 3 (some .int), Cond.methodLink RX1 251 Lib.Math.abs.name, Cond.static Lib.Math.abs.name, Cond.code Lib.Math.abs.name Lib.Math.abs.code 1 (some .int), Cond.methodLink RX1 197 yX1_allDiscontent, Cond.instanceMethod yX1_allDiscontent, Cond.selects RX1 yX1_allDiscontent yX1_allDiscontent, Cond.code yX1_allDiscontent cX1_allDiscontent 1 (some .int), Cond.methodLink RX1 200 yX1_roundsUntilStill, Cond.instanceMethod yX1_roundsUntilStill, Cond.selects RX1 yX1_roundsUntilStill yX1_roundsUntilStill, Cond.code yX1_roundsUntilStill cX1_roundsUntilStill 2 (some .int), Cond.methodLink RX1 203 yX1_foldDelegate, Cond.instanceMethod yX1_foldDelegate]
def wsX1_digest_r7 : List Cond := [Cond.selects RX1 yX1_foldDelegate yX1_foldDelegate, Cond.code yX1_foldDelegate cX1_foldDelegate 6 (some .long), Cond.methodLink RX1 206 yX1_villageOf, Cond.instanceMethod yX1_villageOf, Cond.selects RX1 yX1_villageOf yX1_villageOf, Cond.code yX1_villageOf cX1_villageOf 2 (some .int), Cond.methodLink RX1 69 yX1_checkDelegate, Cond.instanceMethod yX1_checkDelegate, Cond.selects RX1 yX1_checkDelegate yX1_checkDelegate, Cond.code yX1_checkDelegate cX1_checkDelegate 2 none, Cond.classLink RX1 232 "java/lang/IndexOutOfBoundsException", Cond.initialized "java/lang/IndexOutOfBoundsException", Cond.methodLink RX1 209 yX1_wishOf, Cond.instanceMethod yX1_wishOf, Cond.selects RX1 yX1_wishOf yX1_wishOf, Cond.code yX1_wishOf cX1_wishOf 2 (some .int), Cond.methodLink RX1 212 yX1_reachOf, Cond.instanceMethod yX1_reachOf, Cond.selects RX1 yX1_reachOf yX1_reachOf, Cond.code yX1_reachOf cX1_reachOf 2 (some .int), Cond.methodLink RX1 215 yX1_paceOf, Cond.instanceMethod yX1_paceOf, Cond.selects RX1 yX1_paceOf yX1_paceOf, Cond.code yX1_paceOf cX1_paceOf 2 (some .int)]
def wsX1_digest_r8 : List Cond := [Cond.methodLink RX1 218 yX1_plankOf, Cond.instanceMethod yX1_plankOf, Cond.selects RX1 yX1_plankOf yX1_plankOf, Cond.code yX1_plankOf cX1_plankOf 2 (some .int), Cond.methodLink RX1 221 yX1_wouldStepTo, Cond.instanceMethod yX1_wouldStepTo, Cond.selects RX1 yX1_wouldStepTo yX1_wouldStepTo, Cond.code yX1_wouldStepTo cX1_wouldStepTo 2 (some .int), Cond.methodLink RX1 224 yX1_bestStand, Cond.instanceMethod yX1_bestStand, Cond.selects RX1 yX1_bestStand yX1_bestStand, Cond.code yX1_bestStand cX1_bestStand 6 (some .int), Cond.methodLink RX1 127 yX1_gatherOthers, Cond.instanceMethod yX1_gatherOthers, Cond.selects RX1 yX1_gatherOthers yX1_gatherOthers, Cond.code yX1_gatherOthers cX1_gatherOthers 3 none, Cond.methodLink RX1 161 yX0_middleWith, Cond.instanceMethod yX0_middleWith, Cond.selects RX0 yX0_middleWith yX0_middleWith, Cond.code yX0_middleWith cX0_middleWith 5 (some .int), Cond.methodLink RX1 227 yX1_discontentOf, Cond.instanceMethod yX1_discontentOf, Cond.selects RX1 yX1_discontentOf yX1_discontentOf, Cond.code yX1_discontentOf cX1_discontentOf 2 (some .int)]
def wsX1_digest : List Cond := .code yX1_digest cX1_digest 4 (some .long) :: ((wsX1_digest_r1 ++ (wsX1_digest_r2 ++ (wsX1_digest_r3 ++ (wsX1_digest_r4 ++ (wsX1_digest_r5 ++ (wsX1_digest_r6 ++ (wsX1_digest_r7 ++ wsX1_digest_r8))))))) ++ wsX10 ++ wsX00 ++ (vx_atS RX1 60 "java/lang/IllegalStateException" ["java/lang/RuntimeException", "java/lang/Exception"]).filter goodWord ++ (vx_atS RX1 236 "java/lang/IndexOutOfBoundsException" ["java/lang/RuntimeException", "java/lang/Exception"]).filter goodWord)
def wsX2_init : List Cond := .code yX2_init cX2_init 1 none :: ([.methodLink RX2 1 objectInit, .instanceMethod objectInit, .code objectInit ⟨#[0xb1]⟩ 1 none, .fieldLink RX2 7 "RopeChoicesModel" "strength" "I", .arrayClass .int, .fieldLink RX2 13 "RopeChoicesModel" "village" "[I", .fieldLink RX2 17 "RopeChoicesModel" "wish" "[I", .fieldLink RX2 20 "RopeChoicesModel" "reach" "[I", .fieldLink RX2 23 "RopeChoicesModel" "pace" "[I", .fieldLink RX2 26 "RopeChoicesModel" "plank" "[I", .fieldLink RX2 29 "RopeChoicesModel" "kept" "[I", .fieldLink RX2 32 "RopeChoicesModel" "count" "[I"] ++ wsX20)
def wsX2_thrown : List Cond := .code yX2_thrown cX2_thrown 1 (some .int) :: ([.fieldLink RX2 35 "RopeChoicesModel" "thrown" "I"] ++ wsX20)
def wsX2_fail : List Cond := .code yX2_fail cX2_fail 2 (some .int) :: ([.fieldLink RX2 35 "RopeChoicesModel" "thrown" "I"] ++ wsX20)
def wsX2_told : List Cond := .code yX2_told cX2_told 2 (some .int) :: ([.fieldLink RX2 35 "RopeChoicesModel" "thrown" "I"] ++ wsX20)
def wsX2_isIn : List Cond := .code yX2_isIn cX2_isIn 3 (some .boolean) :: ([])
def wsX2_isDelegate : List Cond := .code yX2_isDelegate cX2_isDelegate 2 (some .boolean) :: ([.fieldLink RX2 38 "RopeChoicesModel" "many" "I", .methodLink RX2 41 yX2_isIn, .static yX2_isIn, .initialized RX2, .code yX2_isIn cX2_isIn 3 (some .boolean)] ++ wsX20)
def wsX2_isPlank : List Cond := .code yX2_isPlank cX2_isPlank 1 (some .boolean) :: ([.methodLink RX2 41 yX2_isIn, .static yX2_isIn, .initialized RX2, .code yX2_isIn cX2_isIn 3 (some .boolean)])
def wsX2_isVillage : List Cond := .code yX2_isVillage cX2_isVillage 1 (some .boolean) :: ([.methodLink RX2 41 yX2_isIn, .static yX2_isIn, .initialized RX2, .code yX2_isIn cX2_isIn 3 (some .boolean)])
def wsX2_keep : List Cond := .code yX2_keep cX2_keep 1 none :: ([.fieldLink RX2 26 "RopeChoicesModel" "plank" "[I", .fieldLink RX2 29 "RopeChoicesModel" "kept" "[I", .methodLink RX2 45 arraycopyName, .native arraycopyName, .static arraycopyName, .initialized "java/lang/System"] ++ wsX20)
def wsX2_bringBack : List Cond := .code yX2_bringBack cX2_bringBack 1 none :: ([.fieldLink RX2 29 "RopeChoicesModel" "kept" "[I", .fieldLink RX2 26 "RopeChoicesModel" "plank" "[I", .methodLink RX2 45 arraycopyName, .native arraycopyName, .static arraycopyName, .initialized "java/lang/System"] ++ wsX20)
def wsX2_standing : List Cond := .code yX2_standing cX2_standing 4 (some .int) :: ([.fieldLink RX2 38 "RopeChoicesModel" "many" "I", .fieldLink RX2 26 "RopeChoicesModel" "plank" "[I"] ++ wsX20)
def wsX2_hasRoom : List Cond := .code yX2_hasRoom cX2_hasRoom 2 (some .boolean) :: ([.fieldLink RX2 7 "RopeChoicesModel" "strength" "I", .methodLink RX2 51 yX2_standing, .instanceMethod yX2_standing, .selects RX2 yX2_standing yX2_standing, .initialized RX2, .code yX2_standing cX2_standing 4 (some .int), .fieldLink RX2 38 "RopeChoicesModel" "many" "I", .fieldLink RX2 26 "RopeChoicesModel" "plank" "[I"] ++ wsX20)
def wsX2_isWilling : List Cond := .code yX2_isWilling cX2_isWilling 3 (some .boolean) :: ([.fieldLink RX2 17 "RopeChoicesModel" "wish" "[I", .methodLink RX2 55 Lib.Math.abs.name, .static Lib.Math.abs.name, .initialized "java/lang/Math", .code Lib.Math.abs.name Lib.Math.abs.code 1 (some .int), .fieldLink RX2 20 "RopeChoicesModel" "reach" "[I"] ++ wsX20)
def wsX2_median : List Cond := .code yX2_median cX2_median 6 (some .int) :: ([.fieldLink RX2 32 "RopeChoicesModel" "count" "[I", .fieldLink RX2 38 "RopeChoicesModel" "many" "I", .fieldLink RX2 13 "RopeChoicesModel" "village" "[I", .fieldLink RX2 26 "RopeChoicesModel" "plank" "[I"] ++ wsX20)
def wsX2_middle : List Cond := .code yX2_middle cX2_middle 1 (some .int) :: ([.methodLink RX2 60 yX2_median, .instanceMethod yX2_median, .selects RX2 yX2_median yX2_median, .initialized RX2, .code yX2_median cX2_median 6 (some .int), .fieldLink RX2 32 "RopeChoicesModel" "count" "[I", .fieldLink RX2 38 "RopeChoicesModel" "many" "I", .fieldLink RX2 13 "RopeChoicesModel" "village" "[I", .fieldLink RX2 26 "RopeChoicesModel" "plank" "[I"] ++ wsX20)
def wsX2_step : List Cond := .code yX2_step cX2_step 4 (some .int) :: ([.fieldLink RX2 17 "RopeChoicesModel" "wish" "[I", .fieldLink RX2 20 "RopeChoicesModel" "reach" "[I", .methodLink RX2 64 Lib.Math.min.name, .static Lib.Math.min.name, .initialized "java/lang/Math", .code Lib.Math.min.name Lib.Math.min.code 2 (some .int), .methodLink RX2 67 Lib.Math.max.name, .static Lib.Math.max.name, .code Lib.Math.max.name Lib.Math.max.code 2 (some .int), .fieldLink RX2 26 "RopeChoicesModel" "plank" "[I", .fieldLink RX2 23 "RopeChoicesModel" "pace" "[I"] ++ wsX20)
def wsX2_roundOn_r1 : List Cond := [Cond.fieldLink RX2 38 "RopeChoicesModel" "many" "I", Cond.fieldLink RX2 26 "RopeChoicesModel" "plank" "[I", Cond.methodLink RX2 70 yX2_middle, Cond.instanceMethod yX2_middle, Cond.selects RX2 yX2_middle yX2_middle, Cond.initialized RX2, Cond.code yX2_middle cX2_middle 1 (some .int), Cond.methodLink RX2 60 yX2_median, Cond.instanceMethod yX2_median, Cond.selects RX2 yX2_median yX2_median, Cond.code yX2_median cX2_median 6 (some .int), Cond.fieldLink RX2 32 "RopeChoicesModel" "count" "[I", Cond.fieldLink RX2 13 "RopeChoicesModel" "village" "[I", Cond.methodLink RX2 74 yX2_step, Cond.instanceMethod yX2_step, Cond.selects RX2 yX2_step yX2_step, Cond.code yX2_step cX2_step 4 (some .int), Cond.fieldLink RX2 17 "RopeChoicesModel" "wish" "[I", Cond.fieldLink RX2 20 "RopeChoicesModel" "reach" "[I", Cond.methodLink RX2 64 Lib.Math.min.name, Cond.static Lib.Math.min.name, Cond.initialized "java/lang/Math", Cond.code Lib.Math.min.name Lib.Math.min.code 2 (some .int), Cond.methodLink RX2 67 Lib.Math.max.name]
def wsX2_roundOn_r2 : List Cond := [Cond.static Lib.Math.max.name, Cond.code Lib.Math.max.name Lib.Math.max.code 2 (some .int), Cond.fieldLink RX2 23 "RopeChoicesModel" "pace" "[I", Cond.methodLink RX2 77 yX2_hasRoom, Cond.instanceMethod yX2_hasRoom, Cond.selects RX2 yX2_hasRoom yX2_hasRoom, Cond.code yX2_hasRoom cX2_hasRoom 2 (some .boolean), Cond.fieldLink RX2 7 "RopeChoicesModel" "strength" "I", Cond.methodLink RX2 51 yX2_standing, Cond.instanceMethod yX2_standing, Cond.selects RX2 yX2_standing yX2_standing, Cond.code yX2_standing cX2_standing 4 (some .int)]
def wsX2_roundOn : List Cond := .code yX2_roundOn cX2_roundOn 5 (some .int) :: ((wsX2_roundOn_r1 ++ wsX2_roundOn_r2) ++ wsX20)
def wsX2_wide : List Cond := .code yX2_wide cX2_wide 4 (some .int) :: ([.fieldLink RX2 38 "RopeChoicesModel" "many" "I", .fieldLink RX2 26 "RopeChoicesModel" "plank" "[I", .methodLink RX2 64 Lib.Math.min.name, .static Lib.Math.min.name, .initialized "java/lang/Math", .code Lib.Math.min.name Lib.Math.min.code 2 (some .int), .methodLink RX2 67 Lib.Math.max.name, .static Lib.Math.max.name, .code Lib.Math.max.name Lib.Math.max.code 2 (some .int)] ++ wsX20)
def wsX2_agree : List Cond := .code yX2_agree cX2_agree 3 (some .boolean) :: ([.fieldLink RX2 38 "RopeChoicesModel" "many" "I", .fieldLink RX2 13 "RopeChoicesModel" "village" "[I", .methodLink RX2 81 yX2_wide, .instanceMethod yX2_wide, .selects RX2 yX2_wide yX2_wide, .initialized RX2, .code yX2_wide cX2_wide 4 (some .int), .fieldLink RX2 26 "RopeChoicesModel" "plank" "[I", .methodLink RX2 64 Lib.Math.min.name, .static Lib.Math.min.name, .initialized "java/lang/Math", .code Lib.Math.min.name Lib.Math.min.code 2 (some .int), .methodLink RX2 67 Lib.Math.max.name, .static Lib.Math.max.name, .code Lib.Math.max.name Lib.Math.max.code 2 (some .int)] ++ wsX20)
def wsX2_still_r1 : List Cond := [Cond.arrayClass .int, Cond.fieldLink RX2 26 "RopeChoicesModel" "plank" "[I", Cond.methodLink RX2 45 arraycopyName, Cond.native arraycopyName, Cond.static arraycopyName, Cond.initialized "java/lang/System", Cond.methodLink RX2 84 yX2_roundOn, Cond.instanceMethod yX2_roundOn, Cond.selects RX2 yX2_roundOn yX2_roundOn, Cond.initialized RX2, Cond.code yX2_roundOn cX2_roundOn 5 (some .int), Cond.fieldLink RX2 38 "RopeChoicesModel" "many" "I", Cond.methodLink RX2 70 yX2_middle, Cond.instanceMethod yX2_middle, Cond.selects RX2 yX2_middle yX2_middle, Cond.code yX2_middle cX2_middle 1 (some .int), Cond.methodLink RX2 60 yX2_median, Cond.instanceMethod yX2_median, Cond.selects RX2 yX2_median yX2_median, Cond.code yX2_median cX2_median 6 (some .int), Cond.fieldLink RX2 32 "RopeChoicesModel" "count" "[I", Cond.fieldLink RX2 13 "RopeChoicesModel" "village" "[I", Cond.methodLink RX2 74 yX2_step, Cond.instanceMethod yX2_step]
def wsX2_still_r2 : List Cond := [Cond.selects RX2 yX2_step yX2_step, Cond.code yX2_step cX2_step 4 (some .int), Cond.fieldLink RX2 17 "RopeChoicesModel" "wish" "[I", Cond.fieldLink RX2 20 "RopeChoicesModel" "reach" "[I", Cond.methodLink RX2 64 Lib.Math.min.name, Cond.static Lib.Math.min.name, Cond.initialized "java/lang/Math", Cond.code Lib.Math.min.name Lib.Math.min.code 2 (some .int), Cond.methodLink RX2 67 Lib.Math.max.name, Cond.static Lib.Math.max.name, Cond.code Lib.Math.max.name Lib.Math.max.code 2 (some .int), Cond.fieldLink RX2 23 "RopeChoicesModel" "pace" "[I", Cond.methodLink RX2 77 yX2_hasRoom, Cond.instanceMethod yX2_hasRoom, Cond.selects RX2 yX2_hasRoom yX2_hasRoom, Cond.code yX2_hasRoom cX2_hasRoom 2 (some .boolean), Cond.fieldLink RX2 7 "RopeChoicesModel" "strength" "I", Cond.methodLink RX2 51 yX2_standing, Cond.instanceMethod yX2_standing, Cond.selects RX2 yX2_standing yX2_standing, Cond.code yX2_standing cX2_standing 4 (some .int)]
def wsX2_still : List Cond := .code yX2_still cX2_still 3 (some .boolean) :: ((wsX2_still_r1 ++ wsX2_still_r2) ++ wsX20)
def wsX2_send_r1 : List Cond := [Cond.fieldLink RX2 35 "RopeChoicesModel" "thrown" "I", Cond.fieldLink RX2 38 "RopeChoicesModel" "many" "I", Cond.fieldLink RX2 13 "RopeChoicesModel" "village" "[I", Cond.fieldLink RX2 17 "RopeChoicesModel" "wish" "[I", Cond.fieldLink RX2 20 "RopeChoicesModel" "reach" "[I", Cond.fieldLink RX2 23 "RopeChoicesModel" "pace" "[I", Cond.fieldLink RX2 26 "RopeChoicesModel" "plank" "[I", Cond.methodLink RX2 87 yX2_isVillage, Cond.static yX2_isVillage, Cond.initialized RX2, Cond.code yX2_isVillage cX2_isVillage 1 (some .boolean), Cond.methodLink RX2 41 yX2_isIn, Cond.static yX2_isIn, Cond.code yX2_isIn cX2_isIn 3 (some .boolean), Cond.methodLink RX2 90 yX2_isPlank, Cond.static yX2_isPlank, Cond.code yX2_isPlank cX2_isPlank 1 (some .boolean), Cond.methodLink RX2 93 yX2_fail, Cond.instanceMethod yX2_fail, Cond.selects RX2 yX2_fail yX2_fail, Cond.code yX2_fail cX2_fail 2 (some .int), Cond.methodLink RX2 77 yX2_hasRoom, Cond.instanceMethod yX2_hasRoom, Cond.selects RX2 yX2_hasRoom yX2_hasRoom]
def wsX2_send_r2 : List Cond := [Cond.code yX2_hasRoom cX2_hasRoom 2 (some .boolean), Cond.fieldLink RX2 7 "RopeChoicesModel" "strength" "I", Cond.methodLink RX2 51 yX2_standing, Cond.instanceMethod yX2_standing, Cond.selects RX2 yX2_standing yX2_standing, Cond.code yX2_standing cX2_standing 4 (some .int)]
def wsX2_send : List Cond := .code yX2_send cX2_send 5 (some .int) :: ((wsX2_send_r1 ++ wsX2_send_r2) ++ wsX20)
def wsX2_close : List Cond := .code yX2_close cX2_close 4 none :: ([])
def wsX2_recall : List Cond := .code yX2_recall cX2_recall 3 (some .int) :: ([.fieldLink RX2 35 "RopeChoicesModel" "thrown" "I", .fieldLink RX2 26 "RopeChoicesModel" "plank" "[I", .fieldLink RX2 13 "RopeChoicesModel" "village" "[I", .fieldLink RX2 38 "RopeChoicesModel" "many" "I", .fieldLink RX2 17 "RopeChoicesModel" "wish" "[I", .fieldLink RX2 20 "RopeChoicesModel" "reach" "[I", .fieldLink RX2 23 "RopeChoicesModel" "pace" "[I", .methodLink RX2 96 yX2_isDelegate, .instanceMethod yX2_isDelegate, .selects RX2 yX2_isDelegate yX2_isDelegate, .initialized RX2, .code yX2_isDelegate cX2_isDelegate 2 (some .boolean), .methodLink RX2 41 yX2_isIn, .static yX2_isIn, .code yX2_isIn cX2_isIn 3 (some .boolean), .methodLink RX2 93 yX2_fail, .instanceMethod yX2_fail, .selects RX2 yX2_fail yX2_fail, .code yX2_fail cX2_fail 2 (some .int), .methodLink RX2 99 yX2_close, .static yX2_close, .code yX2_close cX2_close 4 none] ++ wsX20)
def wsX2_persuade : List Cond := .code yX2_persuade cX2_persuade 4 (some .int) :: ([.fieldLink RX2 35 "RopeChoicesModel" "thrown" "I", .fieldLink RX2 17 "RopeChoicesModel" "wish" "[I", .methodLink RX2 96 yX2_isDelegate, .instanceMethod yX2_isDelegate, .selects RX2 yX2_isDelegate yX2_isDelegate, .initialized RX2, .code yX2_isDelegate cX2_isDelegate 2 (some .boolean), .fieldLink RX2 38 "RopeChoicesModel" "many" "I", .methodLink RX2 41 yX2_isIn, .static yX2_isIn, .code yX2_isIn cX2_isIn 3 (some .boolean), .methodLink RX2 90 yX2_isPlank, .static yX2_isPlank, .code yX2_isPlank cX2_isPlank 1 (some .boolean), .methodLink RX2 93 yX2_fail, .instanceMethod yX2_fail, .selects RX2 yX2_fail yX2_fail, .code yX2_fail cX2_fail 2 (some .int)] ++ wsX20)
def wsX2_can : List Cond := .code yX2_can cX2_can 3 (some .boolean) :: ([.fieldLink RX2 26 "RopeChoicesModel" "plank" "[I", .methodLink RX2 103 yX2_isWilling, .instanceMethod yX2_isWilling, .selects RX2 yX2_isWilling yX2_isWilling, .initialized RX2, .code yX2_isWilling cX2_isWilling 3 (some .boolean), .fieldLink RX2 17 "RopeChoicesModel" "wish" "[I", .methodLink RX2 55 Lib.Math.abs.name, .static Lib.Math.abs.name, .initialized "java/lang/Math", .code Lib.Math.abs.name Lib.Math.abs.code 1 (some .int), .fieldLink RX2 20 "RopeChoicesModel" "reach" "[I", .methodLink RX2 77 yX2_hasRoom, .instanceMethod yX2_hasRoom, .selects RX2 yX2_hasRoom yX2_hasRoom, .code yX2_hasRoom cX2_hasRoom 2 (some .boolean), .fieldLink RX2 7 "RopeChoicesModel" "strength" "I", .methodLink RX2 51 yX2_standing, .instanceMethod yX2_standing, .selects RX2 yX2_standing yX2_standing, .code yX2_standing cX2_standing 4 (some .int), .fieldLink RX2 38 "RopeChoicesModel" "many" "I"] ++ wsX20)
def wsX2_lead_r1 : List Cond := [Cond.fieldLink RX2 35 "RopeChoicesModel" "thrown" "I", Cond.fieldLink RX2 26 "RopeChoicesModel" "plank" "[I", Cond.methodLink RX2 96 yX2_isDelegate, Cond.instanceMethod yX2_isDelegate, Cond.selects RX2 yX2_isDelegate yX2_isDelegate, Cond.initialized RX2, Cond.code yX2_isDelegate cX2_isDelegate 2 (some .boolean), Cond.fieldLink RX2 38 "RopeChoicesModel" "many" "I", Cond.methodLink RX2 41 yX2_isIn, Cond.static yX2_isIn, Cond.code yX2_isIn cX2_isIn 3 (some .boolean), Cond.methodLink RX2 90 yX2_isPlank, Cond.static yX2_isPlank, Cond.code yX2_isPlank cX2_isPlank 1 (some .boolean), Cond.methodLink RX2 93 yX2_fail, Cond.instanceMethod yX2_fail, Cond.selects RX2 yX2_fail yX2_fail, Cond.code yX2_fail cX2_fail 2 (some .int), Cond.methodLink RX2 107 yX2_can, Cond.instanceMethod yX2_can, Cond.selects RX2 yX2_can yX2_can, Cond.code yX2_can cX2_can 3 (some .boolean), Cond.methodLink RX2 103 yX2_isWilling, Cond.instanceMethod yX2_isWilling]
def wsX2_lead_r2 : List Cond := [Cond.selects RX2 yX2_isWilling yX2_isWilling, Cond.code yX2_isWilling cX2_isWilling 3 (some .boolean), Cond.fieldLink RX2 17 "RopeChoicesModel" "wish" "[I", Cond.methodLink RX2 55 Lib.Math.abs.name, Cond.static Lib.Math.abs.name, Cond.initialized "java/lang/Math", Cond.code Lib.Math.abs.name Lib.Math.abs.code 1 (some .int), Cond.fieldLink RX2 20 "RopeChoicesModel" "reach" "[I", Cond.methodLink RX2 77 yX2_hasRoom, Cond.instanceMethod yX2_hasRoom, Cond.selects RX2 yX2_hasRoom yX2_hasRoom, Cond.code yX2_hasRoom cX2_hasRoom 2 (some .boolean), Cond.fieldLink RX2 7 "RopeChoicesModel" "strength" "I", Cond.methodLink RX2 51 yX2_standing, Cond.instanceMethod yX2_standing, Cond.selects RX2 yX2_standing yX2_standing, Cond.code yX2_standing cX2_standing 4 (some .int)]
def wsX2_lead : List Cond := .code yX2_lead cX2_lead 4 (some .int) :: ((wsX2_lead_r1 ++ wsX2_lead_r2) ++ wsX20)
def wsX2_setStrength : List Cond := .code yX2_setStrength cX2_setStrength 3 (some .int) :: ([.fieldLink RX2 35 "RopeChoicesModel" "thrown" "I", .fieldLink RX2 7 "RopeChoicesModel" "strength" "I", .methodLink RX2 41 yX2_isIn, .static yX2_isIn, .initialized RX2, .code yX2_isIn cX2_isIn 3 (some .boolean), .methodLink RX2 93 yX2_fail, .instanceMethod yX2_fail, .selects RX2 yX2_fail yX2_fail, .code yX2_fail cX2_fail 2 (some .int)] ++ wsX20)
def wsX2_passRounds_r1 : List Cond := [Cond.fieldLink RX2 35 "RopeChoicesModel" "thrown" "I", Cond.fieldLink RX2 110 "RopeChoicesModel" "rounds" "I", Cond.methodLink RX2 41 yX2_isIn, Cond.static yX2_isIn, Cond.initialized RX2, Cond.code yX2_isIn cX2_isIn 3 (some .boolean), Cond.methodLink RX2 93 yX2_fail, Cond.instanceMethod yX2_fail, Cond.selects RX2 yX2_fail yX2_fail, Cond.code yX2_fail cX2_fail 2 (some .int), Cond.methodLink RX2 84 yX2_roundOn, Cond.instanceMethod yX2_roundOn, Cond.selects RX2 yX2_roundOn yX2_roundOn, Cond.code yX2_roundOn cX2_roundOn 5 (some .int), Cond.fieldLink RX2 38 "RopeChoicesModel" "many" "I", Cond.fieldLink RX2 26 "RopeChoicesModel" "plank" "[I", Cond.methodLink RX2 70 yX2_middle, Cond.instanceMethod yX2_middle, Cond.selects RX2 yX2_middle yX2_middle, Cond.code yX2_middle cX2_middle 1 (some .int), Cond.methodLink RX2 60 yX2_median, Cond.instanceMethod yX2_median, Cond.selects RX2 yX2_median yX2_median, Cond.code yX2_median cX2_median 6 (some .int)]
def wsX2_passRounds_r2 : List Cond := [Cond.fieldLink RX2 32 "RopeChoicesModel" "count" "[I", Cond.fieldLink RX2 13 "RopeChoicesModel" "village" "[I", Cond.methodLink RX2 74 yX2_step, Cond.instanceMethod yX2_step, Cond.selects RX2 yX2_step yX2_step, Cond.code yX2_step cX2_step 4 (some .int), Cond.fieldLink RX2 17 "RopeChoicesModel" "wish" "[I", Cond.fieldLink RX2 20 "RopeChoicesModel" "reach" "[I", Cond.methodLink RX2 64 Lib.Math.min.name, Cond.static Lib.Math.min.name, Cond.initialized "java/lang/Math", Cond.code Lib.Math.min.name Lib.Math.min.code 2 (some .int), Cond.methodLink RX2 67 Lib.Math.max.name, Cond.static Lib.Math.max.name, Cond.code Lib.Math.max.name Lib.Math.max.code 2 (some .int), Cond.fieldLink RX2 23 "RopeChoicesModel" "pace" "[I", Cond.methodLink RX2 77 yX2_hasRoom, Cond.instanceMethod yX2_hasRoom, Cond.selects RX2 yX2_hasRoom yX2_hasRoom, Cond.code yX2_hasRoom cX2_hasRoom 2 (some .boolean), Cond.fieldLink RX2 7 "RopeChoicesModel" "strength" "I", Cond.methodLink RX2 51 yX2_standing, Cond.instanceMethod yX2_standing, Cond.selects RX2 yX2_standing yX2_standing]
def wsX2_passRounds_r3 : List Cond := [Cond.code yX2_standing cX2_standing 4 (some .int)]
def wsX2_passRounds : List Cond := .code yX2_passRounds cX2_passRounds 4 (some .int) :: ((wsX2_passRounds_r1 ++ (wsX2_passRounds_r2 ++ wsX2_passRounds_r3)) ++ wsX20)
def wsX2_delegates : List Cond := .code yX2_delegates cX2_delegates 1 (some .int) :: ([.fieldLink RX2 38 "RopeChoicesModel" "many" "I", .methodLink RX2 113 yX2_told, .instanceMethod yX2_told, .selects RX2 yX2_told yX2_told, .initialized RX2, .code yX2_told cX2_told 2 (some .int), .fieldLink RX2 35 "RopeChoicesModel" "thrown" "I"] ++ wsX20)
def wsX2_rounds : List Cond := .code yX2_rounds cX2_rounds 1 (some .int) :: ([.fieldLink RX2 110 "RopeChoicesModel" "rounds" "I", .methodLink RX2 113 yX2_told, .instanceMethod yX2_told, .selects RX2 yX2_told yX2_told, .initialized RX2, .code yX2_told cX2_told 2 (some .int), .fieldLink RX2 35 "RopeChoicesModel" "thrown" "I"] ++ wsX20)
def wsX2_strength : List Cond := .code yX2_strength cX2_strength 1 (some .int) :: ([.fieldLink RX2 7 "RopeChoicesModel" "strength" "I", .methodLink RX2 113 yX2_told, .instanceMethod yX2_told, .selects RX2 yX2_told yX2_told, .initialized RX2, .code yX2_told cX2_told 2 (some .int), .fieldLink RX2 35 "RopeChoicesModel" "thrown" "I"] ++ wsX20)
def wsX2_of : List Cond := .code yX2_of cX2_of 3 (some .int) :: ([.fieldLink RX2 35 "RopeChoicesModel" "thrown" "I", .methodLink RX2 96 yX2_isDelegate, .instanceMethod yX2_isDelegate, .selects RX2 yX2_isDelegate yX2_isDelegate, .initialized RX2, .code yX2_isDelegate cX2_isDelegate 2 (some .boolean), .fieldLink RX2 38 "RopeChoicesModel" "many" "I", .methodLink RX2 41 yX2_isIn, .static yX2_isIn, .code yX2_isIn cX2_isIn 3 (some .boolean), .methodLink RX2 93 yX2_fail, .instanceMethod yX2_fail, .selects RX2 yX2_fail yX2_fail, .code yX2_fail cX2_fail 2 (some .int)] ++ wsX20)
def wsX2_villageOf : List Cond := .code yX2_villageOf cX2_villageOf 2 (some .int) :: ([.fieldLink RX2 13 "RopeChoicesModel" "village" "[I", .methodLink RX2 116 yX2_of, .instanceMethod yX2_of, .selects RX2 yX2_of yX2_of, .initialized RX2, .code yX2_of cX2_of 3 (some .int), .fieldLink RX2 35 "RopeChoicesModel" "thrown" "I", .methodLink RX2 96 yX2_isDelegate, .instanceMethod yX2_isDelegate, .selects RX2 yX2_isDelegate yX2_isDelegate, .code yX2_isDelegate cX2_isDelegate 2 (some .boolean), .fieldLink RX2 38 "RopeChoicesModel" "many" "I", .methodLink RX2 41 yX2_isIn, .static yX2_isIn, .code yX2_isIn cX2_isIn 3 (some .boolean), .methodLink RX2 93 yX2_fail, .instanceMethod yX2_fail, .selects RX2 yX2_fail yX2_fail, .code yX2_fail cX2_fail 2 (some .int)] ++ wsX20)
def wsX2_wishOf : List Cond := .code yX2_wishOf cX2_wishOf 2 (some .int) :: ([.fieldLink RX2 17 "RopeChoicesModel" "wish" "[I", .methodLink RX2 116 yX2_of, .instanceMethod yX2_of, .selects RX2 yX2_of yX2_of, .initialized RX2, .code yX2_of cX2_of 3 (some .int), .fieldLink RX2 35 "RopeChoicesModel" "thrown" "I", .methodLink RX2 96 yX2_isDelegate, .instanceMethod yX2_isDelegate, .selects RX2 yX2_isDelegate yX2_isDelegate, .code yX2_isDelegate cX2_isDelegate 2 (some .boolean), .fieldLink RX2 38 "RopeChoicesModel" "many" "I", .methodLink RX2 41 yX2_isIn, .static yX2_isIn, .code yX2_isIn cX2_isIn 3 (some .boolean), .methodLink RX2 93 yX2_fail, .instanceMethod yX2_fail, .selects RX2 yX2_fail yX2_fail, .code yX2_fail cX2_fail 2 (some .int)] ++ wsX20)
def wsX2_reachOf : List Cond := .code yX2_reachOf cX2_reachOf 2 (some .int) :: ([.fieldLink RX2 20 "RopeChoicesModel" "reach" "[I", .methodLink RX2 116 yX2_of, .instanceMethod yX2_of, .selects RX2 yX2_of yX2_of, .initialized RX2, .code yX2_of cX2_of 3 (some .int), .fieldLink RX2 35 "RopeChoicesModel" "thrown" "I", .methodLink RX2 96 yX2_isDelegate, .instanceMethod yX2_isDelegate, .selects RX2 yX2_isDelegate yX2_isDelegate, .code yX2_isDelegate cX2_isDelegate 2 (some .boolean), .fieldLink RX2 38 "RopeChoicesModel" "many" "I", .methodLink RX2 41 yX2_isIn, .static yX2_isIn, .code yX2_isIn cX2_isIn 3 (some .boolean), .methodLink RX2 93 yX2_fail, .instanceMethod yX2_fail, .selects RX2 yX2_fail yX2_fail, .code yX2_fail cX2_fail 2 (some .int)] ++ wsX20)
def wsX2_paceOf : List Cond := .code yX2_paceOf cX2_paceOf 2 (some .int) :: ([.fieldLink RX2 23 "RopeChoicesModel" "pace" "[I", .methodLink RX2 116 yX2_of, .instanceMethod yX2_of, .selects RX2 yX2_of yX2_of, .initialized RX2, .code yX2_of cX2_of 3 (some .int), .fieldLink RX2 35 "RopeChoicesModel" "thrown" "I", .methodLink RX2 96 yX2_isDelegate, .instanceMethod yX2_isDelegate, .selects RX2 yX2_isDelegate yX2_isDelegate, .code yX2_isDelegate cX2_isDelegate 2 (some .boolean), .fieldLink RX2 38 "RopeChoicesModel" "many" "I", .methodLink RX2 41 yX2_isIn, .static yX2_isIn, .code yX2_isIn cX2_isIn 3 (some .boolean), .methodLink RX2 93 yX2_fail, .instanceMethod yX2_fail, .selects RX2 yX2_fail yX2_fail, .code yX2_fail cX2_fail 2 (some .int)] ++ wsX20)
def wsX2_plankOf : List Cond := .code yX2_plankOf cX2_plankOf 2 (some .int) :: ([.fieldLink RX2 26 "RopeChoicesModel" "plank" "[I", .methodLink RX2 116 yX2_of, .instanceMethod yX2_of, .selects RX2 yX2_of yX2_of, .initialized RX2, .code yX2_of cX2_of 3 (some .int), .fieldLink RX2 35 "RopeChoicesModel" "thrown" "I", .methodLink RX2 96 yX2_isDelegate, .instanceMethod yX2_isDelegate, .selects RX2 yX2_isDelegate yX2_isDelegate, .code yX2_isDelegate cX2_isDelegate 2 (some .boolean), .fieldLink RX2 38 "RopeChoicesModel" "many" "I", .methodLink RX2 41 yX2_isIn, .static yX2_isIn, .code yX2_isIn cX2_isIn 3 (some .boolean), .methodLink RX2 93 yX2_fail, .instanceMethod yX2_fail, .selects RX2 yX2_fail yX2_fail, .code yX2_fail cX2_fail 2 (some .int)] ++ wsX20)
def wsX2_standingOn : List Cond := .code yX2_standingOn cX2_standingOn 2 (some .int) :: ([.fieldLink RX2 35 "RopeChoicesModel" "thrown" "I", .methodLink RX2 90 yX2_isPlank, .static yX2_isPlank, .initialized RX2, .code yX2_isPlank cX2_isPlank 1 (some .boolean), .methodLink RX2 41 yX2_isIn, .static yX2_isIn, .code yX2_isIn cX2_isIn 3 (some .boolean), .methodLink RX2 51 yX2_standing, .instanceMethod yX2_standing, .selects RX2 yX2_standing yX2_standing, .code yX2_standing cX2_standing 4 (some .int), .fieldLink RX2 38 "RopeChoicesModel" "many" "I", .fieldLink RX2 26 "RopeChoicesModel" "plank" "[I", .methodLink RX2 93 yX2_fail, .instanceMethod yX2_fail, .selects RX2 yX2_fail yX2_fail, .code yX2_fail cX2_fail 2 (some .int)] ++ wsX20)
def wsX2_spread : List Cond := .code yX2_spread cX2_spread 1 (some .int) :: ([.methodLink RX2 81 yX2_wide, .instanceMethod yX2_wide, .selects RX2 yX2_wide yX2_wide, .initialized RX2, .code yX2_wide cX2_wide 4 (some .int), .fieldLink RX2 38 "RopeChoicesModel" "many" "I", .fieldLink RX2 26 "RopeChoicesModel" "plank" "[I", .methodLink RX2 64 Lib.Math.min.name, .static Lib.Math.min.name, .initialized "java/lang/Math", .code Lib.Math.min.name Lib.Math.min.code 2 (some .int), .methodLink RX2 67 Lib.Math.max.name, .static Lib.Math.max.name, .code Lib.Math.max.name Lib.Math.max.code 2 (some .int), .methodLink RX2 113 yX2_told, .instanceMethod yX2_told, .selects RX2 yX2_told yX2_told, .code yX2_told cX2_told 2 (some .int), .fieldLink RX2 35 "RopeChoicesModel" "thrown" "I"] ++ wsX20)
def wsX2_isTreaty : List Cond := .code yX2_isTreaty cX2_isTreaty 1 (some .boolean) :: ([.fieldLink RX2 35 "RopeChoicesModel" "thrown" "I", .methodLink RX2 120 yX2_agree, .instanceMethod yX2_agree, .selects RX2 yX2_agree yX2_agree, .initialized RX2, .code yX2_agree cX2_agree 3 (some .boolean), .fieldLink RX2 38 "RopeChoicesModel" "many" "I", .fieldLink RX2 13 "RopeChoicesModel" "village" "[I", .methodLink RX2 81 yX2_wide, .instanceMethod yX2_wide, .selects RX2 yX2_wide yX2_wide, .code yX2_wide cX2_wide 4 (some .int), .fieldLink RX2 26 "RopeChoicesModel" "plank" "[I", .methodLink RX2 64 Lib.Math.min.name, .static Lib.Math.min.name, .initialized "java/lang/Math", .code Lib.Math.min.name Lib.Math.min.code 2 (some .int), .methodLink RX2 67 Lib.Math.max.name, .static Lib.Math.max.name, .code Lib.Math.max.name Lib.Math.max.code 2 (some .int)] ++ wsX20)
def wsX2_compromise : List Cond := .code yX2_compromise cX2_compromise 1 (some .int) :: ([.fieldLink RX2 35 "RopeChoicesModel" "thrown" "I", .fieldLink RX2 38 "RopeChoicesModel" "many" "I", .methodLink RX2 93 yX2_fail, .instanceMethod yX2_fail, .selects RX2 yX2_fail yX2_fail, .initialized RX2, .code yX2_fail cX2_fail 2 (some .int), .methodLink RX2 70 yX2_middle, .instanceMethod yX2_middle, .selects RX2 yX2_middle yX2_middle, .code yX2_middle cX2_middle 1 (some .int), .methodLink RX2 60 yX2_median, .instanceMethod yX2_median, .selects RX2 yX2_median yX2_median, .code yX2_median cX2_median 6 (some .int), .fieldLink RX2 32 "RopeChoicesModel" "count" "[I", .fieldLink RX2 13 "RopeChoicesModel" "village" "[I", .fieldLink RX2 26 "RopeChoicesModel" "plank" "[I"] ++ wsX20)
def wsX2_compromiseOf : List Cond := .code yX2_compromiseOf cX2_compromiseOf 3 (some .int) :: ([.fieldLink RX2 35 "RopeChoicesModel" "thrown" "I", .methodLink RX2 87 yX2_isVillage, .static yX2_isVillage, .initialized RX2, .code yX2_isVillage cX2_isVillage 1 (some .boolean), .methodLink RX2 41 yX2_isIn, .static yX2_isIn, .code yX2_isIn cX2_isIn 3 (some .boolean), .methodLink RX2 93 yX2_fail, .instanceMethod yX2_fail, .selects RX2 yX2_fail yX2_fail, .code yX2_fail cX2_fail 2 (some .int), .methodLink RX2 60 yX2_median, .instanceMethod yX2_median, .selects RX2 yX2_median yX2_median, .code yX2_median cX2_median 6 (some .int), .fieldLink RX2 32 "RopeChoicesModel" "count" "[I", .fieldLink RX2 38 "RopeChoicesModel" "many" "I", .fieldLink RX2 13 "RopeChoicesModel" "village" "[I", .fieldLink RX2 26 "RopeChoicesModel" "plank" "[I"] ++ wsX20)
def wsX2_compromiseWithout : List Cond := .code yX2_compromiseWithout cX2_compromiseWithout 2 (some .int) :: ([.fieldLink RX2 35 "RopeChoicesModel" "thrown" "I", .fieldLink RX2 38 "RopeChoicesModel" "many" "I", .methodLink RX2 96 yX2_isDelegate, .instanceMethod yX2_isDelegate, .selects RX2 yX2_isDelegate yX2_isDelegate, .initialized RX2, .code yX2_isDelegate cX2_isDelegate 2 (some .boolean), .methodLink RX2 41 yX2_isIn, .static yX2_isIn, .code yX2_isIn cX2_isIn 3 (some .boolean), .methodLink RX2 93 yX2_fail, .instanceMethod yX2_fail, .selects RX2 yX2_fail yX2_fail, .code yX2_fail cX2_fail 2 (some .int), .methodLink RX2 60 yX2_median, .instanceMethod yX2_median, .selects RX2 yX2_median yX2_median, .code yX2_median cX2_median 6 (some .int), .fieldLink RX2 32 "RopeChoicesModel" "count" "[I", .fieldLink RX2 13 "RopeChoicesModel" "village" "[I", .fieldLink RX2 26 "RopeChoicesModel" "plank" "[I"] ++ wsX20)
def wsX2_decisive : List Cond := .code yX2_decisive cX2_decisive 3 (some .int) :: ([.fieldLink RX2 26 "RopeChoicesModel" "plank" "[I", .methodLink RX2 70 yX2_middle, .instanceMethod yX2_middle, .selects RX2 yX2_middle yX2_middle, .initialized RX2, .code yX2_middle cX2_middle 1 (some .int), .methodLink RX2 60 yX2_median, .instanceMethod yX2_median, .selects RX2 yX2_median yX2_median, .code yX2_median cX2_median 6 (some .int), .fieldLink RX2 32 "RopeChoicesModel" "count" "[I", .fieldLink RX2 38 "RopeChoicesModel" "many" "I", .fieldLink RX2 13 "RopeChoicesModel" "village" "[I"] ++ wsX20)
def wsX2_decisiveOne : List Cond := .code yX2_decisiveOne cX2_decisiveOne 1 (some .int) :: ([.fieldLink RX2 35 "RopeChoicesModel" "thrown" "I", .fieldLink RX2 38 "RopeChoicesModel" "many" "I", .methodLink RX2 93 yX2_fail, .instanceMethod yX2_fail, .selects RX2 yX2_fail yX2_fail, .initialized RX2, .code yX2_fail cX2_fail 2 (some .int), .methodLink RX2 124 yX2_decisive, .instanceMethod yX2_decisive, .selects RX2 yX2_decisive yX2_decisive, .code yX2_decisive cX2_decisive 3 (some .int), .fieldLink RX2 26 "RopeChoicesModel" "plank" "[I", .methodLink RX2 70 yX2_middle, .instanceMethod yX2_middle, .selects RX2 yX2_middle yX2_middle, .code yX2_middle cX2_middle 1 (some .int), .methodLink RX2 60 yX2_median, .instanceMethod yX2_median, .selects RX2 yX2_median yX2_median, .code yX2_median cX2_median 6 (some .int), .fieldLink RX2 32 "RopeChoicesModel" "count" "[I", .fieldLink RX2 13 "RopeChoicesModel" "village" "[I"] ++ wsX20)
def wsX2_apart : List Cond := .code yX2_apart cX2_apart 3 (some .int) :: ([.fieldLink RX2 17 "RopeChoicesModel" "wish" "[I", .methodLink RX2 55 Lib.Math.abs.name, .static Lib.Math.abs.name, .initialized "java/lang/Math", .code Lib.Math.abs.name Lib.Math.abs.code 1 (some .int)] ++ wsX20)
def wsX2_discontentOf_r1 : List Cond := [Cond.fieldLink RX2 35 "RopeChoicesModel" "thrown" "I", Cond.methodLink RX2 96 yX2_isDelegate, Cond.instanceMethod yX2_isDelegate, Cond.selects RX2 yX2_isDelegate yX2_isDelegate, Cond.initialized RX2, Cond.code yX2_isDelegate cX2_isDelegate 2 (some .boolean), Cond.fieldLink RX2 38 "RopeChoicesModel" "many" "I", Cond.methodLink RX2 41 yX2_isIn, Cond.static yX2_isIn, Cond.code yX2_isIn cX2_isIn 3 (some .boolean), Cond.methodLink RX2 70 yX2_middle, Cond.instanceMethod yX2_middle, Cond.selects RX2 yX2_middle yX2_middle, Cond.code yX2_middle cX2_middle 1 (some .int), Cond.methodLink RX2 60 yX2_median, Cond.instanceMethod yX2_median, Cond.selects RX2 yX2_median yX2_median, Cond.code yX2_median cX2_median 6 (some .int), Cond.fieldLink RX2 32 "RopeChoicesModel" "count" "[I", Cond.fieldLink RX2 13 "RopeChoicesModel" "village" "[I", Cond.fieldLink RX2 26 "RopeChoicesModel" "plank" "[I", Cond.methodLink RX2 127 yX2_apart, Cond.instanceMethod yX2_apart, Cond.selects RX2 yX2_apart yX2_apart]
def wsX2_discontentOf_r2 : List Cond := [Cond.code yX2_apart cX2_apart 3 (some .int), Cond.fieldLink RX2 17 "RopeChoicesModel" "wish" "[I", Cond.methodLink RX2 55 Lib.Math.abs.name, Cond.static Lib.Math.abs.name, Cond.initialized "java/lang/Math", Cond.code Lib.Math.abs.name Lib.Math.abs.code 1 (some .int), Cond.methodLink RX2 93 yX2_fail, Cond.instanceMethod yX2_fail, Cond.selects RX2 yX2_fail yX2_fail, Cond.code yX2_fail cX2_fail 2 (some .int)]
def wsX2_discontentOf : List Cond := .code yX2_discontentOf cX2_discontentOf 2 (some .int) :: ((wsX2_discontentOf_r1 ++ wsX2_discontentOf_r2) ++ wsX20)
def wsX2_allApart : List Cond := .code yX2_allApart cX2_allApart 4 (some .int) :: ([.fieldLink RX2 38 "RopeChoicesModel" "many" "I", .methodLink RX2 127 yX2_apart, .instanceMethod yX2_apart, .selects RX2 yX2_apart yX2_apart, .initialized RX2, .code yX2_apart cX2_apart 3 (some .int), .fieldLink RX2 17 "RopeChoicesModel" "wish" "[I", .methodLink RX2 55 Lib.Math.abs.name, .static Lib.Math.abs.name, .initialized "java/lang/Math", .code Lib.Math.abs.name Lib.Math.abs.code 1 (some .int)] ++ wsX20)
def wsX2_allDiscontent_r1 : List Cond := [Cond.methodLink RX2 70 yX2_middle, Cond.instanceMethod yX2_middle, Cond.selects RX2 yX2_middle yX2_middle, Cond.initialized RX2, Cond.code yX2_middle cX2_middle 1 (some .int), Cond.methodLink RX2 60 yX2_median, Cond.instanceMethod yX2_median, Cond.selects RX2 yX2_median yX2_median, Cond.code yX2_median cX2_median 6 (some .int), Cond.fieldLink RX2 32 "RopeChoicesModel" "count" "[I", Cond.fieldLink RX2 38 "RopeChoicesModel" "many" "I", Cond.fieldLink RX2 13 "RopeChoicesModel" "village" "[I", Cond.fieldLink RX2 26 "RopeChoicesModel" "plank" "[I", Cond.methodLink RX2 130 yX2_allApart, Cond.instanceMethod yX2_allApart, Cond.selects RX2 yX2_allApart yX2_allApart, Cond.code yX2_allApart cX2_allApart 4 (some .int), Cond.methodLink RX2 127 yX2_apart, Cond.instanceMethod yX2_apart, Cond.selects RX2 yX2_apart yX2_apart, Cond.code yX2_apart cX2_apart 3 (some .int), Cond.fieldLink RX2 17 "RopeChoicesModel" "wish" "[I", Cond.methodLink RX2 55 Lib.Math.abs.name, Cond.static Lib.Math.abs.name]
def wsX2_allDiscontent_r2 : List Cond := [Cond.initialized "java/lang/Math", Cond.code Lib.Math.abs.name Lib.Math.abs.code 1 (some .int), Cond.methodLink RX2 113 yX2_told, Cond.instanceMethod yX2_told, Cond.selects RX2 yX2_told yX2_told, Cond.code yX2_told cX2_told 2 (some .int), Cond.fieldLink RX2 35 "RopeChoicesModel" "thrown" "I"]
def wsX2_allDiscontent : List Cond := .code yX2_allDiscontent cX2_allDiscontent 1 (some .int) :: ((wsX2_allDiscontent_r1 ++ wsX2_allDiscontent_r2) ++ wsX20)
def wsX2_best : List Cond := .code yX2_best cX2_best 3 (some .int) :: ([.methodLink RX2 130 yX2_allApart, .instanceMethod yX2_allApart, .selects RX2 yX2_allApart yX2_allApart, .initialized RX2, .code yX2_allApart cX2_allApart 4 (some .int), .fieldLink RX2 38 "RopeChoicesModel" "many" "I", .methodLink RX2 127 yX2_apart, .instanceMethod yX2_apart, .selects RX2 yX2_apart yX2_apart, .code yX2_apart cX2_apart 3 (some .int), .fieldLink RX2 17 "RopeChoicesModel" "wish" "[I", .methodLink RX2 55 Lib.Math.abs.name, .static Lib.Math.abs.name, .initialized "java/lang/Math", .code Lib.Math.abs.name Lib.Math.abs.code 1 (some .int)] ++ wsX20)
def wsX2_bestPlank : List Cond := .code yX2_bestPlank cX2_bestPlank 1 (some .int) :: ([.fieldLink RX2 35 "RopeChoicesModel" "thrown" "I", .fieldLink RX2 38 "RopeChoicesModel" "many" "I", .methodLink RX2 93 yX2_fail, .instanceMethod yX2_fail, .selects RX2 yX2_fail yX2_fail, .initialized RX2, .code yX2_fail cX2_fail 2 (some .int), .methodLink RX2 133 yX2_best, .instanceMethod yX2_best, .selects RX2 yX2_best yX2_best, .code yX2_best cX2_best 3 (some .int), .methodLink RX2 130 yX2_allApart, .instanceMethod yX2_allApart, .selects RX2 yX2_allApart yX2_allApart, .code yX2_allApart cX2_allApart 4 (some .int), .methodLink RX2 127 yX2_apart, .instanceMethod yX2_apart, .selects RX2 yX2_apart yX2_apart, .code yX2_apart cX2_apart 3 (some .int), .fieldLink RX2 17 "RopeChoicesModel" "wish" "[I", .methodLink RX2 55 Lib.Math.abs.name, .static Lib.Math.abs.name, .initialized "java/lang/Math", .code Lib.Math.abs.name Lib.Math.abs.code 1 (some .int)] ++ wsX20)
def wsX2_votes : List Cond := .code yX2_votes cX2_votes 5 (some .int) :: ([.fieldLink RX2 38 "RopeChoicesModel" "many" "I", .methodLink RX2 127 yX2_apart, .instanceMethod yX2_apart, .selects RX2 yX2_apart yX2_apart, .initialized RX2, .code yX2_apart cX2_apart 3 (some .int), .fieldLink RX2 17 "RopeChoicesModel" "wish" "[I", .methodLink RX2 55 Lib.Math.abs.name, .static Lib.Math.abs.name, .initialized "java/lang/Math", .code Lib.Math.abs.name Lib.Math.abs.code 1 (some .int)] ++ wsX20)
def wsX2_areTwo : List Cond := .code yX2_areTwo cX2_areTwo 3 (some .boolean) :: ([.fieldLink RX2 35 "RopeChoicesModel" "thrown" "I", .methodLink RX2 90 yX2_isPlank, .static yX2_isPlank, .initialized RX2, .code yX2_isPlank cX2_isPlank 1 (some .boolean), .methodLink RX2 41 yX2_isIn, .static yX2_isIn, .code yX2_isIn cX2_isIn 3 (some .boolean)] ++ wsX20)
def wsX2_votesFor_r1 : List Cond := [Cond.methodLink RX2 136 yX2_areTwo, Cond.instanceMethod yX2_areTwo, Cond.selects RX2 yX2_areTwo yX2_areTwo, Cond.initialized RX2, Cond.code yX2_areTwo cX2_areTwo 3 (some .boolean), Cond.fieldLink RX2 35 "RopeChoicesModel" "thrown" "I", Cond.methodLink RX2 90 yX2_isPlank, Cond.static yX2_isPlank, Cond.code yX2_isPlank cX2_isPlank 1 (some .boolean), Cond.methodLink RX2 41 yX2_isIn, Cond.static yX2_isIn, Cond.code yX2_isIn cX2_isIn 3 (some .boolean), Cond.methodLink RX2 139 yX2_votes, Cond.instanceMethod yX2_votes, Cond.selects RX2 yX2_votes yX2_votes, Cond.code yX2_votes cX2_votes 5 (some .int), Cond.fieldLink RX2 38 "RopeChoicesModel" "many" "I", Cond.methodLink RX2 127 yX2_apart, Cond.instanceMethod yX2_apart, Cond.selects RX2 yX2_apart yX2_apart, Cond.code yX2_apart cX2_apart 3 (some .int), Cond.fieldLink RX2 17 "RopeChoicesModel" "wish" "[I", Cond.methodLink RX2 55 Lib.Math.abs.name, Cond.static Lib.Math.abs.name]
def wsX2_votesFor_r2 : List Cond := [Cond.initialized "java/lang/Math", Cond.code Lib.Math.abs.name Lib.Math.abs.code 1 (some .int)]
def wsX2_votesFor : List Cond := .code yX2_votesFor cX2_votesFor 3 (some .int) :: ((wsX2_votesFor_r1 ++ wsX2_votesFor_r2) ++ wsX20)
def wsX2_winnerOf_r1 : List Cond := [Cond.methodLink RX2 64 Lib.Math.min.name, Cond.static Lib.Math.min.name, Cond.initialized "java/lang/Math", Cond.code Lib.Math.min.name Lib.Math.min.code 2 (some .int), Cond.methodLink RX2 136 yX2_areTwo, Cond.instanceMethod yX2_areTwo, Cond.selects RX2 yX2_areTwo yX2_areTwo, Cond.initialized RX2, Cond.code yX2_areTwo cX2_areTwo 3 (some .boolean), Cond.fieldLink RX2 35 "RopeChoicesModel" "thrown" "I", Cond.methodLink RX2 90 yX2_isPlank, Cond.static yX2_isPlank, Cond.code yX2_isPlank cX2_isPlank 1 (some .boolean), Cond.methodLink RX2 41 yX2_isIn, Cond.static yX2_isIn, Cond.code yX2_isIn cX2_isIn 3 (some .boolean), Cond.methodLink RX2 139 yX2_votes, Cond.instanceMethod yX2_votes, Cond.selects RX2 yX2_votes yX2_votes, Cond.code yX2_votes cX2_votes 5 (some .int), Cond.fieldLink RX2 38 "RopeChoicesModel" "many" "I", Cond.methodLink RX2 127 yX2_apart, Cond.instanceMethod yX2_apart, Cond.selects RX2 yX2_apart yX2_apart]
def wsX2_winnerOf_r2 : List Cond := [Cond.code yX2_apart cX2_apart 3 (some .int), Cond.fieldLink RX2 17 "RopeChoicesModel" "wish" "[I", Cond.methodLink RX2 55 Lib.Math.abs.name, Cond.static Lib.Math.abs.name, Cond.code Lib.Math.abs.name Lib.Math.abs.code 1 (some .int)]
def wsX2_winnerOf : List Cond := .code yX2_winnerOf cX2_winnerOf 4 (some .int) :: ((wsX2_winnerOf_r1 ++ wsX2_winnerOf_r2) ++ wsX20)
def wsX2_canLeadTo_r1 : List Cond := [Cond.fieldLink RX2 35 "RopeChoicesModel" "thrown" "I", Cond.methodLink RX2 96 yX2_isDelegate, Cond.instanceMethod yX2_isDelegate, Cond.selects RX2 yX2_isDelegate yX2_isDelegate, Cond.initialized RX2, Cond.code yX2_isDelegate cX2_isDelegate 2 (some .boolean), Cond.fieldLink RX2 38 "RopeChoicesModel" "many" "I", Cond.methodLink RX2 41 yX2_isIn, Cond.static yX2_isIn, Cond.code yX2_isIn cX2_isIn 3 (some .boolean), Cond.methodLink RX2 90 yX2_isPlank, Cond.static yX2_isPlank, Cond.code yX2_isPlank cX2_isPlank 1 (some .boolean), Cond.methodLink RX2 107 yX2_can, Cond.instanceMethod yX2_can, Cond.selects RX2 yX2_can yX2_can, Cond.code yX2_can cX2_can 3 (some .boolean), Cond.fieldLink RX2 26 "RopeChoicesModel" "plank" "[I", Cond.methodLink RX2 103 yX2_isWilling, Cond.instanceMethod yX2_isWilling, Cond.selects RX2 yX2_isWilling yX2_isWilling, Cond.code yX2_isWilling cX2_isWilling 3 (some .boolean), Cond.fieldLink RX2 17 "RopeChoicesModel" "wish" "[I", Cond.methodLink RX2 55 Lib.Math.abs.name]
def wsX2_canLeadTo_r2 : List Cond := [Cond.static Lib.Math.abs.name, Cond.initialized "java/lang/Math", Cond.code Lib.Math.abs.name Lib.Math.abs.code 1 (some .int), Cond.fieldLink RX2 20 "RopeChoicesModel" "reach" "[I", Cond.methodLink RX2 77 yX2_hasRoom, Cond.instanceMethod yX2_hasRoom, Cond.selects RX2 yX2_hasRoom yX2_hasRoom, Cond.code yX2_hasRoom cX2_hasRoom 2 (some .boolean), Cond.fieldLink RX2 7 "RopeChoicesModel" "strength" "I", Cond.methodLink RX2 51 yX2_standing, Cond.instanceMethod yX2_standing, Cond.selects RX2 yX2_standing yX2_standing, Cond.code yX2_standing cX2_standing 4 (some .int)]
def wsX2_canLeadTo : List Cond := .code yX2_canLeadTo cX2_canLeadTo 3 (some .boolean) :: ((wsX2_canLeadTo_r1 ++ wsX2_canLeadTo_r2) ++ wsX20)
def wsX2_wouldStepTo_r1 : List Cond := [Cond.fieldLink RX2 35 "RopeChoicesModel" "thrown" "I", Cond.methodLink RX2 96 yX2_isDelegate, Cond.instanceMethod yX2_isDelegate, Cond.selects RX2 yX2_isDelegate yX2_isDelegate, Cond.initialized RX2, Cond.code yX2_isDelegate cX2_isDelegate 2 (some .boolean), Cond.fieldLink RX2 38 "RopeChoicesModel" "many" "I", Cond.methodLink RX2 41 yX2_isIn, Cond.static yX2_isIn, Cond.code yX2_isIn cX2_isIn 3 (some .boolean), Cond.methodLink RX2 70 yX2_middle, Cond.instanceMethod yX2_middle, Cond.selects RX2 yX2_middle yX2_middle, Cond.code yX2_middle cX2_middle 1 (some .int), Cond.methodLink RX2 60 yX2_median, Cond.instanceMethod yX2_median, Cond.selects RX2 yX2_median yX2_median, Cond.code yX2_median cX2_median 6 (some .int), Cond.fieldLink RX2 32 "RopeChoicesModel" "count" "[I", Cond.fieldLink RX2 13 "RopeChoicesModel" "village" "[I", Cond.fieldLink RX2 26 "RopeChoicesModel" "plank" "[I", Cond.methodLink RX2 74 yX2_step, Cond.instanceMethod yX2_step, Cond.selects RX2 yX2_step yX2_step]
def wsX2_wouldStepTo_r2 : List Cond := [Cond.code yX2_step cX2_step 4 (some .int), Cond.fieldLink RX2 17 "RopeChoicesModel" "wish" "[I", Cond.fieldLink RX2 20 "RopeChoicesModel" "reach" "[I", Cond.methodLink RX2 64 Lib.Math.min.name, Cond.static Lib.Math.min.name, Cond.initialized "java/lang/Math", Cond.code Lib.Math.min.name Lib.Math.min.code 2 (some .int), Cond.methodLink RX2 67 Lib.Math.max.name, Cond.static Lib.Math.max.name, Cond.code Lib.Math.max.name Lib.Math.max.code 2 (some .int), Cond.fieldLink RX2 23 "RopeChoicesModel" "pace" "[I", Cond.methodLink RX2 93 yX2_fail, Cond.instanceMethod yX2_fail, Cond.selects RX2 yX2_fail yX2_fail, Cond.code yX2_fail cX2_fail 2 (some .int)]
def wsX2_wouldStepTo : List Cond := .code yX2_wouldStepTo cX2_wouldStepTo 2 (some .int) :: ((wsX2_wouldStepTo_r1 ++ wsX2_wouldStepTo_r2) ++ wsX20)
def wsX2_isStill_r1 : List Cond := [Cond.fieldLink RX2 35 "RopeChoicesModel" "thrown" "I", Cond.methodLink RX2 142 yX2_still, Cond.instanceMethod yX2_still, Cond.selects RX2 yX2_still yX2_still, Cond.initialized RX2, Cond.code yX2_still cX2_still 3 (some .boolean), Cond.arrayClass .int, Cond.fieldLink RX2 26 "RopeChoicesModel" "plank" "[I", Cond.methodLink RX2 45 arraycopyName, Cond.native arraycopyName, Cond.static arraycopyName, Cond.initialized "java/lang/System", Cond.methodLink RX2 84 yX2_roundOn, Cond.instanceMethod yX2_roundOn, Cond.selects RX2 yX2_roundOn yX2_roundOn, Cond.code yX2_roundOn cX2_roundOn 5 (some .int), Cond.fieldLink RX2 38 "RopeChoicesModel" "many" "I", Cond.methodLink RX2 70 yX2_middle, Cond.instanceMethod yX2_middle, Cond.selects RX2 yX2_middle yX2_middle, Cond.code yX2_middle cX2_middle 1 (some .int), Cond.methodLink RX2 60 yX2_median, Cond.instanceMethod yX2_median, Cond.selects RX2 yX2_median yX2_median]
def wsX2_isStill_r2 : List Cond := [Cond.code yX2_median cX2_median 6 (some .int), Cond.fieldLink RX2 32 "RopeChoicesModel" "count" "[I", Cond.fieldLink RX2 13 "RopeChoicesModel" "village" "[I", Cond.methodLink RX2 74 yX2_step, Cond.instanceMethod yX2_step, Cond.selects RX2 yX2_step yX2_step, Cond.code yX2_step cX2_step 4 (some .int), Cond.fieldLink RX2 17 "RopeChoicesModel" "wish" "[I", Cond.fieldLink RX2 20 "RopeChoicesModel" "reach" "[I", Cond.methodLink RX2 64 Lib.Math.min.name, Cond.static Lib.Math.min.name, Cond.initialized "java/lang/Math", Cond.code Lib.Math.min.name Lib.Math.min.code 2 (some .int), Cond.methodLink RX2 67 Lib.Math.max.name, Cond.static Lib.Math.max.name, Cond.code Lib.Math.max.name Lib.Math.max.code 2 (some .int), Cond.fieldLink RX2 23 "RopeChoicesModel" "pace" "[I", Cond.methodLink RX2 77 yX2_hasRoom, Cond.instanceMethod yX2_hasRoom, Cond.selects RX2 yX2_hasRoom yX2_hasRoom, Cond.code yX2_hasRoom cX2_hasRoom 2 (some .boolean), Cond.fieldLink RX2 7 "RopeChoicesModel" "strength" "I", Cond.methodLink RX2 51 yX2_standing, Cond.instanceMethod yX2_standing]
def wsX2_isStill_r3 : List Cond := [Cond.selects RX2 yX2_standing yX2_standing, Cond.code yX2_standing cX2_standing 4 (some .int)]
def wsX2_isStill : List Cond := .code yX2_isStill cX2_isStill 1 (some .boolean) :: ((wsX2_isStill_r1 ++ (wsX2_isStill_r2 ++ wsX2_isStill_r3)) ++ wsX20)
def wsX2_plankIn_r1 : List Cond := [Cond.fieldLink RX2 35 "RopeChoicesModel" "thrown" "I", Cond.fieldLink RX2 26 "RopeChoicesModel" "plank" "[I", Cond.methodLink RX2 96 yX2_isDelegate, Cond.instanceMethod yX2_isDelegate, Cond.selects RX2 yX2_isDelegate yX2_isDelegate, Cond.initialized RX2, Cond.code yX2_isDelegate cX2_isDelegate 2 (some .boolean), Cond.fieldLink RX2 38 "RopeChoicesModel" "many" "I", Cond.methodLink RX2 41 yX2_isIn, Cond.static yX2_isIn, Cond.code yX2_isIn cX2_isIn 3 (some .boolean), Cond.methodLink RX2 93 yX2_fail, Cond.instanceMethod yX2_fail, Cond.selects RX2 yX2_fail yX2_fail, Cond.code yX2_fail cX2_fail 2 (some .int), Cond.methodLink RX2 145 yX2_keep, Cond.instanceMethod yX2_keep, Cond.selects RX2 yX2_keep yX2_keep, Cond.code yX2_keep cX2_keep 1 none, Cond.fieldLink RX2 29 "RopeChoicesModel" "kept" "[I", Cond.methodLink RX2 45 arraycopyName, Cond.native arraycopyName, Cond.static arraycopyName, Cond.initialized "java/lang/System"]
def wsX2_plankIn_r2 : List Cond := [Cond.methodLink RX2 84 yX2_roundOn, Cond.instanceMethod yX2_roundOn, Cond.selects RX2 yX2_roundOn yX2_roundOn, Cond.code yX2_roundOn cX2_roundOn 5 (some .int), Cond.methodLink RX2 70 yX2_middle, Cond.instanceMethod yX2_middle, Cond.selects RX2 yX2_middle yX2_middle, Cond.code yX2_middle cX2_middle 1 (some .int), Cond.methodLink RX2 60 yX2_median, Cond.instanceMethod yX2_median, Cond.selects RX2 yX2_median yX2_median, Cond.code yX2_median cX2_median 6 (some .int), Cond.fieldLink RX2 32 "RopeChoicesModel" "count" "[I", Cond.fieldLink RX2 13 "RopeChoicesModel" "village" "[I", Cond.methodLink RX2 74 yX2_step, Cond.instanceMethod yX2_step, Cond.selects RX2 yX2_step yX2_step, Cond.code yX2_step cX2_step 4 (some .int), Cond.fieldLink RX2 17 "RopeChoicesModel" "wish" "[I", Cond.fieldLink RX2 20 "RopeChoicesModel" "reach" "[I", Cond.methodLink RX2 64 Lib.Math.min.name, Cond.static Lib.Math.min.name, Cond.initialized "java/lang/Math", Cond.code Lib.Math.min.name Lib.Math.min.code 2 (some .int)]
def wsX2_plankIn_r3 : List Cond := [Cond.methodLink RX2 67 Lib.Math.max.name, Cond.static Lib.Math.max.name, Cond.code Lib.Math.max.name Lib.Math.max.code 2 (some .int), Cond.fieldLink RX2 23 "RopeChoicesModel" "pace" "[I", Cond.methodLink RX2 77 yX2_hasRoom, Cond.instanceMethod yX2_hasRoom, Cond.selects RX2 yX2_hasRoom yX2_hasRoom, Cond.code yX2_hasRoom cX2_hasRoom 2 (some .boolean), Cond.fieldLink RX2 7 "RopeChoicesModel" "strength" "I", Cond.methodLink RX2 51 yX2_standing, Cond.instanceMethod yX2_standing, Cond.selects RX2 yX2_standing yX2_standing, Cond.code yX2_standing cX2_standing 4 (some .int), Cond.methodLink RX2 148 yX2_bringBack, Cond.instanceMethod yX2_bringBack, Cond.selects RX2 yX2_bringBack yX2_bringBack, Cond.code yX2_bringBack cX2_bringBack 1 none]
def wsX2_plankIn : List Cond := .code yX2_plankIn cX2_plankIn 4 (some .int) :: ((wsX2_plankIn_r1 ++ (wsX2_plankIn_r2 ++ wsX2_plankIn_r3)) ++ wsX20)
def wsX2_compromiseIn_r1 : List Cond := [Cond.fieldLink RX2 35 "RopeChoicesModel" "thrown" "I", Cond.fieldLink RX2 38 "RopeChoicesModel" "many" "I", Cond.methodLink RX2 41 yX2_isIn, Cond.static yX2_isIn, Cond.initialized RX2, Cond.code yX2_isIn cX2_isIn 3 (some .boolean), Cond.methodLink RX2 93 yX2_fail, Cond.instanceMethod yX2_fail, Cond.selects RX2 yX2_fail yX2_fail, Cond.code yX2_fail cX2_fail 2 (some .int), Cond.methodLink RX2 145 yX2_keep, Cond.instanceMethod yX2_keep, Cond.selects RX2 yX2_keep yX2_keep, Cond.code yX2_keep cX2_keep 1 none, Cond.fieldLink RX2 26 "RopeChoicesModel" "plank" "[I", Cond.fieldLink RX2 29 "RopeChoicesModel" "kept" "[I", Cond.methodLink RX2 45 arraycopyName, Cond.native arraycopyName, Cond.static arraycopyName, Cond.initialized "java/lang/System", Cond.methodLink RX2 84 yX2_roundOn, Cond.instanceMethod yX2_roundOn, Cond.selects RX2 yX2_roundOn yX2_roundOn, Cond.code yX2_roundOn cX2_roundOn 5 (some .int)]
def wsX2_compromiseIn_r2 : List Cond := [Cond.methodLink RX2 70 yX2_middle, Cond.instanceMethod yX2_middle, Cond.selects RX2 yX2_middle yX2_middle, Cond.code yX2_middle cX2_middle 1 (some .int), Cond.methodLink RX2 60 yX2_median, Cond.instanceMethod yX2_median, Cond.selects RX2 yX2_median yX2_median, Cond.code yX2_median cX2_median 6 (some .int), Cond.fieldLink RX2 32 "RopeChoicesModel" "count" "[I", Cond.fieldLink RX2 13 "RopeChoicesModel" "village" "[I", Cond.methodLink RX2 74 yX2_step, Cond.instanceMethod yX2_step, Cond.selects RX2 yX2_step yX2_step, Cond.code yX2_step cX2_step 4 (some .int), Cond.fieldLink RX2 17 "RopeChoicesModel" "wish" "[I", Cond.fieldLink RX2 20 "RopeChoicesModel" "reach" "[I", Cond.methodLink RX2 64 Lib.Math.min.name, Cond.static Lib.Math.min.name, Cond.initialized "java/lang/Math", Cond.code Lib.Math.min.name Lib.Math.min.code 2 (some .int), Cond.methodLink RX2 67 Lib.Math.max.name, Cond.static Lib.Math.max.name, Cond.code Lib.Math.max.name Lib.Math.max.code 2 (some .int), Cond.fieldLink RX2 23 "RopeChoicesModel" "pace" "[I"]
def wsX2_compromiseIn_r3 : List Cond := [Cond.methodLink RX2 77 yX2_hasRoom, Cond.instanceMethod yX2_hasRoom, Cond.selects RX2 yX2_hasRoom yX2_hasRoom, Cond.code yX2_hasRoom cX2_hasRoom 2 (some .boolean), Cond.fieldLink RX2 7 "RopeChoicesModel" "strength" "I", Cond.methodLink RX2 51 yX2_standing, Cond.instanceMethod yX2_standing, Cond.selects RX2 yX2_standing yX2_standing, Cond.code yX2_standing cX2_standing 4 (some .int), Cond.methodLink RX2 148 yX2_bringBack, Cond.instanceMethod yX2_bringBack, Cond.selects RX2 yX2_bringBack yX2_bringBack, Cond.code yX2_bringBack cX2_bringBack 1 none]
def wsX2_compromiseIn : List Cond := .code yX2_compromiseIn cX2_compromiseIn 3 (some .int) :: ((wsX2_compromiseIn_r1 ++ (wsX2_compromiseIn_r2 ++ wsX2_compromiseIn_r3)) ++ wsX20)
def wsX2_roundsUntilTreaty_r1 : List Cond := [Cond.fieldLink RX2 35 "RopeChoicesModel" "thrown" "I", Cond.methodLink RX2 145 yX2_keep, Cond.instanceMethod yX2_keep, Cond.selects RX2 yX2_keep yX2_keep, Cond.initialized RX2, Cond.code yX2_keep cX2_keep 1 none, Cond.fieldLink RX2 26 "RopeChoicesModel" "plank" "[I", Cond.fieldLink RX2 29 "RopeChoicesModel" "kept" "[I", Cond.methodLink RX2 45 arraycopyName, Cond.native arraycopyName, Cond.static arraycopyName, Cond.initialized "java/lang/System", Cond.methodLink RX2 120 yX2_agree, Cond.instanceMethod yX2_agree, Cond.selects RX2 yX2_agree yX2_agree, Cond.code yX2_agree cX2_agree 3 (some .boolean), Cond.fieldLink RX2 38 "RopeChoicesModel" "many" "I", Cond.fieldLink RX2 13 "RopeChoicesModel" "village" "[I", Cond.methodLink RX2 81 yX2_wide, Cond.instanceMethod yX2_wide, Cond.selects RX2 yX2_wide yX2_wide, Cond.code yX2_wide cX2_wide 4 (some .int), Cond.methodLink RX2 64 Lib.Math.min.name, Cond.static Lib.Math.min.name]
def wsX2_roundsUntilTreaty_r2 : List Cond := [Cond.initialized "java/lang/Math", Cond.code Lib.Math.min.name Lib.Math.min.code 2 (some .int), Cond.methodLink RX2 67 Lib.Math.max.name, Cond.static Lib.Math.max.name, Cond.code Lib.Math.max.name Lib.Math.max.code 2 (some .int), Cond.methodLink RX2 84 yX2_roundOn, Cond.instanceMethod yX2_roundOn, Cond.selects RX2 yX2_roundOn yX2_roundOn, Cond.code yX2_roundOn cX2_roundOn 5 (some .int), Cond.methodLink RX2 70 yX2_middle, Cond.instanceMethod yX2_middle, Cond.selects RX2 yX2_middle yX2_middle, Cond.code yX2_middle cX2_middle 1 (some .int), Cond.methodLink RX2 60 yX2_median, Cond.instanceMethod yX2_median, Cond.selects RX2 yX2_median yX2_median, Cond.code yX2_median cX2_median 6 (some .int), Cond.fieldLink RX2 32 "RopeChoicesModel" "count" "[I", Cond.methodLink RX2 74 yX2_step, Cond.instanceMethod yX2_step, Cond.selects RX2 yX2_step yX2_step, Cond.code yX2_step cX2_step 4 (some .int), Cond.fieldLink RX2 17 "RopeChoicesModel" "wish" "[I", Cond.fieldLink RX2 20 "RopeChoicesModel" "reach" "[I"]
def wsX2_roundsUntilTreaty_r3 : List Cond := [Cond.fieldLink RX2 23 "RopeChoicesModel" "pace" "[I", Cond.methodLink RX2 77 yX2_hasRoom, Cond.instanceMethod yX2_hasRoom, Cond.selects RX2 yX2_hasRoom yX2_hasRoom, Cond.code yX2_hasRoom cX2_hasRoom 2 (some .boolean), Cond.fieldLink RX2 7 "RopeChoicesModel" "strength" "I", Cond.methodLink RX2 51 yX2_standing, Cond.instanceMethod yX2_standing, Cond.selects RX2 yX2_standing yX2_standing, Cond.code yX2_standing cX2_standing 4 (some .int), Cond.methodLink RX2 148 yX2_bringBack, Cond.instanceMethod yX2_bringBack, Cond.selects RX2 yX2_bringBack yX2_bringBack, Cond.code yX2_bringBack cX2_bringBack 1 none]
def wsX2_roundsUntilTreaty : List Cond := .code yX2_roundsUntilTreaty cX2_roundsUntilTreaty 2 (some .int) :: ((wsX2_roundsUntilTreaty_r1 ++ (wsX2_roundsUntilTreaty_r2 ++ wsX2_roundsUntilTreaty_r3)) ++ wsX20)
def wsX2_untilStill_r1 : List Cond := [Cond.methodLink RX2 145 yX2_keep, Cond.instanceMethod yX2_keep, Cond.selects RX2 yX2_keep yX2_keep, Cond.initialized RX2, Cond.code yX2_keep cX2_keep 1 none, Cond.fieldLink RX2 26 "RopeChoicesModel" "plank" "[I", Cond.fieldLink RX2 29 "RopeChoicesModel" "kept" "[I", Cond.methodLink RX2 45 arraycopyName, Cond.native arraycopyName, Cond.static arraycopyName, Cond.initialized "java/lang/System", Cond.methodLink RX2 84 yX2_roundOn, Cond.instanceMethod yX2_roundOn, Cond.selects RX2 yX2_roundOn yX2_roundOn, Cond.code yX2_roundOn cX2_roundOn 5 (some .int), Cond.fieldLink RX2 38 "RopeChoicesModel" "many" "I", Cond.methodLink RX2 70 yX2_middle, Cond.instanceMethod yX2_middle, Cond.selects RX2 yX2_middle yX2_middle, Cond.code yX2_middle cX2_middle 1 (some .int), Cond.methodLink RX2 60 yX2_median, Cond.instanceMethod yX2_median, Cond.selects RX2 yX2_median yX2_median, Cond.code yX2_median cX2_median 6 (some .int)]
def wsX2_untilStill_r2 : List Cond := [Cond.fieldLink RX2 32 "RopeChoicesModel" "count" "[I", Cond.fieldLink RX2 13 "RopeChoicesModel" "village" "[I", Cond.methodLink RX2 74 yX2_step, Cond.instanceMethod yX2_step, Cond.selects RX2 yX2_step yX2_step, Cond.code yX2_step cX2_step 4 (some .int), Cond.fieldLink RX2 17 "RopeChoicesModel" "wish" "[I", Cond.fieldLink RX2 20 "RopeChoicesModel" "reach" "[I", Cond.methodLink RX2 64 Lib.Math.min.name, Cond.static Lib.Math.min.name, Cond.initialized "java/lang/Math", Cond.code Lib.Math.min.name Lib.Math.min.code 2 (some .int), Cond.methodLink RX2 67 Lib.Math.max.name, Cond.static Lib.Math.max.name, Cond.code Lib.Math.max.name Lib.Math.max.code 2 (some .int), Cond.fieldLink RX2 23 "RopeChoicesModel" "pace" "[I", Cond.methodLink RX2 77 yX2_hasRoom, Cond.instanceMethod yX2_hasRoom, Cond.selects RX2 yX2_hasRoom yX2_hasRoom, Cond.code yX2_hasRoom cX2_hasRoom 2 (some .boolean), Cond.fieldLink RX2 7 "RopeChoicesModel" "strength" "I", Cond.methodLink RX2 51 yX2_standing, Cond.instanceMethod yX2_standing, Cond.selects RX2 yX2_standing yX2_standing]
def wsX2_untilStill_r3 : List Cond := [Cond.code yX2_standing cX2_standing 4 (some .int), Cond.methodLink RX2 148 yX2_bringBack, Cond.instanceMethod yX2_bringBack, Cond.selects RX2 yX2_bringBack yX2_bringBack, Cond.code yX2_bringBack cX2_bringBack 1 none]
def wsX2_untilStill : List Cond := .code yX2_untilStill cX2_untilStill 2 (some .int) :: ((wsX2_untilStill_r1 ++ (wsX2_untilStill_r2 ++ wsX2_untilStill_r3)) ++ wsX20)
def wsX2_roundsUntilStill_r1 : List Cond := [Cond.methodLink RX2 151 yX2_untilStill, Cond.instanceMethod yX2_untilStill, Cond.selects RX2 yX2_untilStill yX2_untilStill, Cond.initialized RX2, Cond.code yX2_untilStill cX2_untilStill 2 (some .int), Cond.methodLink RX2 145 yX2_keep, Cond.instanceMethod yX2_keep, Cond.selects RX2 yX2_keep yX2_keep, Cond.code yX2_keep cX2_keep 1 none, Cond.fieldLink RX2 26 "RopeChoicesModel" "plank" "[I", Cond.fieldLink RX2 29 "RopeChoicesModel" "kept" "[I", Cond.methodLink RX2 45 arraycopyName, Cond.native arraycopyName, Cond.static arraycopyName, Cond.initialized "java/lang/System", Cond.methodLink RX2 84 yX2_roundOn, Cond.instanceMethod yX2_roundOn, Cond.selects RX2 yX2_roundOn yX2_roundOn, Cond.code yX2_roundOn cX2_roundOn 5 (some .int), Cond.fieldLink RX2 38 "RopeChoicesModel" "many" "I", Cond.methodLink RX2 70 yX2_middle, Cond.instanceMethod yX2_middle, Cond.selects RX2 yX2_middle yX2_middle, Cond.code yX2_middle cX2_middle 1 (some .int)]
def wsX2_roundsUntilStill_r2 : List Cond := [Cond.methodLink RX2 60 yX2_median, Cond.instanceMethod yX2_median, Cond.selects RX2 yX2_median yX2_median, Cond.code yX2_median cX2_median 6 (some .int), Cond.fieldLink RX2 32 "RopeChoicesModel" "count" "[I", Cond.fieldLink RX2 13 "RopeChoicesModel" "village" "[I", Cond.methodLink RX2 74 yX2_step, Cond.instanceMethod yX2_step, Cond.selects RX2 yX2_step yX2_step, Cond.code yX2_step cX2_step 4 (some .int), Cond.fieldLink RX2 17 "RopeChoicesModel" "wish" "[I", Cond.fieldLink RX2 20 "RopeChoicesModel" "reach" "[I", Cond.methodLink RX2 64 Lib.Math.min.name, Cond.static Lib.Math.min.name, Cond.initialized "java/lang/Math", Cond.code Lib.Math.min.name Lib.Math.min.code 2 (some .int), Cond.methodLink RX2 67 Lib.Math.max.name, Cond.static Lib.Math.max.name, Cond.code Lib.Math.max.name Lib.Math.max.code 2 (some .int), Cond.fieldLink RX2 23 "RopeChoicesModel" "pace" "[I", Cond.methodLink RX2 77 yX2_hasRoom, Cond.instanceMethod yX2_hasRoom, Cond.selects RX2 yX2_hasRoom yX2_hasRoom, Cond.code yX2_hasRoom cX2_hasRoom 2 (some .boolean)]
def wsX2_roundsUntilStill_r3 : List Cond := [Cond.fieldLink RX2 7 "RopeChoicesModel" "strength" "I", Cond.methodLink RX2 51 yX2_standing, Cond.instanceMethod yX2_standing, Cond.selects RX2 yX2_standing yX2_standing, Cond.code yX2_standing cX2_standing 4 (some .int), Cond.methodLink RX2 148 yX2_bringBack, Cond.instanceMethod yX2_bringBack, Cond.selects RX2 yX2_bringBack yX2_bringBack, Cond.code yX2_bringBack cX2_bringBack 1 none, Cond.methodLink RX2 113 yX2_told, Cond.instanceMethod yX2_told, Cond.selects RX2 yX2_told yX2_told, Cond.code yX2_told cX2_told 2 (some .int), Cond.fieldLink RX2 35 "RopeChoicesModel" "thrown" "I"]
def wsX2_roundsUntilStill : List Cond := .code yX2_roundsUntilStill cX2_roundsUntilStill 1 (some .int) :: ((wsX2_roundsUntilStill_r1 ++ (wsX2_roundsUntilStill_r2 ++ wsX2_roundsUntilStill_r3)) ++ wsX20)
def wsX2_stand : List Cond := .code yX2_stand cX2_stand 7 (some .int) :: ([.fieldLink RX2 26 "RopeChoicesModel" "plank" "[I", .methodLink RX2 70 yX2_middle, .instanceMethod yX2_middle, .selects RX2 yX2_middle yX2_middle, .initialized RX2, .code yX2_middle cX2_middle 1 (some .int), .methodLink RX2 60 yX2_median, .instanceMethod yX2_median, .selects RX2 yX2_median yX2_median, .code yX2_median cX2_median 6 (some .int), .fieldLink RX2 32 "RopeChoicesModel" "count" "[I", .fieldLink RX2 38 "RopeChoicesModel" "many" "I", .fieldLink RX2 13 "RopeChoicesModel" "village" "[I", .methodLink RX2 127 yX2_apart, .instanceMethod yX2_apart, .selects RX2 yX2_apart yX2_apart, .code yX2_apart cX2_apart 3 (some .int), .fieldLink RX2 17 "RopeChoicesModel" "wish" "[I", .methodLink RX2 55 Lib.Math.abs.name, .static Lib.Math.abs.name, .initialized "java/lang/Math", .code Lib.Math.abs.name Lib.Math.abs.code 1 (some .int)] ++ wsX20)
def wsX2_bestStand_r1 : List Cond := [Cond.fieldLink RX2 35 "RopeChoicesModel" "thrown" "I", Cond.methodLink RX2 96 yX2_isDelegate, Cond.instanceMethod yX2_isDelegate, Cond.selects RX2 yX2_isDelegate yX2_isDelegate, Cond.initialized RX2, Cond.code yX2_isDelegate cX2_isDelegate 2 (some .boolean), Cond.fieldLink RX2 38 "RopeChoicesModel" "many" "I", Cond.methodLink RX2 41 yX2_isIn, Cond.static yX2_isIn, Cond.code yX2_isIn cX2_isIn 3 (some .boolean), Cond.methodLink RX2 154 yX2_stand, Cond.instanceMethod yX2_stand, Cond.selects RX2 yX2_stand yX2_stand, Cond.code yX2_stand cX2_stand 7 (some .int), Cond.fieldLink RX2 26 "RopeChoicesModel" "plank" "[I", Cond.methodLink RX2 70 yX2_middle, Cond.instanceMethod yX2_middle, Cond.selects RX2 yX2_middle yX2_middle, Cond.code yX2_middle cX2_middle 1 (some .int), Cond.methodLink RX2 60 yX2_median, Cond.instanceMethod yX2_median, Cond.selects RX2 yX2_median yX2_median, Cond.code yX2_median cX2_median 6 (some .int), Cond.fieldLink RX2 32 "RopeChoicesModel" "count" "[I"]
def wsX2_bestStand_r2 : List Cond := [Cond.fieldLink RX2 13 "RopeChoicesModel" "village" "[I", Cond.methodLink RX2 127 yX2_apart, Cond.instanceMethod yX2_apart, Cond.selects RX2 yX2_apart yX2_apart, Cond.code yX2_apart cX2_apart 3 (some .int), Cond.fieldLink RX2 17 "RopeChoicesModel" "wish" "[I", Cond.methodLink RX2 55 Lib.Math.abs.name, Cond.static Lib.Math.abs.name, Cond.initialized "java/lang/Math", Cond.code Lib.Math.abs.name Lib.Math.abs.code 1 (some .int), Cond.methodLink RX2 93 yX2_fail, Cond.instanceMethod yX2_fail, Cond.selects RX2 yX2_fail yX2_fail, Cond.code yX2_fail cX2_fail 2 (some .int)]
def wsX2_bestStand : List Cond := .code yX2_bestStand cX2_bestStand 2 (some .int) :: ((wsX2_bestStand_r1 ++ wsX2_bestStand_r2) ++ wsX20)
def wsX2_meanPlank : List Cond := .code yX2_meanPlank cX2_meanPlank 3 (some .double) :: ([.fieldLink RX2 35 "RopeChoicesModel" "thrown" "I", .fieldLink RX2 38 "RopeChoicesModel" "many" "I", .fieldLink RX2 26 "RopeChoicesModel" "plank" "[I"] ++ wsX20)
def wsX2_digest_r1 : List Cond := [Cond.fieldLink RX2 35 "RopeChoicesModel" "thrown" "I", Cond.arrayClass .int, Cond.fieldLink RX2 38 "RopeChoicesModel" "many" "I", Cond.fieldLink RX2 110 "RopeChoicesModel" "rounds" "I", Cond.fieldLink RX2 7 "RopeChoicesModel" "strength" "I", Cond.constantLong RX2 157 (1933), Cond.constantLong RX2 159 (31), Cond.fieldLink RX2 13 "RopeChoicesModel" "village" "[I", Cond.fieldLink RX2 17 "RopeChoicesModel" "wish" "[I", Cond.fieldLink RX2 20 "RopeChoicesModel" "reach" "[I", Cond.fieldLink RX2 23 "RopeChoicesModel" "pace" "[I", Cond.fieldLink RX2 26 "RopeChoicesModel" "plank" "[I", Cond.methodLink RX2 81 yX2_wide, Cond.instanceMethod yX2_wide, Cond.selects RX2 yX2_wide yX2_wide, Cond.initialized RX2, Cond.code yX2_wide cX2_wide 4 (some .int), Cond.methodLink RX2 64 Lib.Math.min.name, Cond.static Lib.Math.min.name, Cond.initialized "java/lang/Math", Cond.code Lib.Math.min.name Lib.Math.min.code 2 (some .int), Cond.methodLink RX2 67 Lib.Math.max.name, Cond.static Lib.Math.max.name, Cond.code Lib.Math.max.name Lib.Math.max.code 2 (some .int)]
def wsX2_digest_r2 : List Cond := [Cond.methodLink RX2 120 yX2_agree, Cond.instanceMethod yX2_agree, Cond.selects RX2 yX2_agree yX2_agree, Cond.code yX2_agree cX2_agree 3 (some .boolean), Cond.methodLink RX2 142 yX2_still, Cond.instanceMethod yX2_still, Cond.selects RX2 yX2_still yX2_still, Cond.code yX2_still cX2_still 3 (some .boolean), Cond.methodLink RX2 45 arraycopyName, Cond.native arraycopyName, Cond.static arraycopyName, Cond.initialized "java/lang/System", Cond.methodLink RX2 84 yX2_roundOn, Cond.instanceMethod yX2_roundOn, Cond.selects RX2 yX2_roundOn yX2_roundOn, Cond.code yX2_roundOn cX2_roundOn 5 (some .int), Cond.methodLink RX2 70 yX2_middle, Cond.instanceMethod yX2_middle, Cond.selects RX2 yX2_middle yX2_middle, Cond.code yX2_middle cX2_middle 1 (some .int), Cond.methodLink RX2 60 yX2_median, Cond.instanceMethod yX2_median, Cond.selects RX2 yX2_median yX2_median, Cond.code yX2_median cX2_median 6 (some .int)]
def wsX2_digest_r3 : List Cond := [Cond.fieldLink RX2 32 "RopeChoicesModel" "count" "[I", Cond.methodLink RX2 74 yX2_step, Cond.instanceMethod yX2_step, Cond.selects RX2 yX2_step yX2_step, Cond.code yX2_step cX2_step 4 (some .int), Cond.methodLink RX2 77 yX2_hasRoom, Cond.instanceMethod yX2_hasRoom, Cond.selects RX2 yX2_hasRoom yX2_hasRoom, Cond.code yX2_hasRoom cX2_hasRoom 2 (some .boolean), Cond.methodLink RX2 51 yX2_standing, Cond.instanceMethod yX2_standing, Cond.selects RX2 yX2_standing yX2_standing, Cond.code yX2_standing cX2_standing 4 (some .int), Cond.methodLink RX2 124 yX2_decisive, Cond.instanceMethod yX2_decisive, Cond.selects RX2 yX2_decisive yX2_decisive, Cond.code yX2_decisive cX2_decisive 3 (some .int), Cond.methodLink RX2 133 yX2_best, Cond.instanceMethod yX2_best, Cond.selects RX2 yX2_best yX2_best, Cond.code yX2_best cX2_best 3 (some .int), Cond.methodLink RX2 130 yX2_allApart, Cond.instanceMethod yX2_allApart, Cond.selects RX2 yX2_allApart yX2_allApart]
def wsX2_digest_r4 : List Cond := [Cond.code yX2_allApart cX2_allApart 4 (some .int), Cond.methodLink RX2 127 yX2_apart, Cond.instanceMethod yX2_apart, Cond.selects RX2 yX2_apart yX2_apart, Cond.code yX2_apart cX2_apart 3 (some .int), Cond.methodLink RX2 55 Lib.Math.abs.name, Cond.static Lib.Math.abs.name, Cond.code Lib.Math.abs.name Lib.Math.abs.code 1 (some .int), Cond.methodLink RX2 151 yX2_untilStill, Cond.instanceMethod yX2_untilStill, Cond.selects RX2 yX2_untilStill yX2_untilStill, Cond.code yX2_untilStill cX2_untilStill 2 (some .int), Cond.methodLink RX2 145 yX2_keep, Cond.instanceMethod yX2_keep, Cond.selects RX2 yX2_keep yX2_keep, Cond.code yX2_keep cX2_keep 1 none, Cond.fieldLink RX2 29 "RopeChoicesModel" "kept" "[I", Cond.methodLink RX2 148 yX2_bringBack, Cond.instanceMethod yX2_bringBack, Cond.selects RX2 yX2_bringBack yX2_bringBack, Cond.code yX2_bringBack cX2_bringBack 1 none, Cond.methodLink RX2 154 yX2_stand, Cond.instanceMethod yX2_stand, Cond.selects RX2 yX2_stand yX2_stand]
def wsX2_digest_r5 : List Cond := [Cond.code yX2_stand cX2_stand 7 (some .int)]
def wsX2_digest : List Cond := .code yX2_digest cX2_digest 10 (some .long) :: ((wsX2_digest_r1 ++ (wsX2_digest_r2 ++ (wsX2_digest_r3 ++ (wsX2_digest_r4 ++ wsX2_digest_r5)))) ++ wsX20)
def wsJ9_abs_0f7a4 : List Cond := .code yJ9_abs_0f7a4 cJ9_abs_0f7a4 1 (some .int) :: ([])
def wsJ9_max_7cf53 : List Cond := .code yJ9_max_7cf53 cJ9_max_7cf53 2 (some .int) :: ([])
def wsJ9_min_7cf53 : List Cond := .code yJ9_min_7cf53 cJ9_min_7cf53 2 (some .int) :: ([])
def wsL_send_r1 : List Cond := [Cond.classLink RL 13 "java/lang/IndexOutOfBoundsException", Cond.classLink RL 15 "java/lang/IllegalArgumentException", Cond.classLink RL 17 "java/lang/IllegalStateException", Cond.methodLink RL 7 yX1_send, Cond.instanceMethod yX1_send, Cond.selects RX1 yX1_send yX1_send, Cond.initialized RX1, Cond.code yX1_send cX1_send 6 (some .int), Cond.classLink RX1 56 "java/lang/IllegalStateException", Cond.initialized "java/lang/IllegalStateException", Cond.fieldLink RX1 7 "RopeChoices" "count" "I", Cond.fieldLink RX1 32 "RopeChoices" "planks" "[I", Cond.fieldLink RX1 19 "RopeChoices" "villages" "[I", Cond.fieldLink RX1 23 "RopeChoices" "wishes" "[I", Cond.fieldLink RX1 26 "RopeChoices" "reaches" "[I", Cond.fieldLink RX1 29 "RopeChoices" "paces" "[I", Cond.methodLink RX1 45 yX1_checkVillage, Cond.static yX1_checkVillage, Cond.code yX1_checkVillage cX1_checkVillage 1 none, Cond.classLink RX1 232 "java/lang/IndexOutOfBoundsException", Cond.initialized "java/lang/IndexOutOfBoundsException", Cond.methodLink RX1 49 yX1_checkPlank, Cond.static yX1_checkPlank, Cond.code yX1_checkPlank cX1_checkPlank 1 none]
def wsL_send_r2 : List Cond := [Cond.methodLink RX1 52 yX1_checkReachAndPace, Cond.static yX1_checkReachAndPace, Cond.code yX1_checkReachAndPace cX1_checkReachAndPace 2 none, Cond.classLink RX1 85 "java/lang/IllegalArgumentException", Cond.initialized "java/lang/IllegalArgumentException", Cond.methodLink RX1 63 yX1_hasRoom, Cond.instanceMethod yX1_hasRoom, Cond.selects RX1 yX1_hasRoom yX1_hasRoom, Cond.code yX1_hasRoom cX1_hasRoom 3 (some .boolean), Cond.fieldLink RX1 16 "RopeChoices" "plankStrength" "I", Cond.methodLink RX1 97 yX1_crowdOn, Cond.instanceMethod yX1_crowdOn, Cond.selects RX1 yX1_crowdOn yX1_crowdOn, Cond.code yX1_crowdOn cX1_crowdOn 5 (some .int)]
def wsL_send : List Cond := .codeWith yL_send cL_send 7 (some .int) [(0, 14, 17, 13), (0, 14, 21, 15), (0, 14, 25, 17)] :: ((wsL_send_r1 ++ wsL_send_r2) ++ wsX10 ++ (vx_atS RX1 60 "java/lang/IllegalStateException" ["java/lang/RuntimeException", "java/lang/Exception"]).filter goodWord ++ (vx_atS RX1 236 "java/lang/IndexOutOfBoundsException" ["java/lang/RuntimeException", "java/lang/Exception"]).filter goodWord ++ (vx_atS RX1 89 "java/lang/IllegalArgumentException" ["java/lang/RuntimeException", "java/lang/Exception"]).filter goodWord)
def wsL_recall : List Cond := .codeWith yL_recall cL_recall 4 (some .int) [(0, 9, 12, 13)] :: ([.classLink RL 13 "java/lang/IndexOutOfBoundsException", .methodLink RL 19 yX1_recall, .instanceMethod yX1_recall, .selects RX1 yX1_recall yX1_recall, .initialized RX1, .code yX1_recall cX1_recall 3 (some .int), .fieldLink RX1 32 "RopeChoices" "planks" "[I", .fieldLink RX1 19 "RopeChoices" "villages" "[I", .fieldLink RX1 23 "RopeChoices" "wishes" "[I", .fieldLink RX1 26 "RopeChoices" "reaches" "[I", .fieldLink RX1 29 "RopeChoices" "paces" "[I", .fieldLink RX1 7 "RopeChoices" "count" "I", .methodLink RX1 69 yX1_checkDelegate, .instanceMethod yX1_checkDelegate, .selects RX1 yX1_checkDelegate yX1_checkDelegate, .code yX1_checkDelegate cX1_checkDelegate 2 none, .classLink RX1 232 "java/lang/IndexOutOfBoundsException", .initialized "java/lang/IndexOutOfBoundsException", .methodLink RX1 72 yX1_closeGap, .instanceMethod yX1_closeGap, .selects RX1 yX1_closeGap yX1_closeGap, .code yX1_closeGap cX1_closeGap 4 none] ++ wsX10 ++ (vx_atS RX1 236 "java/lang/IndexOutOfBoundsException" ["java/lang/RuntimeException", "java/lang/Exception"]).filter goodWord)
def wsL_persuade : List Cond := .codeWith yL_persuade cL_persuade 5 (some .int) [(0, 10, 13, 13)] :: ([.classLink RL 13 "java/lang/IndexOutOfBoundsException", .methodLink RL 23 yX1_persuade, .instanceMethod yX1_persuade, .selects RX1 yX1_persuade yX1_persuade, .initialized RX1, .code yX1_persuade cX1_persuade 4 (some .int), .fieldLink RX1 23 "RopeChoices" "wishes" "[I", .methodLink RX1 69 yX1_checkDelegate, .instanceMethod yX1_checkDelegate, .selects RX1 yX1_checkDelegate yX1_checkDelegate, .code yX1_checkDelegate cX1_checkDelegate 2 none, .classLink RX1 232 "java/lang/IndexOutOfBoundsException", .initialized "java/lang/IndexOutOfBoundsException", .fieldLink RX1 7 "RopeChoices" "count" "I", .methodLink RX1 49 yX1_checkPlank, .static yX1_checkPlank, .code yX1_checkPlank cX1_checkPlank 1 none] ++ wsX10 ++ (vx_atS RX1 236 "java/lang/IndexOutOfBoundsException" ["java/lang/RuntimeException", "java/lang/Exception"]).filter goodWord)
def wsL_lead_r1 : List Cond := [Cond.classLink RL 13 "java/lang/IndexOutOfBoundsException", Cond.classLink RL 17 "java/lang/IllegalStateException", Cond.methodLink RL 27 yX1_lead, Cond.instanceMethod yX1_lead, Cond.selects RX1 yX1_lead yX1_lead, Cond.initialized RX1, Cond.code yX1_lead cX1_lead 4 (some .int), Cond.classLink RX1 56 "java/lang/IllegalStateException", Cond.initialized "java/lang/IllegalStateException", Cond.fieldLink RX1 32 "RopeChoices" "planks" "[I", Cond.methodLink RX1 69 yX1_checkDelegate, Cond.instanceMethod yX1_checkDelegate, Cond.selects RX1 yX1_checkDelegate yX1_checkDelegate, Cond.code yX1_checkDelegate cX1_checkDelegate 2 none, Cond.classLink RX1 232 "java/lang/IndexOutOfBoundsException", Cond.initialized "java/lang/IndexOutOfBoundsException", Cond.fieldLink RX1 7 "RopeChoices" "count" "I", Cond.methodLink RX1 49 yX1_checkPlank, Cond.static yX1_checkPlank, Cond.code yX1_checkPlank cX1_checkPlank 1 none, Cond.methodLink RX1 76 yX1_isWilling, Cond.instanceMethod yX1_isWilling, Cond.selects RX1 yX1_isWilling yX1_isWilling, Cond.code yX1_isWilling cX1_isWilling 3 (some .boolean)]
def wsL_lead_r2 : List Cond := [Cond.fieldLink RX1 26 "RopeChoices" "reaches" "[I", Cond.methodLink RX1 132 yX1_discontent, Cond.instanceMethod yX1_discontent, Cond.selects RX1 yX1_discontent yX1_discontent, Cond.code yX1_discontent cX1_discontent 3 (some .int), Cond.fieldLink RX1 23 "RopeChoices" "wishes" "[I", Cond.methodLink RX1 251 Lib.Math.abs.name, Cond.static Lib.Math.abs.name, Cond.initialized "java/lang/Math", Cond.code Lib.Math.abs.name Lib.Math.abs.code 1 (some .int), Cond.methodLink RX1 82 yX1_hasPlaceFor, Cond.instanceMethod yX1_hasPlaceFor, Cond.selects RX1 yX1_hasPlaceFor yX1_hasPlaceFor, Cond.code yX1_hasPlaceFor cX1_hasPlaceFor 3 (some .boolean), Cond.methodLink RX1 63 yX1_hasRoom, Cond.instanceMethod yX1_hasRoom, Cond.selects RX1 yX1_hasRoom yX1_hasRoom, Cond.code yX1_hasRoom cX1_hasRoom 3 (some .boolean), Cond.fieldLink RX1 16 "RopeChoices" "plankStrength" "I", Cond.methodLink RX1 97 yX1_crowdOn, Cond.instanceMethod yX1_crowdOn, Cond.selects RX1 yX1_crowdOn yX1_crowdOn, Cond.code yX1_crowdOn cX1_crowdOn 5 (some .int)]
def wsL_lead : List Cond := .codeWith yL_lead cL_lead 5 (some .int) [(0, 10, 13, 13), (0, 10, 17, 17)] :: ((wsL_lead_r1 ++ wsL_lead_r2) ++ wsX10 ++ (vx_atS RX1 60 "java/lang/IllegalStateException" ["java/lang/RuntimeException", "java/lang/Exception"]).filter goodWord ++ (vx_atS RX1 236 "java/lang/IndexOutOfBoundsException" ["java/lang/RuntimeException", "java/lang/Exception"]).filter goodWord)
def wsL_setStrength : List Cond := .codeWith yL_setStrength cL_setStrength 4 (some .int) [(0, 9, 12, 15)] :: ([.classLink RL 15 "java/lang/IllegalArgumentException", .methodLink RL 30 yX1_setStrength, .instanceMethod yX1_setStrength, .selects RX1 yX1_setStrength yX1_setStrength, .initialized RX1, .code yX1_setStrength cX1_setStrength 3 (some .int), .classLink RX1 85 "java/lang/IllegalArgumentException", .initialized "java/lang/IllegalArgumentException", .fieldLink RX1 16 "RopeChoices" "plankStrength" "I"] ++ wsX10 ++ (vx_atS RX1 89 "java/lang/IllegalArgumentException" ["java/lang/RuntimeException", "java/lang/Exception"]).filter goodWord)
def wsL_passRounds_r1 : List Cond := [Cond.classLink RL 15 "java/lang/IllegalArgumentException", Cond.methodLink RL 33 yX1_passRounds, Cond.instanceMethod yX1_passRounds, Cond.selects RX1 yX1_passRounds yX1_passRounds, Cond.initialized RX1, Cond.code yX1_passRounds cX1_passRounds 2 (some .int), Cond.fieldLink RX1 13 "RopeChoices" "roundsGone" "I", Cond.fieldLink RX1 32 "RopeChoices" "planks" "[I", Cond.methodLink RX1 90 yX1_checkRounds, Cond.static yX1_checkRounds, Cond.code yX1_checkRounds cX1_checkRounds 1 none, Cond.classLink RX1 85 "java/lang/IllegalArgumentException", Cond.initialized "java/lang/IllegalArgumentException", Cond.methodLink RX1 93 yX1_goRounds, Cond.instanceMethod yX1_goRounds, Cond.selects RX1 yX1_goRounds yX1_goRounds, Cond.code yX1_goRounds cX1_goRounds 5 (some .int), Cond.methodLink RX1 158 yX1_goRound, Cond.instanceMethod yX1_goRound, Cond.selects RX1 yX1_goRound yX1_goRound, Cond.code yX1_goRound cX1_goRound 6 (some .int), Cond.fieldLink RX1 7 "RopeChoices" "count" "I", Cond.methodLink RX1 111 yX1_middleOfAll, Cond.instanceMethod yX1_middleOfAll]
def wsL_passRounds_r2 : List Cond := [Cond.selects RX1 yX1_middleOfAll yX1_middleOfAll, Cond.code yX1_middleOfAll cX1_middleOfAll 3 (some .int), Cond.fieldLink RX1 41 "RopeChoices" "row" "LRopeChoices$PlankRow;", Cond.methodLink RX1 266 yX0_empty, Cond.instanceMethod yX0_empty, Cond.selects RX0 yX0_empty yX0_empty, Cond.initialized RX0, Cond.code yX0_empty cX0_empty 1 none, Cond.fieldLink RX0 15 "RopeChoices$PlankRow" "length" "I", Cond.methodLink RX1 269 yX0_put, Cond.instanceMethod yX0_put, Cond.selects RX0 yX0_put yX0_put, Cond.code yX0_put cX0_put 3 none, Cond.fieldLink RX0 9 "RopeChoices$PlankRow" "sorted" "[I", Cond.methodLink RX1 123 yX0_middle, Cond.instanceMethod yX0_middle, Cond.selects RX0 yX0_middle yX0_middle, Cond.code yX0_middle cX0_middle 1 (some .int), Cond.methodLink RX1 151 yX1_stepFrom, Cond.instanceMethod yX1_stepFrom, Cond.selects RX1 yX1_stepFrom yX1_stepFrom, Cond.code yX1_stepFrom cX1_stepFrom 5 (some .int), Cond.fieldLink RX1 29 "RopeChoices" "paces" "[I", Cond.methodLink RX1 254 yX1_nearestWillingPlank]
def wsL_passRounds_r3 : List Cond := [Cond.instanceMethod yX1_nearestWillingPlank, Cond.selects RX1 yX1_nearestWillingPlank yX1_nearestWillingPlank, Cond.code yX1_nearestWillingPlank cX1_nearestWillingPlank 4 (some .int), Cond.fieldLink RX1 23 "RopeChoices" "wishes" "[I", Cond.fieldLink RX1 26 "RopeChoices" "reaches" "[I", Cond.methodLink RX1 257 yX1_cutTo, Cond.static yX1_cutTo, Cond.code yX1_cutTo cX1_cutTo 3 (some .int), Cond.methodLink RX1 146 Lib.Math.min.name, Cond.static Lib.Math.min.name, Cond.initialized "java/lang/Math", Cond.code Lib.Math.min.name Lib.Math.min.code 2 (some .int), Cond.methodLink RX1 260 Lib.Math.max.name, Cond.static Lib.Math.max.name, Cond.code Lib.Math.max.name Lib.Math.max.code 2 (some .int), Cond.methodLink RX1 63 yX1_hasRoom, Cond.instanceMethod yX1_hasRoom, Cond.selects RX1 yX1_hasRoom yX1_hasRoom, Cond.code yX1_hasRoom cX1_hasRoom 3 (some .boolean), Cond.fieldLink RX1 16 "RopeChoices" "plankStrength" "I", Cond.methodLink RX1 97 yX1_crowdOn, Cond.instanceMethod yX1_crowdOn, Cond.selects RX1 yX1_crowdOn yX1_crowdOn, Cond.code yX1_crowdOn cX1_crowdOn 5 (some .int)]
def wsL_passRounds : List Cond := .codeWith yL_passRounds cL_passRounds 4 (some .int) [(0, 9, 12, 15)] :: ((wsL_passRounds_r1 ++ (wsL_passRounds_r2 ++ wsL_passRounds_r3)) ++ wsX10 ++ wsX00 ++ (vx_atS RX1 89 "java/lang/IllegalArgumentException" ["java/lang/RuntimeException", "java/lang/Exception"]).filter goodWord)
def wsL_villageOf : List Cond := .codeWith yL_villageOf cL_villageOf 4 (some .int) [(0, 9, 12, 13)] :: ([.classLink RL 13 "java/lang/IndexOutOfBoundsException", .methodLink RL 36 yX1_villageOf, .instanceMethod yX1_villageOf, .selects RX1 yX1_villageOf yX1_villageOf, .initialized RX1, .code yX1_villageOf cX1_villageOf 2 (some .int), .fieldLink RX1 19 "RopeChoices" "villages" "[I", .methodLink RX1 69 yX1_checkDelegate, .instanceMethod yX1_checkDelegate, .selects RX1 yX1_checkDelegate yX1_checkDelegate, .code yX1_checkDelegate cX1_checkDelegate 2 none, .classLink RX1 232 "java/lang/IndexOutOfBoundsException", .initialized "java/lang/IndexOutOfBoundsException", .fieldLink RX1 7 "RopeChoices" "count" "I"] ++ wsX10 ++ (vx_atS RX1 236 "java/lang/IndexOutOfBoundsException" ["java/lang/RuntimeException", "java/lang/Exception"]).filter goodWord)
def wsL_wishOf : List Cond := .codeWith yL_wishOf cL_wishOf 4 (some .int) [(0, 9, 12, 13)] :: ([.classLink RL 13 "java/lang/IndexOutOfBoundsException", .methodLink RL 39 yX1_wishOf, .instanceMethod yX1_wishOf, .selects RX1 yX1_wishOf yX1_wishOf, .initialized RX1, .code yX1_wishOf cX1_wishOf 2 (some .int), .fieldLink RX1 23 "RopeChoices" "wishes" "[I", .methodLink RX1 69 yX1_checkDelegate, .instanceMethod yX1_checkDelegate, .selects RX1 yX1_checkDelegate yX1_checkDelegate, .code yX1_checkDelegate cX1_checkDelegate 2 none, .classLink RX1 232 "java/lang/IndexOutOfBoundsException", .initialized "java/lang/IndexOutOfBoundsException", .fieldLink RX1 7 "RopeChoices" "count" "I"] ++ wsX10 ++ (vx_atS RX1 236 "java/lang/IndexOutOfBoundsException" ["java/lang/RuntimeException", "java/lang/Exception"]).filter goodWord)
def wsL_reachOf : List Cond := .codeWith yL_reachOf cL_reachOf 4 (some .int) [(0, 9, 12, 13)] :: ([.classLink RL 13 "java/lang/IndexOutOfBoundsException", .methodLink RL 42 yX1_reachOf, .instanceMethod yX1_reachOf, .selects RX1 yX1_reachOf yX1_reachOf, .initialized RX1, .code yX1_reachOf cX1_reachOf 2 (some .int), .fieldLink RX1 26 "RopeChoices" "reaches" "[I", .methodLink RX1 69 yX1_checkDelegate, .instanceMethod yX1_checkDelegate, .selects RX1 yX1_checkDelegate yX1_checkDelegate, .code yX1_checkDelegate cX1_checkDelegate 2 none, .classLink RX1 232 "java/lang/IndexOutOfBoundsException", .initialized "java/lang/IndexOutOfBoundsException", .fieldLink RX1 7 "RopeChoices" "count" "I"] ++ wsX10 ++ (vx_atS RX1 236 "java/lang/IndexOutOfBoundsException" ["java/lang/RuntimeException", "java/lang/Exception"]).filter goodWord)
def wsL_paceOf : List Cond := .codeWith yL_paceOf cL_paceOf 4 (some .int) [(0, 9, 12, 13)] :: ([.classLink RL 13 "java/lang/IndexOutOfBoundsException", .methodLink RL 45 yX1_paceOf, .instanceMethod yX1_paceOf, .selects RX1 yX1_paceOf yX1_paceOf, .initialized RX1, .code yX1_paceOf cX1_paceOf 2 (some .int), .fieldLink RX1 29 "RopeChoices" "paces" "[I", .methodLink RX1 69 yX1_checkDelegate, .instanceMethod yX1_checkDelegate, .selects RX1 yX1_checkDelegate yX1_checkDelegate, .code yX1_checkDelegate cX1_checkDelegate 2 none, .classLink RX1 232 "java/lang/IndexOutOfBoundsException", .initialized "java/lang/IndexOutOfBoundsException", .fieldLink RX1 7 "RopeChoices" "count" "I"] ++ wsX10 ++ (vx_atS RX1 236 "java/lang/IndexOutOfBoundsException" ["java/lang/RuntimeException", "java/lang/Exception"]).filter goodWord)
def wsL_plankOf : List Cond := .codeWith yL_plankOf cL_plankOf 4 (some .int) [(0, 9, 12, 13)] :: ([.classLink RL 13 "java/lang/IndexOutOfBoundsException", .methodLink RL 48 yX1_plankOf, .instanceMethod yX1_plankOf, .selects RX1 yX1_plankOf yX1_plankOf, .initialized RX1, .code yX1_plankOf cX1_plankOf 2 (some .int), .fieldLink RX1 32 "RopeChoices" "planks" "[I", .methodLink RX1 69 yX1_checkDelegate, .instanceMethod yX1_checkDelegate, .selects RX1 yX1_checkDelegate yX1_checkDelegate, .code yX1_checkDelegate cX1_checkDelegate 2 none, .classLink RX1 232 "java/lang/IndexOutOfBoundsException", .initialized "java/lang/IndexOutOfBoundsException", .fieldLink RX1 7 "RopeChoices" "count" "I"] ++ wsX10 ++ (vx_atS RX1 236 "java/lang/IndexOutOfBoundsException" ["java/lang/RuntimeException", "java/lang/Exception"]).filter goodWord)
def wsL_standingOn : List Cond := .codeWith yL_standingOn cL_standingOn 4 (some .int) [(0, 9, 12, 13)] :: ([.classLink RL 13 "java/lang/IndexOutOfBoundsException", .methodLink RL 51 yX1_standingOn, .instanceMethod yX1_standingOn, .selects RX1 yX1_standingOn yX1_standingOn, .initialized RX1, .code yX1_standingOn cX1_standingOn 2 (some .int), .fieldLink RX1 32 "RopeChoices" "planks" "[I", .methodLink RX1 49 yX1_checkPlank, .static yX1_checkPlank, .code yX1_checkPlank cX1_checkPlank 1 none, .classLink RX1 232 "java/lang/IndexOutOfBoundsException", .initialized "java/lang/IndexOutOfBoundsException", .methodLink RX1 97 yX1_crowdOn, .instanceMethod yX1_crowdOn, .selects RX1 yX1_crowdOn yX1_crowdOn, .code yX1_crowdOn cX1_crowdOn 5 (some .int), .fieldLink RX1 7 "RopeChoices" "count" "I"] ++ wsX10 ++ (vx_atS RX1 236 "java/lang/IndexOutOfBoundsException" ["java/lang/RuntimeException", "java/lang/Exception"]).filter goodWord)
def wsL_compromise_r1 : List Cond := [Cond.classLink RL 17 "java/lang/IllegalStateException", Cond.methodLink RL 54 yX1_compromise, Cond.instanceMethod yX1_compromise, Cond.selects RX1 yX1_compromise yX1_compromise, Cond.initialized RX1, Cond.code yX1_compromise cX1_compromise 1 (some .int), Cond.fieldLink RX1 32 "RopeChoices" "planks" "[I", Cond.methodLink RX1 108 yX1_checkSomeoneThere, Cond.instanceMethod yX1_checkSomeoneThere, Cond.selects RX1 yX1_checkSomeoneThere yX1_checkSomeoneThere, Cond.code yX1_checkSomeoneThere cX1_checkSomeoneThere 1 none, Cond.classLink RX1 56 "java/lang/IllegalStateException", Cond.initialized "java/lang/IllegalStateException", Cond.fieldLink RX1 7 "RopeChoices" "count" "I", Cond.methodLink RX1 111 yX1_middleOfAll, Cond.instanceMethod yX1_middleOfAll, Cond.selects RX1 yX1_middleOfAll yX1_middleOfAll, Cond.code yX1_middleOfAll cX1_middleOfAll 3 (some .int), Cond.fieldLink RX1 41 "RopeChoices" "row" "LRopeChoices$PlankRow;", Cond.methodLink RX1 266 yX0_empty, Cond.instanceMethod yX0_empty, Cond.selects RX0 yX0_empty yX0_empty, Cond.initialized RX0, Cond.code yX0_empty cX0_empty 1 none]
def wsL_compromise_r2 : List Cond := [Cond.fieldLink RX0 15 "RopeChoices$PlankRow" "length" "I", Cond.methodLink RX1 269 yX0_put, Cond.instanceMethod yX0_put, Cond.selects RX0 yX0_put yX0_put, Cond.code yX0_put cX0_put 3 none, Cond.fieldLink RX0 9 "RopeChoices$PlankRow" "sorted" "[I", Cond.methodLink RX1 123 yX0_middle, Cond.instanceMethod yX0_middle, Cond.selects RX0 yX0_middle yX0_middle, Cond.code yX0_middle cX0_middle 1 (some .int)]
def wsL_compromise : List Cond := .codeWith yL_compromise cL_compromise 3 (some .int) [(0, 8, 11, 17)] :: ((wsL_compromise_r1 ++ wsL_compromise_r2) ++ wsX10 ++ wsX00 ++ (vx_atS RX1 60 "java/lang/IllegalStateException" ["java/lang/RuntimeException", "java/lang/Exception"]).filter goodWord)
def wsL_compromiseOf_r1 : List Cond := [Cond.classLink RL 13 "java/lang/IndexOutOfBoundsException", Cond.classLink RL 17 "java/lang/IllegalStateException", Cond.methodLink RL 58 yX1_compromiseOf, Cond.instanceMethod yX1_compromiseOf, Cond.selects RX1 yX1_compromiseOf yX1_compromiseOf, Cond.initialized RX1, Cond.code yX1_compromiseOf cX1_compromiseOf 2 (some .int), Cond.classLink RX1 56 "java/lang/IllegalStateException", Cond.initialized "java/lang/IllegalStateException", Cond.fieldLink RX1 41 "RopeChoices" "row" "LRopeChoices$PlankRow;", Cond.methodLink RX1 45 yX1_checkVillage, Cond.static yX1_checkVillage, Cond.code yX1_checkVillage cX1_checkVillage 1 none, Cond.classLink RX1 232 "java/lang/IndexOutOfBoundsException", Cond.initialized "java/lang/IndexOutOfBoundsException", Cond.methodLink RX1 114 yX1_gatherVillage, Cond.instanceMethod yX1_gatherVillage, Cond.selects RX1 yX1_gatherVillage yX1_gatherVillage, Cond.code yX1_gatherVillage cX1_gatherVillage 3 none, Cond.fieldLink RX1 7 "RopeChoices" "count" "I", Cond.fieldLink RX1 19 "RopeChoices" "villages" "[I", Cond.fieldLink RX1 32 "RopeChoices" "planks" "[I", Cond.methodLink RX1 266 yX0_empty, Cond.instanceMethod yX0_empty]
def wsL_compromiseOf_r2 : List Cond := [Cond.selects RX0 yX0_empty yX0_empty, Cond.initialized RX0, Cond.code yX0_empty cX0_empty 1 none, Cond.fieldLink RX0 15 "RopeChoices$PlankRow" "length" "I", Cond.methodLink RX1 269 yX0_put, Cond.instanceMethod yX0_put, Cond.selects RX0 yX0_put yX0_put, Cond.code yX0_put cX0_put 3 none, Cond.fieldLink RX0 9 "RopeChoices$PlankRow" "sorted" "[I", Cond.methodLink RX1 117 yX0_isBare, Cond.instanceMethod yX0_isBare, Cond.selects RX0 yX0_isBare yX0_isBare, Cond.code yX0_isBare cX0_isBare 1 (some .boolean), Cond.methodLink RX1 123 yX0_middle, Cond.instanceMethod yX0_middle, Cond.selects RX0 yX0_middle yX0_middle, Cond.code yX0_middle cX0_middle 1 (some .int)]
def wsL_compromiseOf : List Cond := .codeWith yL_compromiseOf cL_compromiseOf 4 (some .int) [(0, 9, 12, 13), (0, 9, 15, 17)] :: ((wsL_compromiseOf_r1 ++ wsL_compromiseOf_r2) ++ wsX10 ++ wsX00 ++ (vx_atS RX1 60 "java/lang/IllegalStateException" ["java/lang/RuntimeException", "java/lang/Exception"]).filter goodWord ++ (vx_atS RX1 236 "java/lang/IndexOutOfBoundsException" ["java/lang/RuntimeException", "java/lang/Exception"]).filter goodWord)
def wsL_compromiseWithout_r1 : List Cond := [Cond.classLink RL 13 "java/lang/IndexOutOfBoundsException", Cond.classLink RL 17 "java/lang/IllegalStateException", Cond.methodLink RL 61 yX1_compromiseWithout, Cond.instanceMethod yX1_compromiseWithout, Cond.selects RX1 yX1_compromiseWithout yX1_compromiseWithout, Cond.initialized RX1, Cond.code yX1_compromiseWithout cX1_compromiseWithout 2 (some .int), Cond.classLink RX1 56 "java/lang/IllegalStateException", Cond.initialized "java/lang/IllegalStateException", Cond.fieldLink RX1 41 "RopeChoices" "row" "LRopeChoices$PlankRow;", Cond.methodLink RX1 69 yX1_checkDelegate, Cond.instanceMethod yX1_checkDelegate, Cond.selects RX1 yX1_checkDelegate yX1_checkDelegate, Cond.code yX1_checkDelegate cX1_checkDelegate 2 none, Cond.classLink RX1 232 "java/lang/IndexOutOfBoundsException", Cond.initialized "java/lang/IndexOutOfBoundsException", Cond.fieldLink RX1 7 "RopeChoices" "count" "I", Cond.methodLink RX1 127 yX1_gatherOthers, Cond.instanceMethod yX1_gatherOthers, Cond.selects RX1 yX1_gatherOthers yX1_gatherOthers, Cond.code yX1_gatherOthers cX1_gatherOthers 3 none, Cond.fieldLink RX1 32 "RopeChoices" "planks" "[I", Cond.methodLink RX1 266 yX0_empty, Cond.instanceMethod yX0_empty]
def wsL_compromiseWithout_r2 : List Cond := [Cond.selects RX0 yX0_empty yX0_empty, Cond.initialized RX0, Cond.code yX0_empty cX0_empty 1 none, Cond.fieldLink RX0 15 "RopeChoices$PlankRow" "length" "I", Cond.methodLink RX1 269 yX0_put, Cond.instanceMethod yX0_put, Cond.selects RX0 yX0_put yX0_put, Cond.code yX0_put cX0_put 3 none, Cond.fieldLink RX0 9 "RopeChoices$PlankRow" "sorted" "[I", Cond.methodLink RX1 117 yX0_isBare, Cond.instanceMethod yX0_isBare, Cond.selects RX0 yX0_isBare yX0_isBare, Cond.code yX0_isBare cX0_isBare 1 (some .boolean), Cond.methodLink RX1 123 yX0_middle, Cond.instanceMethod yX0_middle, Cond.selects RX0 yX0_middle yX0_middle, Cond.code yX0_middle cX0_middle 1 (some .int)]
def wsL_compromiseWithout : List Cond := .codeWith yL_compromiseWithout cL_compromiseWithout 4 (some .int) [(0, 9, 12, 13), (0, 9, 15, 17)] :: ((wsL_compromiseWithout_r1 ++ wsL_compromiseWithout_r2) ++ wsX10 ++ wsX00 ++ (vx_atS RX1 60 "java/lang/IllegalStateException" ["java/lang/RuntimeException", "java/lang/Exception"]).filter goodWord ++ (vx_atS RX1 236 "java/lang/IndexOutOfBoundsException" ["java/lang/RuntimeException", "java/lang/Exception"]).filter goodWord)
def wsL_decisiveOne_r1 : List Cond := [Cond.classLink RL 17 "java/lang/IllegalStateException", Cond.methodLink RL 64 yX1_decisiveOne, Cond.instanceMethod yX1_decisiveOne, Cond.selects RX1 yX1_decisiveOne yX1_decisiveOne, Cond.initialized RX1, Cond.code yX1_decisiveOne cX1_decisiveOne 3 (some .int), Cond.fieldLink RX1 32 "RopeChoices" "planks" "[I", Cond.fieldLink RX1 7 "RopeChoices" "count" "I", Cond.methodLink RX1 108 yX1_checkSomeoneThere, Cond.instanceMethod yX1_checkSomeoneThere, Cond.selects RX1 yX1_checkSomeoneThere yX1_checkSomeoneThere, Cond.code yX1_checkSomeoneThere cX1_checkSomeoneThere 1 none, Cond.classLink RX1 56 "java/lang/IllegalStateException", Cond.initialized "java/lang/IllegalStateException", Cond.methodLink RX1 111 yX1_middleOfAll, Cond.instanceMethod yX1_middleOfAll, Cond.selects RX1 yX1_middleOfAll yX1_middleOfAll, Cond.code yX1_middleOfAll cX1_middleOfAll 3 (some .int), Cond.fieldLink RX1 41 "RopeChoices" "row" "LRopeChoices$PlankRow;", Cond.methodLink RX1 266 yX0_empty, Cond.instanceMethod yX0_empty, Cond.selects RX0 yX0_empty yX0_empty, Cond.initialized RX0, Cond.code yX0_empty cX0_empty 1 none]
def wsL_decisiveOne_r2 : List Cond := [Cond.fieldLink RX0 15 "RopeChoices$PlankRow" "length" "I", Cond.methodLink RX1 269 yX0_put, Cond.instanceMethod yX0_put, Cond.selects RX0 yX0_put yX0_put, Cond.code yX0_put cX0_put 3 none, Cond.fieldLink RX0 9 "RopeChoices$PlankRow" "sorted" "[I", Cond.methodLink RX1 123 yX0_middle, Cond.instanceMethod yX0_middle, Cond.selects RX0 yX0_middle yX0_middle, Cond.code yX0_middle cX0_middle 1 (some .int)]
def wsL_decisiveOne : List Cond := .codeWith yL_decisiveOne cL_decisiveOne 3 (some .int) [(0, 8, 11, 17)] :: ((wsL_decisiveOne_r1 ++ wsL_decisiveOne_r2) ++ wsX10 ++ wsX00 ++ (vx_atS RX1 60 "java/lang/IllegalStateException" ["java/lang/RuntimeException", "java/lang/Exception"]).filter goodWord)
def wsL_discontentOf_r1 : List Cond := [Cond.classLink RL 13 "java/lang/IndexOutOfBoundsException", Cond.methodLink RL 67 yX1_discontentOf, Cond.instanceMethod yX1_discontentOf, Cond.selects RX1 yX1_discontentOf yX1_discontentOf, Cond.initialized RX1, Cond.code yX1_discontentOf cX1_discontentOf 2 (some .int), Cond.fieldLink RX1 32 "RopeChoices" "planks" "[I", Cond.methodLink RX1 69 yX1_checkDelegate, Cond.instanceMethod yX1_checkDelegate, Cond.selects RX1 yX1_checkDelegate yX1_checkDelegate, Cond.code yX1_checkDelegate cX1_checkDelegate 2 none, Cond.classLink RX1 232 "java/lang/IndexOutOfBoundsException", Cond.initialized "java/lang/IndexOutOfBoundsException", Cond.fieldLink RX1 7 "RopeChoices" "count" "I", Cond.methodLink RX1 111 yX1_middleOfAll, Cond.instanceMethod yX1_middleOfAll, Cond.selects RX1 yX1_middleOfAll yX1_middleOfAll, Cond.code yX1_middleOfAll cX1_middleOfAll 3 (some .int), Cond.fieldLink RX1 41 "RopeChoices" "row" "LRopeChoices$PlankRow;", Cond.methodLink RX1 266 yX0_empty, Cond.instanceMethod yX0_empty, Cond.selects RX0 yX0_empty yX0_empty, Cond.initialized RX0, Cond.code yX0_empty cX0_empty 1 none]
def wsL_discontentOf_r2 : List Cond := [Cond.fieldLink RX0 15 "RopeChoices$PlankRow" "length" "I", Cond.methodLink RX1 269 yX0_put, Cond.instanceMethod yX0_put, Cond.selects RX0 yX0_put yX0_put, Cond.code yX0_put cX0_put 3 none, Cond.fieldLink RX0 9 "RopeChoices$PlankRow" "sorted" "[I", Cond.methodLink RX1 123 yX0_middle, Cond.instanceMethod yX0_middle, Cond.selects RX0 yX0_middle yX0_middle, Cond.code yX0_middle cX0_middle 1 (some .int), Cond.methodLink RX1 132 yX1_discontent, Cond.instanceMethod yX1_discontent, Cond.selects RX1 yX1_discontent yX1_discontent, Cond.code yX1_discontent cX1_discontent 3 (some .int), Cond.fieldLink RX1 23 "RopeChoices" "wishes" "[I", Cond.methodLink RX1 251 Lib.Math.abs.name, Cond.static Lib.Math.abs.name, Cond.initialized "java/lang/Math", Cond.code Lib.Math.abs.name Lib.Math.abs.code 1 (some .int)]
def wsL_discontentOf : List Cond := .codeWith yL_discontentOf cL_discontentOf 4 (some .int) [(0, 9, 12, 13)] :: ((wsL_discontentOf_r1 ++ wsL_discontentOf_r2) ++ wsX10 ++ wsX00 ++ (vx_atS RX1 236 "java/lang/IndexOutOfBoundsException" ["java/lang/RuntimeException", "java/lang/Exception"]).filter goodWord)
def wsL_bestPlank_r1 : List Cond := [Cond.classLink RL 17 "java/lang/IllegalStateException", Cond.methodLink RL 70 yX1_bestPlank, Cond.instanceMethod yX1_bestPlank, Cond.selects RX1 yX1_bestPlank yX1_bestPlank, Cond.initialized RX1, Cond.code yX1_bestPlank cX1_bestPlank 5 (some .int), Cond.methodLink RX1 108 yX1_checkSomeoneThere, Cond.instanceMethod yX1_checkSomeoneThere, Cond.selects RX1 yX1_checkSomeoneThere yX1_checkSomeoneThere, Cond.code yX1_checkSomeoneThere cX1_checkSomeoneThere 1 none, Cond.classLink RX1 56 "java/lang/IllegalStateException", Cond.initialized "java/lang/IllegalStateException", Cond.fieldLink RX1 7 "RopeChoices" "count" "I", Cond.methodLink RX1 136 yX1_discontentOfAll, Cond.instanceMethod yX1_discontentOfAll, Cond.selects RX1 yX1_discontentOfAll yX1_discontentOfAll, Cond.code yX1_discontentOfAll cX1_discontentOfAll 4 (some .int), Cond.methodLink RX1 132 yX1_discontent, Cond.instanceMethod yX1_discontent, Cond.selects RX1 yX1_discontent yX1_discontent, Cond.code yX1_discontent cX1_discontent 3 (some .int), Cond.fieldLink RX1 23 "RopeChoices" "wishes" "[I", Cond.methodLink RX1 251 Lib.Math.abs.name, Cond.static Lib.Math.abs.name]
def wsL_bestPlank_r2 : List Cond := [Cond.initialized "java/lang/Math", Cond.code Lib.Math.abs.name Lib.Math.abs.code 1 (some .int)]
def wsL_bestPlank : List Cond := .codeWith yL_bestPlank cL_bestPlank 3 (some .int) [(0, 8, 11, 17)] :: ((wsL_bestPlank_r1 ++ wsL_bestPlank_r2) ++ wsX10 ++ (vx_atS RX1 60 "java/lang/IllegalStateException" ["java/lang/RuntimeException", "java/lang/Exception"]).filter goodWord)
def wsL_votesFor_r1 : List Cond := [Cond.classLink RL 13 "java/lang/IndexOutOfBoundsException", Cond.classLink RL 15 "java/lang/IllegalArgumentException", Cond.methodLink RL 73 yX1_votesFor, Cond.instanceMethod yX1_votesFor, Cond.selects RX1 yX1_votesFor yX1_votesFor, Cond.initialized RX1, Cond.code yX1_votesFor cX1_votesFor 3 (some .int), Cond.methodLink RX1 140 yX1_checkTwoPlanks, Cond.static yX1_checkTwoPlanks, Cond.code yX1_checkTwoPlanks cX1_checkTwoPlanks 2 none, Cond.classLink RX1 85 "java/lang/IllegalArgumentException", Cond.initialized "java/lang/IllegalArgumentException", Cond.methodLink RX1 49 yX1_checkPlank, Cond.static yX1_checkPlank, Cond.code yX1_checkPlank cX1_checkPlank 1 none, Cond.classLink RX1 232 "java/lang/IndexOutOfBoundsException", Cond.initialized "java/lang/IndexOutOfBoundsException", Cond.methodLink RX1 143 yX1_countVotes, Cond.instanceMethod yX1_countVotes, Cond.selects RX1 yX1_countVotes yX1_countVotes, Cond.code yX1_countVotes cX1_countVotes 5 (some .int), Cond.fieldLink RX1 7 "RopeChoices" "count" "I", Cond.methodLink RX1 132 yX1_discontent, Cond.instanceMethod yX1_discontent]
def wsL_votesFor_r2 : List Cond := [Cond.selects RX1 yX1_discontent yX1_discontent, Cond.code yX1_discontent cX1_discontent 3 (some .int), Cond.fieldLink RX1 23 "RopeChoices" "wishes" "[I", Cond.methodLink RX1 251 Lib.Math.abs.name, Cond.static Lib.Math.abs.name, Cond.initialized "java/lang/Math", Cond.code Lib.Math.abs.name Lib.Math.abs.code 1 (some .int)]
def wsL_votesFor : List Cond := .codeWith yL_votesFor cL_votesFor 5 (some .int) [(0, 10, 13, 13), (0, 10, 17, 15)] :: ((wsL_votesFor_r1 ++ wsL_votesFor_r2) ++ wsX10 ++ (vx_atS RX1 89 "java/lang/IllegalArgumentException" ["java/lang/RuntimeException", "java/lang/Exception"]).filter goodWord ++ (vx_atS RX1 236 "java/lang/IndexOutOfBoundsException" ["java/lang/RuntimeException", "java/lang/Exception"]).filter goodWord)
def wsL_winnerOf_r1 : List Cond := [Cond.classLink RL 13 "java/lang/IndexOutOfBoundsException", Cond.classLink RL 15 "java/lang/IllegalArgumentException", Cond.methodLink RL 76 yX1_winnerOf, Cond.instanceMethod yX1_winnerOf, Cond.selects RX1 yX1_winnerOf yX1_winnerOf, Cond.initialized RX1, Cond.code yX1_winnerOf cX1_winnerOf 5 (some .int), Cond.methodLink RX1 146 Lib.Math.min.name, Cond.static Lib.Math.min.name, Cond.initialized "java/lang/Math", Cond.code Lib.Math.min.name Lib.Math.min.code 2 (some .int), Cond.methodLink RX1 140 yX1_checkTwoPlanks, Cond.static yX1_checkTwoPlanks, Cond.code yX1_checkTwoPlanks cX1_checkTwoPlanks 2 none, Cond.classLink RX1 85 "java/lang/IllegalArgumentException", Cond.initialized "java/lang/IllegalArgumentException", Cond.methodLink RX1 49 yX1_checkPlank, Cond.static yX1_checkPlank, Cond.code yX1_checkPlank cX1_checkPlank 1 none, Cond.classLink RX1 232 "java/lang/IndexOutOfBoundsException", Cond.initialized "java/lang/IndexOutOfBoundsException", Cond.methodLink RX1 143 yX1_countVotes, Cond.instanceMethod yX1_countVotes, Cond.selects RX1 yX1_countVotes yX1_countVotes]
def wsL_winnerOf_r2 : List Cond := [Cond.code yX1_countVotes cX1_countVotes 5 (some .int), Cond.fieldLink RX1 7 "RopeChoices" "count" "I", Cond.methodLink RX1 132 yX1_discontent, Cond.instanceMethod yX1_discontent, Cond.selects RX1 yX1_discontent yX1_discontent, Cond.code yX1_discontent cX1_discontent 3 (some .int), Cond.fieldLink RX1 23 "RopeChoices" "wishes" "[I", Cond.methodLink RX1 251 Lib.Math.abs.name, Cond.static Lib.Math.abs.name, Cond.code Lib.Math.abs.name Lib.Math.abs.code 1 (some .int)]
def wsL_winnerOf : List Cond := .codeWith yL_winnerOf cL_winnerOf 5 (some .int) [(0, 10, 13, 13), (0, 10, 17, 15)] :: ((wsL_winnerOf_r1 ++ wsL_winnerOf_r2) ++ wsX10 ++ (vx_atS RX1 89 "java/lang/IllegalArgumentException" ["java/lang/RuntimeException", "java/lang/Exception"]).filter goodWord ++ (vx_atS RX1 236 "java/lang/IndexOutOfBoundsException" ["java/lang/RuntimeException", "java/lang/Exception"]).filter goodWord)
def wsL_canLeadTo_r1 : List Cond := [Cond.classLink RL 13 "java/lang/IndexOutOfBoundsException", Cond.methodLink RL 79 yX1_canLeadTo, Cond.instanceMethod yX1_canLeadTo, Cond.selects RX1 yX1_canLeadTo yX1_canLeadTo, Cond.initialized RX1, Cond.code yX1_canLeadTo cX1_canLeadTo 3 (some .boolean), Cond.methodLink RX1 69 yX1_checkDelegate, Cond.instanceMethod yX1_checkDelegate, Cond.selects RX1 yX1_checkDelegate yX1_checkDelegate, Cond.code yX1_checkDelegate cX1_checkDelegate 2 none, Cond.classLink RX1 232 "java/lang/IndexOutOfBoundsException", Cond.initialized "java/lang/IndexOutOfBoundsException", Cond.fieldLink RX1 7 "RopeChoices" "count" "I", Cond.methodLink RX1 49 yX1_checkPlank, Cond.static yX1_checkPlank, Cond.code yX1_checkPlank cX1_checkPlank 1 none, Cond.methodLink RX1 76 yX1_isWilling, Cond.instanceMethod yX1_isWilling, Cond.selects RX1 yX1_isWilling yX1_isWilling, Cond.code yX1_isWilling cX1_isWilling 3 (some .boolean), Cond.fieldLink RX1 26 "RopeChoices" "reaches" "[I", Cond.methodLink RX1 132 yX1_discontent, Cond.instanceMethod yX1_discontent, Cond.selects RX1 yX1_discontent yX1_discontent]
def wsL_canLeadTo_r2 : List Cond := [Cond.code yX1_discontent cX1_discontent 3 (some .int), Cond.fieldLink RX1 23 "RopeChoices" "wishes" "[I", Cond.methodLink RX1 251 Lib.Math.abs.name, Cond.static Lib.Math.abs.name, Cond.initialized "java/lang/Math", Cond.code Lib.Math.abs.name Lib.Math.abs.code 1 (some .int), Cond.methodLink RX1 82 yX1_hasPlaceFor, Cond.instanceMethod yX1_hasPlaceFor, Cond.selects RX1 yX1_hasPlaceFor yX1_hasPlaceFor, Cond.code yX1_hasPlaceFor cX1_hasPlaceFor 3 (some .boolean), Cond.fieldLink RX1 32 "RopeChoices" "planks" "[I", Cond.methodLink RX1 63 yX1_hasRoom, Cond.instanceMethod yX1_hasRoom, Cond.selects RX1 yX1_hasRoom yX1_hasRoom, Cond.code yX1_hasRoom cX1_hasRoom 3 (some .boolean), Cond.fieldLink RX1 16 "RopeChoices" "plankStrength" "I", Cond.methodLink RX1 97 yX1_crowdOn, Cond.instanceMethod yX1_crowdOn, Cond.selects RX1 yX1_crowdOn yX1_crowdOn, Cond.code yX1_crowdOn cX1_crowdOn 5 (some .int)]
def wsL_canLeadTo : List Cond := .codeWith yL_canLeadTo cL_canLeadTo 5 (some .int) [(0, 17, 20, 13)] :: ((wsL_canLeadTo_r1 ++ wsL_canLeadTo_r2) ++ wsX10 ++ (vx_atS RX1 236 "java/lang/IndexOutOfBoundsException" ["java/lang/RuntimeException", "java/lang/Exception"]).filter goodWord)
def wsL_wouldStepTo_r1 : List Cond := [Cond.classLink RL 13 "java/lang/IndexOutOfBoundsException", Cond.methodLink RL 83 yX1_wouldStepTo, Cond.instanceMethod yX1_wouldStepTo, Cond.selects RX1 yX1_wouldStepTo yX1_wouldStepTo, Cond.initialized RX1, Cond.code yX1_wouldStepTo cX1_wouldStepTo 2 (some .int), Cond.fieldLink RX1 32 "RopeChoices" "planks" "[I", Cond.methodLink RX1 69 yX1_checkDelegate, Cond.instanceMethod yX1_checkDelegate, Cond.selects RX1 yX1_checkDelegate yX1_checkDelegate, Cond.code yX1_checkDelegate cX1_checkDelegate 2 none, Cond.classLink RX1 232 "java/lang/IndexOutOfBoundsException", Cond.initialized "java/lang/IndexOutOfBoundsException", Cond.fieldLink RX1 7 "RopeChoices" "count" "I", Cond.methodLink RX1 111 yX1_middleOfAll, Cond.instanceMethod yX1_middleOfAll, Cond.selects RX1 yX1_middleOfAll yX1_middleOfAll, Cond.code yX1_middleOfAll cX1_middleOfAll 3 (some .int), Cond.fieldLink RX1 41 "RopeChoices" "row" "LRopeChoices$PlankRow;", Cond.methodLink RX1 266 yX0_empty, Cond.instanceMethod yX0_empty, Cond.selects RX0 yX0_empty yX0_empty, Cond.initialized RX0, Cond.code yX0_empty cX0_empty 1 none]
def wsL_wouldStepTo_r2 : List Cond := [Cond.fieldLink RX0 15 "RopeChoices$PlankRow" "length" "I", Cond.methodLink RX1 269 yX0_put, Cond.instanceMethod yX0_put, Cond.selects RX0 yX0_put yX0_put, Cond.code yX0_put cX0_put 3 none, Cond.fieldLink RX0 9 "RopeChoices$PlankRow" "sorted" "[I", Cond.methodLink RX1 123 yX0_middle, Cond.instanceMethod yX0_middle, Cond.selects RX0 yX0_middle yX0_middle, Cond.code yX0_middle cX0_middle 1 (some .int), Cond.methodLink RX1 151 yX1_stepFrom, Cond.instanceMethod yX1_stepFrom, Cond.selects RX1 yX1_stepFrom yX1_stepFrom, Cond.code yX1_stepFrom cX1_stepFrom 5 (some .int), Cond.fieldLink RX1 29 "RopeChoices" "paces" "[I", Cond.methodLink RX1 254 yX1_nearestWillingPlank, Cond.instanceMethod yX1_nearestWillingPlank, Cond.selects RX1 yX1_nearestWillingPlank yX1_nearestWillingPlank, Cond.code yX1_nearestWillingPlank cX1_nearestWillingPlank 4 (some .int), Cond.fieldLink RX1 23 "RopeChoices" "wishes" "[I", Cond.fieldLink RX1 26 "RopeChoices" "reaches" "[I", Cond.methodLink RX1 257 yX1_cutTo, Cond.static yX1_cutTo, Cond.code yX1_cutTo cX1_cutTo 3 (some .int)]
def wsL_wouldStepTo_r3 : List Cond := [Cond.methodLink RX1 146 Lib.Math.min.name, Cond.static Lib.Math.min.name, Cond.initialized "java/lang/Math", Cond.code Lib.Math.min.name Lib.Math.min.code 2 (some .int), Cond.methodLink RX1 260 Lib.Math.max.name, Cond.static Lib.Math.max.name, Cond.code Lib.Math.max.name Lib.Math.max.code 2 (some .int)]
def wsL_wouldStepTo : List Cond := .codeWith yL_wouldStepTo cL_wouldStepTo 4 (some .int) [(0, 9, 12, 13)] :: ((wsL_wouldStepTo_r1 ++ (wsL_wouldStepTo_r2 ++ wsL_wouldStepTo_r3)) ++ wsX10 ++ wsX00 ++ (vx_atS RX1 236 "java/lang/IndexOutOfBoundsException" ["java/lang/RuntimeException", "java/lang/Exception"]).filter goodWord)
def wsL_plankIn_r1 : List Cond := [Cond.classLink RL 13 "java/lang/IndexOutOfBoundsException", Cond.classLink RL 15 "java/lang/IllegalArgumentException", Cond.methodLink RL 86 yX1_plankIn, Cond.instanceMethod yX1_plankIn, Cond.selects RX1 yX1_plankIn yX1_plankIn, Cond.initialized RX1, Cond.code yX1_plankIn cX1_plankIn 3 (some .int), Cond.fieldLink RX1 35 "RopeChoices" "laterPlanks" "[I", Cond.methodLink RX1 69 yX1_checkDelegate, Cond.instanceMethod yX1_checkDelegate, Cond.selects RX1 yX1_checkDelegate yX1_checkDelegate, Cond.code yX1_checkDelegate cX1_checkDelegate 2 none, Cond.classLink RX1 232 "java/lang/IndexOutOfBoundsException", Cond.initialized "java/lang/IndexOutOfBoundsException", Cond.fieldLink RX1 7 "RopeChoices" "count" "I", Cond.methodLink RX1 90 yX1_checkRounds, Cond.static yX1_checkRounds, Cond.code yX1_checkRounds cX1_checkRounds 1 none, Cond.classLink RX1 85 "java/lang/IllegalArgumentException", Cond.initialized "java/lang/IllegalArgumentException", Cond.methodLink RX1 155 yX1_copyPlanksToLater, Cond.instanceMethod yX1_copyPlanksToLater, Cond.selects RX1 yX1_copyPlanksToLater yX1_copyPlanksToLater, Cond.code yX1_copyPlanksToLater cX1_copyPlanksToLater 2 none]
def wsL_plankIn_r2 : List Cond := [Cond.fieldLink RX1 32 "RopeChoices" "planks" "[I", Cond.methodLink RX1 93 yX1_goRounds, Cond.instanceMethod yX1_goRounds, Cond.selects RX1 yX1_goRounds yX1_goRounds, Cond.code yX1_goRounds cX1_goRounds 5 (some .int), Cond.methodLink RX1 158 yX1_goRound, Cond.instanceMethod yX1_goRound, Cond.selects RX1 yX1_goRound yX1_goRound, Cond.code yX1_goRound cX1_goRound 6 (some .int), Cond.methodLink RX1 111 yX1_middleOfAll, Cond.instanceMethod yX1_middleOfAll, Cond.selects RX1 yX1_middleOfAll yX1_middleOfAll, Cond.code yX1_middleOfAll cX1_middleOfAll 3 (some .int), Cond.fieldLink RX1 41 "RopeChoices" "row" "LRopeChoices$PlankRow;", Cond.methodLink RX1 266 yX0_empty, Cond.instanceMethod yX0_empty, Cond.selects RX0 yX0_empty yX0_empty, Cond.initialized RX0, Cond.code yX0_empty cX0_empty 1 none, Cond.fieldLink RX0 15 "RopeChoices$PlankRow" "length" "I", Cond.methodLink RX1 269 yX0_put, Cond.instanceMethod yX0_put, Cond.selects RX0 yX0_put yX0_put, Cond.code yX0_put cX0_put 3 none]
def wsL_plankIn_r3 : List Cond := [Cond.fieldLink RX0 9 "RopeChoices$PlankRow" "sorted" "[I", Cond.methodLink RX1 123 yX0_middle, Cond.instanceMethod yX0_middle, Cond.selects RX0 yX0_middle yX0_middle, Cond.code yX0_middle cX0_middle 1 (some .int), Cond.methodLink RX1 151 yX1_stepFrom, Cond.instanceMethod yX1_stepFrom, Cond.selects RX1 yX1_stepFrom yX1_stepFrom, Cond.code yX1_stepFrom cX1_stepFrom 5 (some .int), Cond.fieldLink RX1 29 "RopeChoices" "paces" "[I", Cond.methodLink RX1 254 yX1_nearestWillingPlank, Cond.instanceMethod yX1_nearestWillingPlank, Cond.selects RX1 yX1_nearestWillingPlank yX1_nearestWillingPlank, Cond.code yX1_nearestWillingPlank cX1_nearestWillingPlank 4 (some .int), Cond.fieldLink RX1 23 "RopeChoices" "wishes" "[I", Cond.fieldLink RX1 26 "RopeChoices" "reaches" "[I", Cond.methodLink RX1 257 yX1_cutTo, Cond.static yX1_cutTo, Cond.code yX1_cutTo cX1_cutTo 3 (some .int), Cond.methodLink RX1 146 Lib.Math.min.name, Cond.static Lib.Math.min.name, Cond.initialized "java/lang/Math", Cond.code Lib.Math.min.name Lib.Math.min.code 2 (some .int), Cond.methodLink RX1 260 Lib.Math.max.name]
def wsL_plankIn_r4 : List Cond := [Cond.static Lib.Math.max.name, Cond.code Lib.Math.max.name Lib.Math.max.code 2 (some .int), Cond.methodLink RX1 63 yX1_hasRoom, Cond.instanceMethod yX1_hasRoom, Cond.selects RX1 yX1_hasRoom yX1_hasRoom, Cond.code yX1_hasRoom cX1_hasRoom 3 (some .boolean), Cond.fieldLink RX1 16 "RopeChoices" "plankStrength" "I", Cond.methodLink RX1 97 yX1_crowdOn, Cond.instanceMethod yX1_crowdOn, Cond.selects RX1 yX1_crowdOn yX1_crowdOn, Cond.code yX1_crowdOn cX1_crowdOn 5 (some .int)]
def wsL_plankIn : List Cond := .codeWith yL_plankIn cL_plankIn 5 (some .int) [(0, 10, 13, 13), (0, 10, 17, 15)] :: ((wsL_plankIn_r1 ++ (wsL_plankIn_r2 ++ (wsL_plankIn_r3 ++ wsL_plankIn_r4))) ++ wsX10 ++ wsX00 ++ (vx_atS RX1 236 "java/lang/IndexOutOfBoundsException" ["java/lang/RuntimeException", "java/lang/Exception"]).filter goodWord ++ (vx_atS RX1 89 "java/lang/IllegalArgumentException" ["java/lang/RuntimeException", "java/lang/Exception"]).filter goodWord)
def wsL_compromiseIn_r1 : List Cond := [Cond.classLink RL 15 "java/lang/IllegalArgumentException", Cond.classLink RL 17 "java/lang/IllegalStateException", Cond.methodLink RL 89 yX1_compromiseIn, Cond.instanceMethod yX1_compromiseIn, Cond.selects RX1 yX1_compromiseIn yX1_compromiseIn, Cond.initialized RX1, Cond.code yX1_compromiseIn cX1_compromiseIn 2 (some .int), Cond.fieldLink RX1 35 "RopeChoices" "laterPlanks" "[I", Cond.methodLink RX1 90 yX1_checkRounds, Cond.static yX1_checkRounds, Cond.code yX1_checkRounds cX1_checkRounds 1 none, Cond.classLink RX1 85 "java/lang/IllegalArgumentException", Cond.initialized "java/lang/IllegalArgumentException", Cond.methodLink RX1 108 yX1_checkSomeoneThere, Cond.instanceMethod yX1_checkSomeoneThere, Cond.selects RX1 yX1_checkSomeoneThere yX1_checkSomeoneThere, Cond.code yX1_checkSomeoneThere cX1_checkSomeoneThere 1 none, Cond.classLink RX1 56 "java/lang/IllegalStateException", Cond.initialized "java/lang/IllegalStateException", Cond.fieldLink RX1 7 "RopeChoices" "count" "I", Cond.methodLink RX1 155 yX1_copyPlanksToLater, Cond.instanceMethod yX1_copyPlanksToLater, Cond.selects RX1 yX1_copyPlanksToLater yX1_copyPlanksToLater, Cond.code yX1_copyPlanksToLater cX1_copyPlanksToLater 2 none]
def wsL_compromiseIn_r2 : List Cond := [Cond.fieldLink RX1 32 "RopeChoices" "planks" "[I", Cond.methodLink RX1 93 yX1_goRounds, Cond.instanceMethod yX1_goRounds, Cond.selects RX1 yX1_goRounds yX1_goRounds, Cond.code yX1_goRounds cX1_goRounds 5 (some .int), Cond.methodLink RX1 158 yX1_goRound, Cond.instanceMethod yX1_goRound, Cond.selects RX1 yX1_goRound yX1_goRound, Cond.code yX1_goRound cX1_goRound 6 (some .int), Cond.methodLink RX1 111 yX1_middleOfAll, Cond.instanceMethod yX1_middleOfAll, Cond.selects RX1 yX1_middleOfAll yX1_middleOfAll, Cond.code yX1_middleOfAll cX1_middleOfAll 3 (some .int), Cond.fieldLink RX1 41 "RopeChoices" "row" "LRopeChoices$PlankRow;", Cond.methodLink RX1 266 yX0_empty, Cond.instanceMethod yX0_empty, Cond.selects RX0 yX0_empty yX0_empty, Cond.initialized RX0, Cond.code yX0_empty cX0_empty 1 none, Cond.fieldLink RX0 15 "RopeChoices$PlankRow" "length" "I", Cond.methodLink RX1 269 yX0_put, Cond.instanceMethod yX0_put, Cond.selects RX0 yX0_put yX0_put, Cond.code yX0_put cX0_put 3 none]
def wsL_compromiseIn_r3 : List Cond := [Cond.fieldLink RX0 9 "RopeChoices$PlankRow" "sorted" "[I", Cond.methodLink RX1 123 yX0_middle, Cond.instanceMethod yX0_middle, Cond.selects RX0 yX0_middle yX0_middle, Cond.code yX0_middle cX0_middle 1 (some .int), Cond.methodLink RX1 151 yX1_stepFrom, Cond.instanceMethod yX1_stepFrom, Cond.selects RX1 yX1_stepFrom yX1_stepFrom, Cond.code yX1_stepFrom cX1_stepFrom 5 (some .int), Cond.fieldLink RX1 29 "RopeChoices" "paces" "[I", Cond.methodLink RX1 254 yX1_nearestWillingPlank, Cond.instanceMethod yX1_nearestWillingPlank, Cond.selects RX1 yX1_nearestWillingPlank yX1_nearestWillingPlank, Cond.code yX1_nearestWillingPlank cX1_nearestWillingPlank 4 (some .int), Cond.fieldLink RX1 23 "RopeChoices" "wishes" "[I", Cond.fieldLink RX1 26 "RopeChoices" "reaches" "[I", Cond.methodLink RX1 257 yX1_cutTo, Cond.static yX1_cutTo, Cond.code yX1_cutTo cX1_cutTo 3 (some .int), Cond.methodLink RX1 146 Lib.Math.min.name, Cond.static Lib.Math.min.name, Cond.initialized "java/lang/Math", Cond.code Lib.Math.min.name Lib.Math.min.code 2 (some .int), Cond.methodLink RX1 260 Lib.Math.max.name]
def wsL_compromiseIn_r4 : List Cond := [Cond.static Lib.Math.max.name, Cond.code Lib.Math.max.name Lib.Math.max.code 2 (some .int), Cond.methodLink RX1 63 yX1_hasRoom, Cond.instanceMethod yX1_hasRoom, Cond.selects RX1 yX1_hasRoom yX1_hasRoom, Cond.code yX1_hasRoom cX1_hasRoom 3 (some .boolean), Cond.fieldLink RX1 16 "RopeChoices" "plankStrength" "I", Cond.methodLink RX1 97 yX1_crowdOn, Cond.instanceMethod yX1_crowdOn, Cond.selects RX1 yX1_crowdOn yX1_crowdOn, Cond.code yX1_crowdOn cX1_crowdOn 5 (some .int)]
def wsL_compromiseIn : List Cond := .codeWith yL_compromiseIn cL_compromiseIn 4 (some .int) [(0, 9, 12, 15), (0, 9, 15, 17)] :: ((wsL_compromiseIn_r1 ++ (wsL_compromiseIn_r2 ++ (wsL_compromiseIn_r3 ++ wsL_compromiseIn_r4))) ++ wsX10 ++ wsX00 ++ (vx_atS RX1 89 "java/lang/IllegalArgumentException" ["java/lang/RuntimeException", "java/lang/Exception"]).filter goodWord ++ (vx_atS RX1 60 "java/lang/IllegalStateException" ["java/lang/RuntimeException", "java/lang/Exception"]).filter goodWord)
def wsL_bestStand_r1 : List Cond := [Cond.classLink RL 13 "java/lang/IndexOutOfBoundsException", Cond.methodLink RL 92 yX1_bestStand, Cond.instanceMethod yX1_bestStand, Cond.selects RX1 yX1_bestStand yX1_bestStand, Cond.initialized RX1, Cond.code yX1_bestStand cX1_bestStand 6 (some .int), Cond.fieldLink RX1 41 "RopeChoices" "row" "LRopeChoices$PlankRow;", Cond.methodLink RX1 69 yX1_checkDelegate, Cond.instanceMethod yX1_checkDelegate, Cond.selects RX1 yX1_checkDelegate yX1_checkDelegate, Cond.code yX1_checkDelegate cX1_checkDelegate 2 none, Cond.classLink RX1 232 "java/lang/IndexOutOfBoundsException", Cond.initialized "java/lang/IndexOutOfBoundsException", Cond.fieldLink RX1 7 "RopeChoices" "count" "I", Cond.methodLink RX1 127 yX1_gatherOthers, Cond.instanceMethod yX1_gatherOthers, Cond.selects RX1 yX1_gatherOthers yX1_gatherOthers, Cond.code yX1_gatherOthers cX1_gatherOthers 3 none, Cond.fieldLink RX1 32 "RopeChoices" "planks" "[I", Cond.methodLink RX1 266 yX0_empty, Cond.instanceMethod yX0_empty, Cond.selects RX0 yX0_empty yX0_empty, Cond.initialized RX0, Cond.code yX0_empty cX0_empty 1 none]
def wsL_bestStand_r2 : List Cond := [Cond.fieldLink RX0 15 "RopeChoices$PlankRow" "length" "I", Cond.methodLink RX1 269 yX0_put, Cond.instanceMethod yX0_put, Cond.selects RX0 yX0_put yX0_put, Cond.code yX0_put cX0_put 3 none, Cond.fieldLink RX0 9 "RopeChoices$PlankRow" "sorted" "[I", Cond.methodLink RX1 161 yX0_middleWith, Cond.instanceMethod yX0_middleWith, Cond.selects RX0 yX0_middleWith yX0_middleWith, Cond.code yX0_middleWith cX0_middleWith 5 (some .int), Cond.static yX1_cutTo, Cond.code yX1_cutTo cX1_cutTo 3 (some .int), Cond.methodLink RX1 146 Lib.Math.min.name, Cond.static Lib.Math.min.name, Cond.initialized "java/lang/Math", Cond.code Lib.Math.min.name Lib.Math.min.code 2 (some .int), Cond.methodLink RX1 260 Lib.Math.max.name, Cond.static Lib.Math.max.name, Cond.code Lib.Math.max.name Lib.Math.max.code 2 (some .int), Cond.methodLink RX1 132 yX1_discontent, Cond.instanceMethod yX1_discontent, Cond.selects RX1 yX1_discontent yX1_discontent, Cond.code yX1_discontent cX1_discontent 3 (some .int), Cond.fieldLink RX1 23 "RopeChoices" "wishes" "[I"]
def wsL_bestStand_r3 : List Cond := [Cond.methodLink RX1 251 Lib.Math.abs.name, Cond.static Lib.Math.abs.name, Cond.code Lib.Math.abs.name Lib.Math.abs.code 1 (some .int)]
def wsL_bestStand : List Cond := .codeWith yL_bestStand cL_bestStand 4 (some .int) [(0, 9, 12, 13)] :: ((wsL_bestStand_r1 ++ (wsL_bestStand_r2 ++ wsL_bestStand_r3)) ++ wsX10 ++ wsX00 ++ (vx_atS RX1 236 "java/lang/IndexOutOfBoundsException" ["java/lang/RuntimeException", "java/lang/Exception"]).filter goodWord)
def wsL_law0_r1 : List Cond := [Cond.classLink RL 8 RX1, Cond.instantiable RX1 10, Cond.initialized RX1, Cond.classLink RL 96 RX2, Cond.instantiable RX2 11, Cond.initialized RX2, Cond.arrayClass .long, Cond.methodLink RL 95 yX1_init, Cond.instanceMethod yX1_init, Cond.code yX1_init cX1_init 1 none, Cond.methodLink RX1 1 objectInit, Cond.instanceMethod objectInit, Cond.code objectInit ⟨#[0xb1]⟩ 1 none, Cond.fieldLink RX1 7 "RopeChoices" "count" "I", Cond.fieldLink RX1 13 "RopeChoices" "roundsGone" "I", Cond.fieldLink RX1 16 "RopeChoices" "plankStrength" "I", Cond.arrayClass .int, Cond.fieldLink RX1 19 "RopeChoices" "villages" "[I", Cond.fieldLink RX1 23 "RopeChoices" "wishes" "[I", Cond.fieldLink RX1 26 "RopeChoices" "reaches" "[I", Cond.fieldLink RX1 29 "RopeChoices" "paces" "[I", Cond.fieldLink RX1 32 "RopeChoices" "planks" "[I", Cond.fieldLink RX1 35 "RopeChoices" "laterPlanks" "[I", Cond.classLink RX1 38 RX0]
def wsL_law0_r2 : List Cond := [Cond.instantiable RX0 2, Cond.initialized RX0, Cond.fieldLink RX1 41 "RopeChoices" "row" "LRopeChoices$PlankRow;", Cond.instanceMethod yX0_init, Cond.code yX0_init cX0_init 1 none, Cond.methodLink RX0 3 objectInit, Cond.fieldLink RX0 9 "RopeChoices$PlankRow" "sorted" "[I", Cond.fieldLink RX0 15 "RopeChoices$PlankRow" "length" "I", Cond.methodLink RL 98 yX2_init, Cond.instanceMethod yX2_init, Cond.code yX2_init cX2_init 1 none, Cond.methodLink RX2 1 objectInit, Cond.fieldLink RX2 7 "RopeChoicesModel" "strength" "I", Cond.fieldLink RX2 13 "RopeChoicesModel" "village" "[I", Cond.fieldLink RX2 17 "RopeChoicesModel" "wish" "[I", Cond.fieldLink RX2 20 "RopeChoicesModel" "reach" "[I", Cond.fieldLink RX2 23 "RopeChoicesModel" "pace" "[I", Cond.fieldLink RX2 26 "RopeChoicesModel" "plank" "[I", Cond.fieldLink RX2 29 "RopeChoicesModel" "kept" "[I", Cond.fieldLink RX2 32 "RopeChoicesModel" "count" "[I", Cond.methodLink RL 99 yL_send, Cond.static yL_send, Cond.initialized RL, Cond.codeWith yL_send cL_send 7 (some .int) [(0, 14, 17, 13), (0, 14, 21, 15), (0, 14, 25, 17)]]
def wsL_law0_r3 : List Cond := [Cond.classLink RL 13 "java/lang/IndexOutOfBoundsException", Cond.classLink RL 15 "java/lang/IllegalArgumentException", Cond.classLink RL 17 "java/lang/IllegalStateException", Cond.methodLink RL 7 yX1_send, Cond.instanceMethod yX1_send, Cond.selects RX1 yX1_send yX1_send, Cond.code yX1_send cX1_send 6 (some .int), Cond.classLink RX1 56 "java/lang/IllegalStateException", Cond.initialized "java/lang/IllegalStateException", Cond.methodLink RX1 45 yX1_checkVillage, Cond.static yX1_checkVillage, Cond.code yX1_checkVillage cX1_checkVillage 1 none, Cond.classLink RX1 232 "java/lang/IndexOutOfBoundsException", Cond.initialized "java/lang/IndexOutOfBoundsException", Cond.methodLink RX1 49 yX1_checkPlank, Cond.static yX1_checkPlank, Cond.code yX1_checkPlank cX1_checkPlank 1 none, Cond.methodLink RX1 52 yX1_checkReachAndPace, Cond.static yX1_checkReachAndPace, Cond.code yX1_checkReachAndPace cX1_checkReachAndPace 2 none, Cond.classLink RX1 85 "java/lang/IllegalArgumentException", Cond.initialized "java/lang/IllegalArgumentException", Cond.methodLink RX1 63 yX1_hasRoom, Cond.instanceMethod yX1_hasRoom]
def wsL_law0_r4 : List Cond := [Cond.selects RX1 yX1_hasRoom yX1_hasRoom, Cond.code yX1_hasRoom cX1_hasRoom 3 (some .boolean), Cond.methodLink RX1 97 yX1_crowdOn, Cond.instanceMethod yX1_crowdOn, Cond.selects RX1 yX1_crowdOn yX1_crowdOn, Cond.code yX1_crowdOn cX1_crowdOn 5 (some .int), Cond.methodLink RL 104 yX2_send, Cond.instanceMethod yX2_send, Cond.selects RX2 yX2_send yX2_send, Cond.code yX2_send cX2_send 5 (some .int), Cond.fieldLink RX2 35 "RopeChoicesModel" "thrown" "I", Cond.fieldLink RX2 38 "RopeChoicesModel" "many" "I", Cond.methodLink RX2 87 yX2_isVillage, Cond.static yX2_isVillage, Cond.code yX2_isVillage cX2_isVillage 1 (some .boolean), Cond.methodLink RX2 41 yX2_isIn, Cond.static yX2_isIn, Cond.code yX2_isIn cX2_isIn 3 (some .boolean), Cond.methodLink RX2 90 yX2_isPlank, Cond.static yX2_isPlank, Cond.code yX2_isPlank cX2_isPlank 1 (some .boolean), Cond.methodLink RX2 93 yX2_fail, Cond.instanceMethod yX2_fail, Cond.selects RX2 yX2_fail yX2_fail]
def wsL_law0_r5 : List Cond := [Cond.code yX2_fail cX2_fail 2 (some .int), Cond.methodLink RX2 77 yX2_hasRoom, Cond.instanceMethod yX2_hasRoom, Cond.selects RX2 yX2_hasRoom yX2_hasRoom, Cond.code yX2_hasRoom cX2_hasRoom 2 (some .boolean), Cond.methodLink RX2 51 yX2_standing, Cond.instanceMethod yX2_standing, Cond.selects RX2 yX2_standing yX2_standing, Cond.code yX2_standing cX2_standing 4 (some .int), Cond.methodLink RL 105 yX2_thrown, Cond.instanceMethod yX2_thrown, Cond.selects RX2 yX2_thrown yX2_thrown, Cond.code yX2_thrown cX2_thrown 1 (some .int), Cond.methodLink RL 108 yL_recall, Cond.static yL_recall, Cond.codeWith yL_recall cL_recall 4 (some .int) [(0, 9, 12, 13)], Cond.methodLink RL 19 yX1_recall, Cond.instanceMethod yX1_recall, Cond.selects RX1 yX1_recall yX1_recall, Cond.code yX1_recall cX1_recall 3 (some .int), Cond.methodLink RX1 69 yX1_checkDelegate, Cond.instanceMethod yX1_checkDelegate, Cond.selects RX1 yX1_checkDelegate yX1_checkDelegate, Cond.code yX1_checkDelegate cX1_checkDelegate 2 none]
def wsL_law0_r6 : List Cond := [Cond.methodLink RX1 72 yX1_closeGap, Cond.instanceMethod yX1_closeGap, Cond.selects RX1 yX1_closeGap yX1_closeGap, Cond.code yX1_closeGap cX1_closeGap 4 none, Cond.methodLink RL 111 yX2_recall, Cond.instanceMethod yX2_recall, Cond.selects RX2 yX2_recall yX2_recall, Cond.code yX2_recall cX2_recall 3 (some .int), Cond.methodLink RX2 96 yX2_isDelegate, Cond.instanceMethod yX2_isDelegate, Cond.selects RX2 yX2_isDelegate yX2_isDelegate, Cond.code yX2_isDelegate cX2_isDelegate 2 (some .boolean), Cond.methodLink RX2 99 yX2_close, Cond.static yX2_close, Cond.code yX2_close cX2_close 4 none, Cond.methodLink RL 112 yL_persuade, Cond.static yL_persuade, Cond.codeWith yL_persuade cL_persuade 5 (some .int) [(0, 10, 13, 13)], Cond.methodLink RL 23 yX1_persuade, Cond.instanceMethod yX1_persuade, Cond.selects RX1 yX1_persuade yX1_persuade, Cond.code yX1_persuade cX1_persuade 4 (some .int), Cond.methodLink RL 115 yX2_persuade, Cond.instanceMethod yX2_persuade]
def wsL_law0_r7 : List Cond := [Cond.selects RX2 yX2_persuade yX2_persuade, Cond.code yX2_persuade cX2_persuade 4 (some .int), Cond.methodLink RL 116 yL_lead, Cond.static yL_lead, Cond.codeWith yL_lead cL_lead 5 (some .int) [(0, 10, 13, 13), (0, 10, 17, 17)], Cond.methodLink RL 27 yX1_lead, Cond.instanceMethod yX1_lead, Cond.selects RX1 yX1_lead yX1_lead, Cond.code yX1_lead cX1_lead 4 (some .int), Cond.methodLink RX1 76 yX1_isWilling, Cond.instanceMethod yX1_isWilling, Cond.selects RX1 yX1_isWilling yX1_isWilling, Cond.code yX1_isWilling cX1_isWilling 3 (some .boolean), Cond.methodLink RX1 132 yX1_discontent, Cond.instanceMethod yX1_discontent, Cond.selects RX1 yX1_discontent yX1_discontent, Cond.code yX1_discontent cX1_discontent 3 (some .int), Cond.methodLink RX1 251 Lib.Math.abs.name, Cond.static Lib.Math.abs.name, Cond.initialized "java/lang/Math", Cond.code Lib.Math.abs.name Lib.Math.abs.code 1 (some .int), Cond.methodLink RX1 82 yX1_hasPlaceFor, Cond.instanceMethod yX1_hasPlaceFor, Cond.selects RX1 yX1_hasPlaceFor yX1_hasPlaceFor]
def wsL_law0_r8 : List Cond := [Cond.code yX1_hasPlaceFor cX1_hasPlaceFor 3 (some .boolean), Cond.methodLink RL 118 yX2_lead, Cond.instanceMethod yX2_lead, Cond.selects RX2 yX2_lead yX2_lead, Cond.code yX2_lead cX2_lead 4 (some .int), Cond.methodLink RX2 107 yX2_can, Cond.instanceMethod yX2_can, Cond.selects RX2 yX2_can yX2_can, Cond.code yX2_can cX2_can 3 (some .boolean), Cond.methodLink RX2 103 yX2_isWilling, Cond.instanceMethod yX2_isWilling, Cond.selects RX2 yX2_isWilling yX2_isWilling, Cond.code yX2_isWilling cX2_isWilling 3 (some .boolean), Cond.methodLink RX2 55 Lib.Math.abs.name, Cond.methodLink RL 119 yL_setStrength, Cond.static yL_setStrength, Cond.codeWith yL_setStrength cL_setStrength 4 (some .int) [(0, 9, 12, 15)], Cond.methodLink RL 30 yX1_setStrength, Cond.instanceMethod yX1_setStrength, Cond.selects RX1 yX1_setStrength yX1_setStrength, Cond.code yX1_setStrength cX1_setStrength 3 (some .int), Cond.methodLink RL 121 yX2_setStrength, Cond.instanceMethod yX2_setStrength, Cond.selects RX2 yX2_setStrength yX2_setStrength]
def wsL_law0_r9 : List Cond := [Cond.code yX2_setStrength cX2_setStrength 3 (some .int), Cond.methodLink RL 122 yL_passRounds, Cond.static yL_passRounds, Cond.codeWith yL_passRounds cL_passRounds 4 (some .int) [(0, 9, 12, 15)], Cond.methodLink RL 33 yX1_passRounds, Cond.instanceMethod yX1_passRounds, Cond.selects RX1 yX1_passRounds yX1_passRounds, Cond.code yX1_passRounds cX1_passRounds 2 (some .int), Cond.methodLink RX1 90 yX1_checkRounds, Cond.static yX1_checkRounds, Cond.code yX1_checkRounds cX1_checkRounds 1 none, Cond.methodLink RX1 93 yX1_goRounds, Cond.instanceMethod yX1_goRounds, Cond.selects RX1 yX1_goRounds yX1_goRounds, Cond.code yX1_goRounds cX1_goRounds 5 (some .int), Cond.methodLink RX1 158 yX1_goRound, Cond.instanceMethod yX1_goRound, Cond.selects RX1 yX1_goRound yX1_goRound, Cond.code yX1_goRound cX1_goRound 6 (some .int), Cond.methodLink RX1 111 yX1_middleOfAll, Cond.instanceMethod yX1_middleOfAll, Cond.selects RX1 yX1_middleOfAll yX1_middleOfAll, Cond.code yX1_middleOfAll cX1_middleOfAll 3 (some .int), Cond.methodLink RX1 266 yX0_empty]
def wsL_law0_r10 : List Cond := [Cond.instanceMethod yX0_empty, Cond.selects RX0 yX0_empty yX0_empty, Cond.code yX0_empty cX0_empty 1 none, Cond.methodLink RX1 269 yX0_put, Cond.instanceMethod yX0_put, Cond.selects RX0 yX0_put yX0_put, Cond.code yX0_put cX0_put 3 none, Cond.methodLink RX1 123 yX0_middle, Cond.instanceMethod yX0_middle, Cond.selects RX0 yX0_middle yX0_middle, Cond.code yX0_middle cX0_middle 1 (some .int), Cond.methodLink RX1 151 yX1_stepFrom, Cond.instanceMethod yX1_stepFrom, Cond.selects RX1 yX1_stepFrom yX1_stepFrom, Cond.code yX1_stepFrom cX1_stepFrom 5 (some .int), Cond.methodLink RX1 254 yX1_nearestWillingPlank, Cond.instanceMethod yX1_nearestWillingPlank, Cond.selects RX1 yX1_nearestWillingPlank yX1_nearestWillingPlank, Cond.code yX1_nearestWillingPlank cX1_nearestWillingPlank 4 (some .int), Cond.methodLink RX1 257 yX1_cutTo, Cond.static yX1_cutTo, Cond.code yX1_cutTo cX1_cutTo 3 (some .int), Cond.methodLink RX1 146 Lib.Math.min.name, Cond.static Lib.Math.min.name]
def wsL_law0_r11 : List Cond := [Cond.code Lib.Math.min.name Lib.Math.min.code 2 (some .int), Cond.methodLink RX1 260 Lib.Math.max.name, Cond.static Lib.Math.max.name, Cond.code Lib.Math.max.name Lib.Math.max.code 2 (some .int), Cond.methodLink RL 124 yX2_passRounds, Cond.instanceMethod yX2_passRounds, Cond.selects RX2 yX2_passRounds yX2_passRounds, Cond.code yX2_passRounds cX2_passRounds 4 (some .int), Cond.fieldLink RX2 110 "RopeChoicesModel" "rounds" "I", Cond.methodLink RX2 84 yX2_roundOn, Cond.instanceMethod yX2_roundOn, Cond.selects RX2 yX2_roundOn yX2_roundOn, Cond.code yX2_roundOn cX2_roundOn 5 (some .int), Cond.methodLink RX2 70 yX2_middle, Cond.instanceMethod yX2_middle, Cond.selects RX2 yX2_middle yX2_middle, Cond.code yX2_middle cX2_middle 1 (some .int), Cond.methodLink RX2 60 yX2_median, Cond.instanceMethod yX2_median, Cond.selects RX2 yX2_median yX2_median, Cond.code yX2_median cX2_median 6 (some .int), Cond.methodLink RX2 74 yX2_step, Cond.instanceMethod yX2_step, Cond.selects RX2 yX2_step yX2_step]
def wsL_law0_r12 : List Cond := [Cond.code yX2_step cX2_step 4 (some .int), Cond.methodLink RX2 64 Lib.Math.min.name, Cond.methodLink RX2 67 Lib.Math.max.name, Cond.methodLink RL 125 yX1_delegates, Cond.instanceMethod yX1_delegates, Cond.selects RX1 yX1_delegates yX1_delegates, Cond.code yX1_delegates cX1_delegates 1 (some .int), Cond.methodLink RL 128 yX2_delegates, Cond.instanceMethod yX2_delegates, Cond.selects RX2 yX2_delegates yX2_delegates, Cond.code yX2_delegates cX2_delegates 1 (some .int), Cond.methodLink RX2 113 yX2_told, Cond.instanceMethod yX2_told, Cond.selects RX2 yX2_told yX2_told, Cond.code yX2_told cX2_told 2 (some .int), Cond.methodLink RL 129 yX1_rounds, Cond.instanceMethod yX1_rounds, Cond.selects RX1 yX1_rounds yX1_rounds, Cond.code yX1_rounds cX1_rounds 1 (some .int), Cond.methodLink RL 132 yX2_rounds, Cond.instanceMethod yX2_rounds, Cond.selects RX2 yX2_rounds yX2_rounds, Cond.code yX2_rounds cX2_rounds 1 (some .int), Cond.methodLink RL 133 yX1_strength]
def wsL_law0_r13 : List Cond := [Cond.instanceMethod yX1_strength, Cond.selects RX1 yX1_strength yX1_strength, Cond.code yX1_strength cX1_strength 1 (some .int), Cond.methodLink RL 136 yX2_strength, Cond.instanceMethod yX2_strength, Cond.selects RX2 yX2_strength yX2_strength, Cond.code yX2_strength cX2_strength 1 (some .int), Cond.methodLink RL 137 yL_villageOf, Cond.static yL_villageOf, Cond.codeWith yL_villageOf cL_villageOf 4 (some .int) [(0, 9, 12, 13)], Cond.methodLink RL 36 yX1_villageOf, Cond.instanceMethod yX1_villageOf, Cond.selects RX1 yX1_villageOf yX1_villageOf, Cond.code yX1_villageOf cX1_villageOf 2 (some .int), Cond.methodLink RL 139 yX2_villageOf, Cond.instanceMethod yX2_villageOf, Cond.selects RX2 yX2_villageOf yX2_villageOf, Cond.code yX2_villageOf cX2_villageOf 2 (some .int), Cond.methodLink RX2 116 yX2_of, Cond.instanceMethod yX2_of, Cond.selects RX2 yX2_of yX2_of, Cond.code yX2_of cX2_of 3 (some .int), Cond.methodLink RL 140 yL_wishOf, Cond.static yL_wishOf]
def wsL_law0_r14 : List Cond := [Cond.codeWith yL_wishOf cL_wishOf 4 (some .int) [(0, 9, 12, 13)], Cond.methodLink RL 39 yX1_wishOf, Cond.instanceMethod yX1_wishOf, Cond.selects RX1 yX1_wishOf yX1_wishOf, Cond.code yX1_wishOf cX1_wishOf 2 (some .int), Cond.methodLink RL 142 yX2_wishOf, Cond.instanceMethod yX2_wishOf, Cond.selects RX2 yX2_wishOf yX2_wishOf, Cond.code yX2_wishOf cX2_wishOf 2 (some .int), Cond.methodLink RL 143 yL_reachOf, Cond.static yL_reachOf, Cond.codeWith yL_reachOf cL_reachOf 4 (some .int) [(0, 9, 12, 13)], Cond.methodLink RL 42 yX1_reachOf, Cond.instanceMethod yX1_reachOf, Cond.selects RX1 yX1_reachOf yX1_reachOf, Cond.code yX1_reachOf cX1_reachOf 2 (some .int), Cond.methodLink RL 145 yX2_reachOf, Cond.instanceMethod yX2_reachOf, Cond.selects RX2 yX2_reachOf yX2_reachOf, Cond.code yX2_reachOf cX2_reachOf 2 (some .int), Cond.methodLink RL 146 yL_paceOf, Cond.static yL_paceOf, Cond.codeWith yL_paceOf cL_paceOf 4 (some .int) [(0, 9, 12, 13)], Cond.methodLink RL 45 yX1_paceOf]
def wsL_law0_r15 : List Cond := [Cond.instanceMethod yX1_paceOf, Cond.selects RX1 yX1_paceOf yX1_paceOf, Cond.code yX1_paceOf cX1_paceOf 2 (some .int), Cond.methodLink RL 148 yX2_paceOf, Cond.instanceMethod yX2_paceOf, Cond.selects RX2 yX2_paceOf yX2_paceOf, Cond.code yX2_paceOf cX2_paceOf 2 (some .int), Cond.methodLink RL 149 yL_plankOf, Cond.static yL_plankOf, Cond.codeWith yL_plankOf cL_plankOf 4 (some .int) [(0, 9, 12, 13)], Cond.methodLink RL 48 yX1_plankOf, Cond.instanceMethod yX1_plankOf, Cond.selects RX1 yX1_plankOf yX1_plankOf, Cond.code yX1_plankOf cX1_plankOf 2 (some .int), Cond.methodLink RL 151 yX2_plankOf, Cond.instanceMethod yX2_plankOf, Cond.selects RX2 yX2_plankOf yX2_plankOf, Cond.code yX2_plankOf cX2_plankOf 2 (some .int), Cond.methodLink RL 152 yL_standingOn, Cond.static yL_standingOn, Cond.codeWith yL_standingOn cL_standingOn 4 (some .int) [(0, 9, 12, 13)], Cond.methodLink RL 51 yX1_standingOn, Cond.instanceMethod yX1_standingOn, Cond.selects RX1 yX1_standingOn yX1_standingOn]
def wsL_law0_r16 : List Cond := [Cond.code yX1_standingOn cX1_standingOn 2 (some .int), Cond.methodLink RL 154 yX2_standingOn, Cond.instanceMethod yX2_standingOn, Cond.selects RX2 yX2_standingOn yX2_standingOn, Cond.code yX2_standingOn cX2_standingOn 2 (some .int), Cond.methodLink RL 155 yX1_spread, Cond.instanceMethod yX1_spread, Cond.selects RX1 yX1_spread yX1_spread, Cond.code yX1_spread cX1_spread 1 (some .int), Cond.methodLink RX1 100 yX1_distanceOfEnds, Cond.instanceMethod yX1_distanceOfEnds, Cond.selects RX1 yX1_distanceOfEnds yX1_distanceOfEnds, Cond.code yX1_distanceOfEnds cX1_distanceOfEnds 5 (some .int), Cond.methodLink RL 158 yX2_spread, Cond.instanceMethod yX2_spread, Cond.selects RX2 yX2_spread yX2_spread, Cond.code yX2_spread cX2_spread 1 (some .int), Cond.methodLink RX2 81 yX2_wide, Cond.instanceMethod yX2_wide, Cond.selects RX2 yX2_wide yX2_wide, Cond.code yX2_wide cX2_wide 4 (some .int), Cond.methodLink RL 159 yX1_isTreaty, Cond.instanceMethod yX1_isTreaty, Cond.selects RX1 yX1_isTreaty yX1_isTreaty]
def wsL_law0_r17 : List Cond := [Cond.code yX1_isTreaty cX1_isTreaty 1 (some .boolean), Cond.methodLink RX1 104 yX1_agreesAt, Cond.instanceMethod yX1_agreesAt, Cond.selects RX1 yX1_agreesAt yX1_agreesAt, Cond.code yX1_agreesAt cX1_agreesAt 2 (some .boolean), Cond.methodLink RX1 263 yX1_hasTwoVillages, Cond.instanceMethod yX1_hasTwoVillages, Cond.selects RX1 yX1_hasTwoVillages yX1_hasTwoVillages, Cond.code yX1_hasTwoVillages cX1_hasTwoVillages 2 (some .boolean), Cond.methodLink RL 163 yX2_isTreaty, Cond.instanceMethod yX2_isTreaty, Cond.selects RX2 yX2_isTreaty yX2_isTreaty, Cond.code yX2_isTreaty cX2_isTreaty 1 (some .boolean), Cond.methodLink RX2 120 yX2_agree, Cond.instanceMethod yX2_agree, Cond.selects RX2 yX2_agree yX2_agree, Cond.code yX2_agree cX2_agree 3 (some .boolean), Cond.methodLink RL 164 yL_compromise, Cond.static yL_compromise, Cond.codeWith yL_compromise cL_compromise 3 (some .int) [(0, 8, 11, 17)], Cond.methodLink RL 54 yX1_compromise, Cond.instanceMethod yX1_compromise, Cond.selects RX1 yX1_compromise yX1_compromise, Cond.code yX1_compromise cX1_compromise 1 (some .int)]
def wsL_law0_r18 : List Cond := [Cond.methodLink RX1 108 yX1_checkSomeoneThere, Cond.instanceMethod yX1_checkSomeoneThere, Cond.selects RX1 yX1_checkSomeoneThere yX1_checkSomeoneThere, Cond.code yX1_checkSomeoneThere cX1_checkSomeoneThere 1 none, Cond.methodLink RL 167 yX2_compromise, Cond.instanceMethod yX2_compromise, Cond.selects RX2 yX2_compromise yX2_compromise, Cond.code yX2_compromise cX2_compromise 1 (some .int), Cond.methodLink RL 168 yL_compromiseOf, Cond.static yL_compromiseOf, Cond.codeWith yL_compromiseOf cL_compromiseOf 4 (some .int) [(0, 9, 12, 13), (0, 9, 15, 17)], Cond.methodLink RL 58 yX1_compromiseOf, Cond.instanceMethod yX1_compromiseOf, Cond.selects RX1 yX1_compromiseOf yX1_compromiseOf, Cond.code yX1_compromiseOf cX1_compromiseOf 2 (some .int), Cond.methodLink RX1 114 yX1_gatherVillage, Cond.instanceMethod yX1_gatherVillage, Cond.selects RX1 yX1_gatherVillage yX1_gatherVillage, Cond.code yX1_gatherVillage cX1_gatherVillage 3 none, Cond.methodLink RX1 117 yX0_isBare, Cond.instanceMethod yX0_isBare, Cond.selects RX0 yX0_isBare yX0_isBare, Cond.code yX0_isBare cX0_isBare 1 (some .boolean), Cond.methodLink RL 170 yX2_compromiseOf]
def wsL_law0_r19 : List Cond := [Cond.instanceMethod yX2_compromiseOf, Cond.selects RX2 yX2_compromiseOf yX2_compromiseOf, Cond.code yX2_compromiseOf cX2_compromiseOf 3 (some .int), Cond.methodLink RL 171 yL_compromiseWithout, Cond.static yL_compromiseWithout, Cond.codeWith yL_compromiseWithout cL_compromiseWithout 4 (some .int) [(0, 9, 12, 13), (0, 9, 15, 17)], Cond.methodLink RL 61 yX1_compromiseWithout, Cond.instanceMethod yX1_compromiseWithout, Cond.selects RX1 yX1_compromiseWithout yX1_compromiseWithout, Cond.code yX1_compromiseWithout cX1_compromiseWithout 2 (some .int), Cond.methodLink RX1 127 yX1_gatherOthers, Cond.instanceMethod yX1_gatherOthers, Cond.selects RX1 yX1_gatherOthers yX1_gatherOthers, Cond.code yX1_gatherOthers cX1_gatherOthers 3 none, Cond.methodLink RL 173 yX2_compromiseWithout, Cond.instanceMethod yX2_compromiseWithout, Cond.selects RX2 yX2_compromiseWithout yX2_compromiseWithout, Cond.code yX2_compromiseWithout cX2_compromiseWithout 2 (some .int), Cond.methodLink RL 174 yL_decisiveOne, Cond.static yL_decisiveOne, Cond.codeWith yL_decisiveOne cL_decisiveOne 3 (some .int) [(0, 8, 11, 17)], Cond.methodLink RL 64 yX1_decisiveOne, Cond.instanceMethod yX1_decisiveOne, Cond.selects RX1 yX1_decisiveOne yX1_decisiveOne]
def wsL_law0_r20 : List Cond := [Cond.code yX1_decisiveOne cX1_decisiveOne 3 (some .int), Cond.methodLink RL 176 yX2_decisiveOne, Cond.instanceMethod yX2_decisiveOne, Cond.selects RX2 yX2_decisiveOne yX2_decisiveOne, Cond.code yX2_decisiveOne cX2_decisiveOne 1 (some .int), Cond.methodLink RX2 124 yX2_decisive, Cond.instanceMethod yX2_decisive, Cond.selects RX2 yX2_decisive yX2_decisive, Cond.code yX2_decisive cX2_decisive 3 (some .int), Cond.methodLink RL 177 yL_discontentOf, Cond.static yL_discontentOf, Cond.codeWith yL_discontentOf cL_discontentOf 4 (some .int) [(0, 9, 12, 13)], Cond.methodLink RL 67 yX1_discontentOf, Cond.instanceMethod yX1_discontentOf, Cond.selects RX1 yX1_discontentOf yX1_discontentOf, Cond.code yX1_discontentOf cX1_discontentOf 2 (some .int), Cond.methodLink RL 179 yX2_discontentOf, Cond.instanceMethod yX2_discontentOf, Cond.selects RX2 yX2_discontentOf yX2_discontentOf, Cond.code yX2_discontentOf cX2_discontentOf 2 (some .int), Cond.methodLink RX2 127 yX2_apart, Cond.instanceMethod yX2_apart, Cond.selects RX2 yX2_apart yX2_apart, Cond.code yX2_apart cX2_apart 3 (some .int)]
def wsL_law0_r21 : List Cond := [Cond.methodLink RL 180 yX1_allDiscontent, Cond.instanceMethod yX1_allDiscontent, Cond.selects RX1 yX1_allDiscontent yX1_allDiscontent, Cond.code yX1_allDiscontent cX1_allDiscontent 1 (some .int), Cond.methodLink RX1 136 yX1_discontentOfAll, Cond.instanceMethod yX1_discontentOfAll, Cond.selects RX1 yX1_discontentOfAll yX1_discontentOfAll, Cond.code yX1_discontentOfAll cX1_discontentOfAll 4 (some .int), Cond.methodLink RL 183 yX2_allDiscontent, Cond.instanceMethod yX2_allDiscontent, Cond.selects RX2 yX2_allDiscontent yX2_allDiscontent, Cond.code yX2_allDiscontent cX2_allDiscontent 1 (some .int), Cond.methodLink RX2 130 yX2_allApart, Cond.instanceMethod yX2_allApart, Cond.selects RX2 yX2_allApart yX2_allApart, Cond.code yX2_allApart cX2_allApart 4 (some .int), Cond.methodLink RL 184 yL_bestPlank, Cond.static yL_bestPlank, Cond.codeWith yL_bestPlank cL_bestPlank 3 (some .int) [(0, 8, 11, 17)], Cond.methodLink RL 70 yX1_bestPlank, Cond.instanceMethod yX1_bestPlank, Cond.selects RX1 yX1_bestPlank yX1_bestPlank, Cond.code yX1_bestPlank cX1_bestPlank 5 (some .int), Cond.methodLink RL 186 yX2_bestPlank]
def wsL_law0_r22 : List Cond := [Cond.instanceMethod yX2_bestPlank, Cond.selects RX2 yX2_bestPlank yX2_bestPlank, Cond.code yX2_bestPlank cX2_bestPlank 1 (some .int), Cond.methodLink RX2 133 yX2_best, Cond.instanceMethod yX2_best, Cond.selects RX2 yX2_best yX2_best, Cond.code yX2_best cX2_best 3 (some .int), Cond.methodLink RL 187 yL_votesFor, Cond.static yL_votesFor, Cond.codeWith yL_votesFor cL_votesFor 5 (some .int) [(0, 10, 13, 13), (0, 10, 17, 15)], Cond.methodLink RL 73 yX1_votesFor, Cond.instanceMethod yX1_votesFor, Cond.selects RX1 yX1_votesFor yX1_votesFor, Cond.code yX1_votesFor cX1_votesFor 3 (some .int), Cond.methodLink RX1 140 yX1_checkTwoPlanks, Cond.static yX1_checkTwoPlanks, Cond.code yX1_checkTwoPlanks cX1_checkTwoPlanks 2 none, Cond.methodLink RX1 143 yX1_countVotes, Cond.instanceMethod yX1_countVotes, Cond.selects RX1 yX1_countVotes yX1_countVotes, Cond.code yX1_countVotes cX1_countVotes 5 (some .int), Cond.methodLink RL 189 yX2_votesFor, Cond.instanceMethod yX2_votesFor, Cond.selects RX2 yX2_votesFor yX2_votesFor]
def wsL_law0_r23 : List Cond := [Cond.code yX2_votesFor cX2_votesFor 3 (some .int), Cond.methodLink RX2 136 yX2_areTwo, Cond.instanceMethod yX2_areTwo, Cond.selects RX2 yX2_areTwo yX2_areTwo, Cond.code yX2_areTwo cX2_areTwo 3 (some .boolean), Cond.methodLink RX2 139 yX2_votes, Cond.instanceMethod yX2_votes, Cond.selects RX2 yX2_votes yX2_votes, Cond.code yX2_votes cX2_votes 5 (some .int), Cond.methodLink RL 190 yL_winnerOf, Cond.static yL_winnerOf, Cond.codeWith yL_winnerOf cL_winnerOf 5 (some .int) [(0, 10, 13, 13), (0, 10, 17, 15)], Cond.methodLink RL 76 yX1_winnerOf, Cond.instanceMethod yX1_winnerOf, Cond.selects RX1 yX1_winnerOf yX1_winnerOf, Cond.code yX1_winnerOf cX1_winnerOf 5 (some .int), Cond.methodLink RL 192 yX2_winnerOf, Cond.instanceMethod yX2_winnerOf, Cond.selects RX2 yX2_winnerOf yX2_winnerOf, Cond.code yX2_winnerOf cX2_winnerOf 4 (some .int), Cond.methodLink RL 193 yL_canLeadTo, Cond.static yL_canLeadTo, Cond.codeWith yL_canLeadTo cL_canLeadTo 5 (some .int) [(0, 17, 20, 13)], Cond.methodLink RL 79 yX1_canLeadTo]
def wsL_law0_r24 : List Cond := [Cond.instanceMethod yX1_canLeadTo, Cond.selects RX1 yX1_canLeadTo yX1_canLeadTo, Cond.code yX1_canLeadTo cX1_canLeadTo 3 (some .boolean), Cond.methodLink RL 195 yX2_canLeadTo, Cond.instanceMethod yX2_canLeadTo, Cond.selects RX2 yX2_canLeadTo yX2_canLeadTo, Cond.code yX2_canLeadTo cX2_canLeadTo 3 (some .boolean), Cond.methodLink RL 196 yL_wouldStepTo, Cond.static yL_wouldStepTo, Cond.codeWith yL_wouldStepTo cL_wouldStepTo 4 (some .int) [(0, 9, 12, 13)], Cond.methodLink RL 83 yX1_wouldStepTo, Cond.instanceMethod yX1_wouldStepTo, Cond.selects RX1 yX1_wouldStepTo yX1_wouldStepTo, Cond.code yX1_wouldStepTo cX1_wouldStepTo 2 (some .int), Cond.methodLink RL 198 yX2_wouldStepTo, Cond.instanceMethod yX2_wouldStepTo, Cond.selects RX2 yX2_wouldStepTo yX2_wouldStepTo, Cond.code yX2_wouldStepTo cX2_wouldStepTo 2 (some .int), Cond.methodLink RL 199 yX1_isStill, Cond.instanceMethod yX1_isStill, Cond.selects RX1 yX1_isStill yX1_isStill, Cond.code yX1_isStill cX1_isStill 1 (some .boolean), Cond.methodLink RX1 155 yX1_copyPlanksToLater, Cond.instanceMethod yX1_copyPlanksToLater]
def wsL_law0_r25 : List Cond := [Cond.selects RX1 yX1_copyPlanksToLater yX1_copyPlanksToLater, Cond.code yX1_copyPlanksToLater cX1_copyPlanksToLater 2 none, Cond.methodLink RL 202 yX2_isStill, Cond.instanceMethod yX2_isStill, Cond.selects RX2 yX2_isStill yX2_isStill, Cond.code yX2_isStill cX2_isStill 1 (some .boolean), Cond.methodLink RX2 142 yX2_still, Cond.instanceMethod yX2_still, Cond.selects RX2 yX2_still yX2_still, Cond.code yX2_still cX2_still 3 (some .boolean), Cond.methodLink RX2 45 arraycopyName, Cond.native arraycopyName, Cond.static arraycopyName, Cond.initialized "java/lang/System", Cond.methodLink RL 203 yL_plankIn, Cond.static yL_plankIn, Cond.codeWith yL_plankIn cL_plankIn 5 (some .int) [(0, 10, 13, 13), (0, 10, 17, 15)], Cond.methodLink RL 86 yX1_plankIn, Cond.instanceMethod yX1_plankIn, Cond.selects RX1 yX1_plankIn yX1_plankIn, Cond.code yX1_plankIn cX1_plankIn 3 (some .int), Cond.methodLink RL 205 yX2_plankIn, Cond.instanceMethod yX2_plankIn, Cond.selects RX2 yX2_plankIn yX2_plankIn]
def wsL_law0_r26 : List Cond := [Cond.code yX2_plankIn cX2_plankIn 4 (some .int), Cond.methodLink RX2 145 yX2_keep, Cond.instanceMethod yX2_keep, Cond.selects RX2 yX2_keep yX2_keep, Cond.code yX2_keep cX2_keep 1 none, Cond.methodLink RX2 148 yX2_bringBack, Cond.instanceMethod yX2_bringBack, Cond.selects RX2 yX2_bringBack yX2_bringBack, Cond.code yX2_bringBack cX2_bringBack 1 none, Cond.methodLink RL 206 yL_compromiseIn, Cond.static yL_compromiseIn, Cond.codeWith yL_compromiseIn cL_compromiseIn 4 (some .int) [(0, 9, 12, 15), (0, 9, 15, 17)], Cond.methodLink RL 89 yX1_compromiseIn, Cond.instanceMethod yX1_compromiseIn, Cond.selects RX1 yX1_compromiseIn yX1_compromiseIn, Cond.code yX1_compromiseIn cX1_compromiseIn 2 (some .int), Cond.methodLink RL 208 yX2_compromiseIn, Cond.instanceMethod yX2_compromiseIn, Cond.selects RX2 yX2_compromiseIn yX2_compromiseIn, Cond.code yX2_compromiseIn cX2_compromiseIn 3 (some .int), Cond.methodLink RL 209 yX1_roundsUntilTreaty, Cond.instanceMethod yX1_roundsUntilTreaty, Cond.selects RX1 yX1_roundsUntilTreaty yX1_roundsUntilTreaty, Cond.code yX1_roundsUntilTreaty cX1_roundsUntilTreaty 2 (some .int)]
def wsL_law0_r27 : List Cond := [Cond.methodLink RL 212 yX2_roundsUntilTreaty, Cond.instanceMethod yX2_roundsUntilTreaty, Cond.selects RX2 yX2_roundsUntilTreaty yX2_roundsUntilTreaty, Cond.code yX2_roundsUntilTreaty cX2_roundsUntilTreaty 2 (some .int), Cond.methodLink RL 213 yX1_roundsUntilStill, Cond.instanceMethod yX1_roundsUntilStill, Cond.selects RX1 yX1_roundsUntilStill yX1_roundsUntilStill, Cond.code yX1_roundsUntilStill cX1_roundsUntilStill 2 (some .int), Cond.methodLink RL 216 yX2_roundsUntilStill, Cond.instanceMethod yX2_roundsUntilStill, Cond.selects RX2 yX2_roundsUntilStill yX2_roundsUntilStill, Cond.code yX2_roundsUntilStill cX2_roundsUntilStill 1 (some .int), Cond.methodLink RX2 151 yX2_untilStill, Cond.instanceMethod yX2_untilStill, Cond.selects RX2 yX2_untilStill yX2_untilStill, Cond.code yX2_untilStill cX2_untilStill 2 (some .int), Cond.methodLink RL 217 yL_bestStand, Cond.static yL_bestStand, Cond.codeWith yL_bestStand cL_bestStand 4 (some .int) [(0, 9, 12, 13)], Cond.methodLink RL 92 yX1_bestStand, Cond.instanceMethod yX1_bestStand, Cond.selects RX1 yX1_bestStand yX1_bestStand, Cond.code yX1_bestStand cX1_bestStand 6 (some .int), Cond.methodLink RX1 161 yX0_middleWith]
def wsL_law0_r28 : List Cond := [Cond.instanceMethod yX0_middleWith, Cond.selects RX0 yX0_middleWith yX0_middleWith, Cond.code yX0_middleWith cX0_middleWith 5 (some .int), Cond.methodLink RL 219 yX2_bestStand, Cond.instanceMethod yX2_bestStand, Cond.selects RX2 yX2_bestStand yX2_bestStand, Cond.code yX2_bestStand cX2_bestStand 2 (some .int), Cond.methodLink RX2 154 yX2_stand, Cond.instanceMethod yX2_stand, Cond.selects RX2 yX2_stand yX2_stand, Cond.code yX2_stand cX2_stand 7 (some .int), Cond.methodLink RL 220 yX1_meanPlank, Cond.instanceMethod yX1_meanPlank, Cond.selects RX1 yX1_meanPlank yX1_meanPlank, Cond.code yX1_meanPlank cX1_meanPlank 3 (some .double), Cond.methodLink RL 224 yX2_meanPlank, Cond.instanceMethod yX2_meanPlank, Cond.selects RX2 yX2_meanPlank yX2_meanPlank, Cond.code yX2_meanPlank cX2_meanPlank 3 (some .double), Cond.methodLink RL 225 yX1_digest, Cond.instanceMethod yX1_digest, Cond.selects RX1 yX1_digest yX1_digest, Cond.code yX1_digest cX1_digest 4 (some .long), Cond.constantLong RX1 164 (1933)]
def wsL_law0_r29 : List Cond := [Cond.methodLink RX1 166 yX1_delegates, Cond.methodLink RX1 169 yX1_fold, Cond.static yX1_fold, Cond.code yX1_fold cX1_fold 3 (some .long), Cond.constantLong RX1 230 (31), Cond.methodLink RX1 173 yX1_rounds, Cond.methodLink RX1 176 yX1_strength, Cond.methodLink RX1 179 yX1_spread, Cond.methodLink RX1 182 yX1_isTreaty, Cond.methodLink RX1 185 yX1_isStill, Cond.methodLink RX1 188 yX1_compromise, Cond.methodLink RX1 191 yX1_decisiveOne, Cond.methodLink RX1 194 yX1_bestPlank, Cond.methodLink RX1 197 yX1_allDiscontent, Cond.methodLink RX1 200 yX1_roundsUntilStill, Cond.methodLink RX1 203 yX1_foldDelegate, Cond.instanceMethod yX1_foldDelegate, Cond.selects RX1 yX1_foldDelegate yX1_foldDelegate, Cond.code yX1_foldDelegate cX1_foldDelegate 6 (some .long), Cond.methodLink RX1 206 yX1_villageOf, Cond.methodLink RX1 209 yX1_wishOf, Cond.methodLink RX1 212 yX1_reachOf, Cond.methodLink RX1 215 yX1_paceOf, Cond.methodLink RX1 218 yX1_plankOf]
def wsL_law0_r30 : List Cond := [Cond.methodLink RX1 221 yX1_wouldStepTo, Cond.methodLink RX1 224 yX1_bestStand, Cond.methodLink RX1 227 yX1_discontentOf, Cond.methodLink RL 229 yX2_digest, Cond.instanceMethod yX2_digest, Cond.selects RX2 yX2_digest yX2_digest, Cond.code yX2_digest cX2_digest 10 (some .long), Cond.constantLong RX2 157 (1933), Cond.constantLong RX2 159 (31)]
def wsL_law0 : List Cond := (wsL_law0_r1 ++ (wsL_law0_r2 ++ (wsL_law0_r3 ++ (wsL_law0_r4 ++ (wsL_law0_r5 ++ (wsL_law0_r6 ++ (wsL_law0_r7 ++ (wsL_law0_r8 ++ (wsL_law0_r9 ++ (wsL_law0_r10 ++ (wsL_law0_r11 ++ (wsL_law0_r12 ++ (wsL_law0_r13 ++ (wsL_law0_r14 ++ (wsL_law0_r15 ++ (wsL_law0_r16 ++ (wsL_law0_r17 ++ (wsL_law0_r18 ++ (wsL_law0_r19 ++ (wsL_law0_r20 ++ (wsL_law0_r21 ++ (wsL_law0_r22 ++ (wsL_law0_r23 ++ (wsL_law0_r24 ++ (wsL_law0_r25 ++ (wsL_law0_r26 ++ (wsL_law0_r27 ++ (wsL_law0_r28 ++ (wsL_law0_r29 ++ wsL_law0_r30))))))))))))))))))))))))))))) ++ wsX10 ++ wsX20 ++ wsX00 ++ ([] : List Cond)
def wsL_law : List Cond := wsL_law0 ++ (vx_atS RX1 60 "java/lang/IllegalStateException" ["java/lang/RuntimeException", "java/lang/Exception"]).filter goodWord ++ (vx_atS RX1 236 "java/lang/IndexOutOfBoundsException" ["java/lang/RuntimeException", "java/lang/Exception"]).filter goodWord ++ (vx_atS RX1 89 "java/lang/IllegalArgumentException" ["java/lang/RuntimeException", "java/lang/Exception"]).filter goodWord
abbrev vwCl : List vw_C := [(RX0, TX0, 2), (RX1, TX1, 10), (RX2, TX2, 11)]
end
section
theorem dX0_init_0 : decode cX0_init 0 = .ok (.aload_n 0, 1) := by decide +kernel
theorem dX0_init_1 : decode cX0_init 1 = .ok (.invokespecial 3, 3) := by decide +kernel
theorem dX0_init_4 : decode cX0_init 4 = .ok (.aload_n 0, 1) := by decide +kernel
theorem dX0_init_5 : decode cX0_init 5 = .ok (.bipush 12, 2) := by decide +kernel
theorem dX0_init_7 : decode cX0_init 7 = .ok (.newarray .int, 2) := by decide +kernel
theorem dX0_init_9 : decode cX0_init 9 = .ok (.putfield 9, 3) := by decide +kernel
theorem dX0_init_12 : decode cX0_init 12 = .ok (.aload_n 0, 1) := by decide +kernel
theorem dX0_init_13 : decode cX0_init 13 = .ok (.iconst 0, 1) := by decide +kernel
theorem dX0_init_14 : decode cX0_init 14 = .ok (.putfield 15, 3) := by decide +kernel
theorem dX0_init_17 : decode cX0_init 17 = .ok (.return_, 1) := by decide +kernel
theorem dX0_empty_0 : decode cX0_empty 0 = .ok (.aload_n 0, 1) := by decide +kernel
theorem dX0_empty_1 : decode cX0_empty 1 = .ok (.iconst 0, 1) := by decide +kernel
theorem dX0_empty_2 : decode cX0_empty 2 = .ok (.putfield 15, 3) := by decide +kernel
theorem dX0_empty_5 : decode cX0_empty 5 = .ok (.return_, 1) := by decide +kernel
theorem dX0_isBare_0 : decode cX0_isBare 0 = .ok (.aload_n 0, 1) := by decide +kernel
theorem dX0_isBare_1 : decode cX0_isBare 1 = .ok (.getfield 15, 3) := by decide +kernel
theorem dX0_isBare_4 : decode cX0_isBare 4 = .ok (.ifCond .ne 7, 3) := by decide +kernel
theorem dX0_isBare_7 : decode cX0_isBare 7 = .ok (.iconst 1, 1) := by decide +kernel
theorem dX0_isBare_8 : decode cX0_isBare 8 = .ok (.goto 4, 3) := by decide +kernel
theorem dX0_isBare_11 : decode cX0_isBare 11 = .ok (.iconst 0, 1) := by decide +kernel
theorem dX0_isBare_12 : decode cX0_isBare 12 = .ok (.ireturn, 1) := by decide +kernel
theorem dX0_put_0 : decode cX0_put 0 = .ok (.aload_n 0, 1) := by decide +kernel
theorem dX0_put_1 : decode cX0_put 1 = .ok (.getfield 15, 3) := by decide +kernel
theorem dX0_put_4 : decode cX0_put 4 = .ok (.bipush 12, 2) := by decide +kernel
theorem dX0_put_6 : decode cX0_put 6 = .ok (.if_icmp .lt 4, 3) := by decide +kernel
theorem dX0_put_9 : decode cX0_put 9 = .ok (.return_, 1) := by decide +kernel
theorem dX0_put_10 : decode cX0_put 10 = .ok (.aload_n 0, 1) := by decide +kernel
theorem dX0_put_11 : decode cX0_put 11 = .ok (.getfield 15, 3) := by decide +kernel
theorem dX0_put_14 : decode cX0_put 14 = .ok (.istore_n 2, 1) := by decide +kernel
theorem dX0_put_15 : decode cX0_put 15 = .ok (.iload_n 2, 1) := by decide +kernel
theorem dX0_put_16 : decode cX0_put 16 = .ok (.ifCond .le 35, 3) := by decide +kernel
theorem dX0_put_19 : decode cX0_put 19 = .ok (.aload_n 0, 1) := by decide +kernel
theorem dX0_put_20 : decode cX0_put 20 = .ok (.getfield 9, 3) := by decide +kernel
theorem dX0_put_23 : decode cX0_put 23 = .ok (.iload_n 2, 1) := by decide +kernel
theorem dX0_put_24 : decode cX0_put 24 = .ok (.iconst 1, 1) := by decide +kernel
theorem dX0_put_25 : decode cX0_put 25 = .ok (.isub, 1) := by decide +kernel
theorem dX0_put_26 : decode cX0_put 26 = .ok (.iaload, 1) := by decide +kernel
theorem dX0_put_27 : decode cX0_put 27 = .ok (.iload_n 1, 1) := by decide +kernel
theorem dX0_put_28 : decode cX0_put 28 = .ok (.if_icmp .le 23, 3) := by decide +kernel
theorem dX0_put_31 : decode cX0_put 31 = .ok (.aload_n 0, 1) := by decide +kernel
theorem dX0_put_32 : decode cX0_put 32 = .ok (.getfield 9, 3) := by decide +kernel
theorem dX0_put_35 : decode cX0_put 35 = .ok (.iload_n 2, 1) := by decide +kernel
theorem dX0_put_36 : decode cX0_put 36 = .ok (.aload_n 0, 1) := by decide +kernel
theorem dX0_put_37 : decode cX0_put 37 = .ok (.getfield 9, 3) := by decide +kernel
theorem dX0_put_40 : decode cX0_put 40 = .ok (.iload_n 2, 1) := by decide +kernel
theorem dX0_put_41 : decode cX0_put 41 = .ok (.iconst 1, 1) := by decide +kernel
theorem dX0_put_42 : decode cX0_put 42 = .ok (.isub, 1) := by decide +kernel
theorem dX0_put_43 : decode cX0_put 43 = .ok (.iaload, 1) := by decide +kernel
theorem dX0_put_44 : decode cX0_put 44 = .ok (.iastore, 1) := by decide +kernel
theorem dX0_put_45 : decode cX0_put 45 = .ok (.iinc 2 (-1), 3) := by decide +kernel
theorem dX0_put_48 : decode cX0_put 48 = .ok (.goto (-33), 3) := by decide +kernel
theorem dX0_put_51 : decode cX0_put 51 = .ok (.aload_n 0, 1) := by decide +kernel
theorem dX0_put_52 : decode cX0_put 52 = .ok (.getfield 9, 3) := by decide +kernel
theorem dX0_put_55 : decode cX0_put 55 = .ok (.iload_n 2, 1) := by decide +kernel
theorem dX0_put_56 : decode cX0_put 56 = .ok (.iload_n 1, 1) := by decide +kernel
theorem dX0_put_57 : decode cX0_put 57 = .ok (.iastore, 1) := by decide +kernel
theorem dX0_put_58 : decode cX0_put 58 = .ok (.aload_n 0, 1) := by decide +kernel
theorem dX0_put_59 : decode cX0_put 59 = .ok (.dup, 1) := by decide +kernel
theorem dX0_put_60 : decode cX0_put 60 = .ok (.getfield 15, 3) := by decide +kernel
theorem dX0_put_63 : decode cX0_put 63 = .ok (.iconst 1, 1) := by decide +kernel
theorem dX0_put_64 : decode cX0_put 64 = .ok (.iadd, 1) := by decide +kernel
theorem dX0_put_65 : decode cX0_put 65 = .ok (.putfield 15, 3) := by decide +kernel
theorem dX0_put_68 : decode cX0_put 68 = .ok (.return_, 1) := by decide +kernel
theorem dX0_middle_0 : decode cX0_middle 0 = .ok (.aload_n 0, 1) := by decide +kernel
theorem dX0_middle_1 : decode cX0_middle 1 = .ok (.getfield 15, 3) := by decide +kernel
theorem dX0_middle_4 : decode cX0_middle 4 = .ok (.ifCond .ne 7, 3) := by decide +kernel
theorem dX0_middle_7 : decode cX0_middle 7 = .ok (.iconst 0, 1) := by decide +kernel
theorem dX0_middle_8 : decode cX0_middle 8 = .ok (.goto 16, 3) := by decide +kernel
theorem dX0_middle_11 : decode cX0_middle 11 = .ok (.aload_n 0, 1) := by decide +kernel
theorem dX0_middle_12 : decode cX0_middle 12 = .ok (.getfield 9, 3) := by decide +kernel
theorem dX0_middle_15 : decode cX0_middle 15 = .ok (.aload_n 0, 1) := by decide +kernel
theorem dX0_middle_16 : decode cX0_middle 16 = .ok (.getfield 15, 3) := by decide +kernel
theorem dX0_middle_19 : decode cX0_middle 19 = .ok (.iconst 1, 1) := by decide +kernel
theorem dX0_middle_20 : decode cX0_middle 20 = .ok (.isub, 1) := by decide +kernel
theorem dX0_middle_21 : decode cX0_middle 21 = .ok (.iconst 2, 1) := by decide +kernel
theorem dX0_middle_22 : decode cX0_middle 22 = .ok (.idiv, 1) := by decide +kernel
theorem dX0_middle_23 : decode cX0_middle 23 = .ok (.iaload, 1) := by decide +kernel
theorem dX0_middle_24 : decode cX0_middle 24 = .ok (.ireturn, 1) := by decide +kernel
set_option maxRecDepth 20000 in
theorem ggX0_middleWith_X1_cutTo : GoodIn wsX0_middleWith wsX1_cutTo := goodIn_r _ [5, 6, 7, 8, 9, 10, 11, 12] (by decide +kernel) (by decide +kernel)
set_option maxRecDepth 20000 in
theorem gX0_middleWith_X1_cutTo_n19 : GoodIn wsX0_middleWith (wsX1_cutTo) := ggX0_middleWith_X1_cutTo
theorem dX0_middleWith_0 : decode cX0_middleWith 0 = .ok (.aload_n 0, 1) := by decide +kernel
theorem dX0_middleWith_1 : decode cX0_middleWith 1 = .ok (.getfield 15, 3) := by decide +kernel
theorem dX0_middleWith_4 : decode cX0_middleWith 4 = .ok (.iconst 2, 1) := by decide +kernel
theorem dX0_middleWith_5 : decode cX0_middleWith 5 = .ok (.idiv, 1) := by decide +kernel
theorem dX0_middleWith_6 : decode cX0_middleWith 6 = .ok (.istore_n 2, 1) := by decide +kernel
theorem dX0_middleWith_7 : decode cX0_middleWith 7 = .ok (.iload_n 2, 1) := by decide +kernel
theorem dX0_middleWith_8 : decode cX0_middleWith 8 = .ok (.ifCond .le 14, 3) := by decide +kernel
theorem dX0_middleWith_11 : decode cX0_middleWith 11 = .ok (.aload_n 0, 1) := by decide +kernel
theorem dX0_middleWith_12 : decode cX0_middleWith 12 = .ok (.getfield 9, 3) := by decide +kernel
theorem dX0_middleWith_15 : decode cX0_middleWith 15 = .ok (.iload_n 2, 1) := by decide +kernel
theorem dX0_middleWith_16 : decode cX0_middleWith 16 = .ok (.iconst 1, 1) := by decide +kernel
theorem dX0_middleWith_17 : decode cX0_middleWith 17 = .ok (.isub, 1) := by decide +kernel
theorem dX0_middleWith_18 : decode cX0_middleWith 18 = .ok (.iaload, 1) := by decide +kernel
theorem dX0_middleWith_19 : decode cX0_middleWith 19 = .ok (.goto 4, 3) := by decide +kernel
theorem dX0_middleWith_22 : decode cX0_middleWith 22 = .ok (.iconst 0, 1) := by decide +kernel
theorem dX0_middleWith_23 : decode cX0_middleWith 23 = .ok (.istore_n 3, 1) := by decide +kernel
theorem dX0_middleWith_24 : decode cX0_middleWith 24 = .ok (.iload_n 2, 1) := by decide +kernel
theorem dX0_middleWith_25 : decode cX0_middleWith 25 = .ok (.aload_n 0, 1) := by decide +kernel
theorem dX0_middleWith_26 : decode cX0_middleWith 26 = .ok (.getfield 15, 3) := by decide +kernel
theorem dX0_middleWith_29 : decode cX0_middleWith 29 = .ok (.if_icmp .ge 12, 3) := by decide +kernel
theorem dX0_middleWith_32 : decode cX0_middleWith 32 = .ok (.aload_n 0, 1) := by decide +kernel
theorem dX0_middleWith_33 : decode cX0_middleWith 33 = .ok (.getfield 9, 3) := by decide +kernel
theorem dX0_middleWith_36 : decode cX0_middleWith 36 = .ok (.iload_n 2, 1) := by decide +kernel
theorem dX0_middleWith_37 : decode cX0_middleWith 37 = .ok (.iaload, 1) := by decide +kernel
theorem dX0_middleWith_38 : decode cX0_middleWith 38 = .ok (.goto 5, 3) := by decide +kernel
theorem dX0_middleWith_41 : decode cX0_middleWith 41 = .ok (.bipush 40, 2) := by decide +kernel
theorem dX0_middleWith_43 : decode cX0_middleWith 43 = .ok (.istore 4, 2) := by decide +kernel
theorem dX0_middleWith_45 : decode cX0_middleWith 45 = .ok (.iload_n 1, 1) := by decide +kernel
theorem dX0_middleWith_46 : decode cX0_middleWith 46 = .ok (.iload_n 3, 1) := by decide +kernel
theorem dX0_middleWith_47 : decode cX0_middleWith 47 = .ok (.iload 4, 2) := by decide +kernel
theorem dX0_middleWith_49 : decode cX0_middleWith 49 = .ok (.invokestatic 19, 3) := by decide +kernel
theorem dX0_middleWith_52 : decode cX0_middleWith 52 = .ok (.ireturn, 1) := by decide +kernel
set_option maxRecDepth 20000 in
theorem ggX1_init_X0_init : GoodIn wsX1_init wsX0_init := goodIn_r _ [19, 20, 2, 3, 7, 21, 22, 33, 34] (by decide +kernel) (by decide +kernel)
set_option maxRecDepth 20000 in
theorem gX1_init_X0_init_n40 : GoodIn wsX1_init (wsX0_init) := ggX1_init_X0_init
theorem dX1_init_0 : decode cX1_init 0 = .ok (.aload_n 0, 1) := by decide +kernel
theorem dX1_init_1 : decode cX1_init 1 = .ok (.invokespecial 1, 3) := by decide +kernel
theorem dX1_init_4 : decode cX1_init 4 = .ok (.aload_n 0, 1) := by decide +kernel
theorem dX1_init_5 : decode cX1_init 5 = .ok (.iconst 0, 1) := by decide +kernel
theorem dX1_init_6 : decode cX1_init 6 = .ok (.putfield 7, 3) := by decide +kernel
theorem dX1_init_9 : decode cX1_init 9 = .ok (.aload_n 0, 1) := by decide +kernel
theorem dX1_init_10 : decode cX1_init 10 = .ok (.iconst 0, 1) := by decide +kernel
theorem dX1_init_11 : decode cX1_init 11 = .ok (.putfield 13, 3) := by decide +kernel
theorem dX1_init_14 : decode cX1_init 14 = .ok (.aload_n 0, 1) := by decide +kernel
theorem dX1_init_15 : decode cX1_init 15 = .ok (.bipush 12, 2) := by decide +kernel
theorem dX1_init_17 : decode cX1_init 17 = .ok (.putfield 16, 3) := by decide +kernel
theorem dX1_init_20 : decode cX1_init 20 = .ok (.aload_n 0, 1) := by decide +kernel
theorem dX1_init_21 : decode cX1_init 21 = .ok (.bipush 12, 2) := by decide +kernel
theorem dX1_init_23 : decode cX1_init 23 = .ok (.newarray .int, 2) := by decide +kernel
theorem dX1_init_25 : decode cX1_init 25 = .ok (.putfield 19, 3) := by decide +kernel
theorem dX1_init_28 : decode cX1_init 28 = .ok (.aload_n 0, 1) := by decide +kernel
theorem dX1_init_29 : decode cX1_init 29 = .ok (.bipush 12, 2) := by decide +kernel
theorem dX1_init_31 : decode cX1_init 31 = .ok (.newarray .int, 2) := by decide +kernel
theorem dX1_init_33 : decode cX1_init 33 = .ok (.putfield 23, 3) := by decide +kernel
theorem dX1_init_36 : decode cX1_init 36 = .ok (.aload_n 0, 1) := by decide +kernel
theorem dX1_init_37 : decode cX1_init 37 = .ok (.bipush 12, 2) := by decide +kernel
theorem dX1_init_39 : decode cX1_init 39 = .ok (.newarray .int, 2) := by decide +kernel
theorem dX1_init_41 : decode cX1_init 41 = .ok (.putfield 26, 3) := by decide +kernel
theorem dX1_init_44 : decode cX1_init 44 = .ok (.aload_n 0, 1) := by decide +kernel
theorem dX1_init_45 : decode cX1_init 45 = .ok (.bipush 12, 2) := by decide +kernel
theorem dX1_init_47 : decode cX1_init 47 = .ok (.newarray .int, 2) := by decide +kernel
theorem dX1_init_49 : decode cX1_init 49 = .ok (.putfield 29, 3) := by decide +kernel
theorem dX1_init_52 : decode cX1_init 52 = .ok (.aload_n 0, 1) := by decide +kernel
theorem dX1_init_53 : decode cX1_init 53 = .ok (.bipush 12, 2) := by decide +kernel
theorem dX1_init_55 : decode cX1_init 55 = .ok (.newarray .int, 2) := by decide +kernel
theorem dX1_init_57 : decode cX1_init 57 = .ok (.putfield 32, 3) := by decide +kernel
theorem dX1_init_60 : decode cX1_init 60 = .ok (.aload_n 0, 1) := by decide +kernel
theorem dX1_init_61 : decode cX1_init 61 = .ok (.bipush 12, 2) := by decide +kernel
theorem dX1_init_63 : decode cX1_init 63 = .ok (.newarray .int, 2) := by decide +kernel
theorem dX1_init_65 : decode cX1_init 65 = .ok (.putfield 35, 3) := by decide +kernel
theorem dX1_init_68 : decode cX1_init 68 = .ok (.aload_n 0, 1) := by decide +kernel
theorem dX1_init_69 : decode cX1_init 69 = .ok (.new 38, 3) := by decide +kernel
theorem dX1_init_72 : decode cX1_init 72 = .ok (.dup, 1) := by decide +kernel
theorem dX1_init_73 : decode cX1_init 73 = .ok (.invokespecial 40, 3) := by decide +kernel
theorem dX1_init_76 : decode cX1_init 76 = .ok (.putfield 41, 3) := by decide +kernel
theorem dX1_init_79 : decode cX1_init 79 = .ok (.return_, 1) := by decide +kernel
set_option maxRecDepth 20000 in
theorem ggX1_send_X1_checkVillage : GoodIn wsX1_send wsX1_checkVillage := goodIn_ca (goodIn_r _ [12, 13, 14] (by decide +kernel) (by decide +kernel)) (goodIn_sub (fun _ h => List.mem_cons_of_mem _ (List.mem_append_left _ (List.mem_append_right _ h))) (by decide +kernel))
set_option maxRecDepth 20000 in
theorem gX1_send_X1_checkVillage : GoodIn wsX1_send (va_wsS RX1 45 yX1_checkVillage wsX1_checkVillage) := goodIn_app (goodIn_of _ (by decide +kernel)) ggX1_send_X1_checkVillage
set_option maxRecDepth 20000 in
theorem ggX1_send_X1_checkPlank : GoodIn wsX1_send wsX1_checkPlank := goodIn_ca (goodIn_r _ [17, 13, 14] (by decide +kernel) (by decide +kernel)) (goodIn_sub (fun _ h => List.mem_cons_of_mem _ (List.mem_append_left _ (List.mem_append_right _ h))) (by decide +kernel))
set_option maxRecDepth 20000 in
theorem gX1_send_X1_checkPlank : GoodIn wsX1_send (va_wsS RX1 49 yX1_checkPlank wsX1_checkPlank) := goodIn_app (goodIn_of _ (by decide +kernel)) ggX1_send_X1_checkPlank
set_option maxRecDepth 20000 in
theorem ggX1_send_X1_checkReachAndPace : GoodIn wsX1_send wsX1_checkReachAndPace := goodIn_ca (goodIn_r _ [20, 21, 22] (by decide +kernel) (by decide +kernel)) (goodIn_sub (fun _ h => List.mem_cons_of_mem _ (List.mem_append_right _ h)) (by decide +kernel))
set_option maxRecDepth 20000 in
theorem gX1_send_X1_checkReachAndPace : GoodIn wsX1_send (va_wsS RX1 52 yX1_checkReachAndPace wsX1_checkReachAndPace) := goodIn_app (goodIn_of _ (by decide +kernel)) ggX1_send_X1_checkReachAndPace
set_option maxRecDepth 20000 in
theorem ggX1_send_X1_hasRoom : GoodIn wsX1_send wsX1_hasRoom := goodIn_r _ [26, 27, 28, 29, 30, 11, 31, 3, 32, 33, 34, 35, 36, 37, 38, 39, 40, 41] (by decide +kernel) (by decide +kernel)
set_option maxRecDepth 20000 in
theorem gX1_send_X1_hasRoom : GoodIn wsX1_send (wsV RX1 63 RX1 yX1_hasRoom wsX1_hasRoom) := goodIn_app (goodIn_of _ (by decide +kernel)) ggX1_send_X1_hasRoom
theorem dX1_send_0 : decode cX1_send 0 = .ok (.iload_n 1, 1) := by decide +kernel
theorem dX1_send_1 : decode cX1_send 1 = .ok (.invokestatic 45, 3) := by decide +kernel
theorem dX1_send_4 : decode cX1_send 4 = .ok (.iload_n 2, 1) := by decide +kernel
theorem dX1_send_5 : decode cX1_send 5 = .ok (.invokestatic 49, 3) := by decide +kernel
theorem dX1_send_8 : decode cX1_send 8 = .ok (.iload_n 3, 1) := by decide +kernel
theorem dX1_send_9 : decode cX1_send 9 = .ok (.iload 4, 2) := by decide +kernel
theorem dX1_send_11 : decode cX1_send 11 = .ok (.invokestatic 52, 3) := by decide +kernel
theorem dX1_send_14 : decode cX1_send 14 = .ok (.aload_n 0, 1) := by decide +kernel
theorem dX1_send_15 : decode cX1_send 15 = .ok (.getfield 7, 3) := by decide +kernel
theorem dX1_send_18 : decode cX1_send 18 = .ok (.bipush 12, 2) := by decide +kernel
theorem dX1_send_20 : decode cX1_send 20 = .ok (.if_icmp .lt 13, 3) := by decide +kernel
theorem dX1_send_23 : decode cX1_send 23 = .ok (.new 56, 3) := by decide +kernel
theorem dX1_send_26 : decode cX1_send 26 = .ok (.dup, 1) := by decide +kernel
theorem dX1_send_27 : decode cX1_send 27 = .ok (.ldc 58, 2) := by decide +kernel
theorem dX1_send_29 : decode cX1_send 29 = .ok (.invokespecial 60, 3) := by decide +kernel
theorem dX1_send_32 : decode cX1_send 32 = .ok (.athrow, 1) := by decide +kernel
theorem dX1_send_33 : decode cX1_send 33 = .ok (.aload_n 0, 1) := by decide +kernel
theorem dX1_send_34 : decode cX1_send 34 = .ok (.aload_n 0, 1) := by decide +kernel
theorem dX1_send_35 : decode cX1_send 35 = .ok (.getfield 32, 3) := by decide +kernel
theorem dX1_send_38 : decode cX1_send 38 = .ok (.iload_n 2, 1) := by decide +kernel
theorem dX1_send_39 : decode cX1_send 39 = .ok (.invokevirtual 63, 3) := by decide +kernel
theorem dX1_send_42 : decode cX1_send 42 = .ok (.ifCond .ne 13, 3) := by decide +kernel
theorem dX1_send_45 : decode cX1_send 45 = .ok (.new 56, 3) := by decide +kernel
theorem dX1_send_48 : decode cX1_send 48 = .ok (.dup, 1) := by decide +kernel
theorem dX1_send_49 : decode cX1_send 49 = .ok (.ldc 67, 2) := by decide +kernel
theorem dX1_send_51 : decode cX1_send 51 = .ok (.invokespecial 60, 3) := by decide +kernel
theorem dX1_send_54 : decode cX1_send 54 = .ok (.athrow, 1) := by decide +kernel
theorem dX1_send_55 : decode cX1_send 55 = .ok (.aload_n 0, 1) := by decide +kernel
theorem dX1_send_56 : decode cX1_send 56 = .ok (.getfield 7, 3) := by decide +kernel
theorem dX1_send_59 : decode cX1_send 59 = .ok (.istore 5, 2) := by decide +kernel
theorem dX1_send_61 : decode cX1_send 61 = .ok (.aload_n 0, 1) := by decide +kernel
theorem dX1_send_62 : decode cX1_send 62 = .ok (.getfield 19, 3) := by decide +kernel
theorem dX1_send_65 : decode cX1_send 65 = .ok (.iload 5, 2) := by decide +kernel
theorem dX1_send_67 : decode cX1_send 67 = .ok (.iload_n 1, 1) := by decide +kernel
theorem dX1_send_68 : decode cX1_send 68 = .ok (.iastore, 1) := by decide +kernel
theorem dX1_send_69 : decode cX1_send 69 = .ok (.aload_n 0, 1) := by decide +kernel
theorem dX1_send_70 : decode cX1_send 70 = .ok (.getfield 23, 3) := by decide +kernel
theorem dX1_send_73 : decode cX1_send 73 = .ok (.iload 5, 2) := by decide +kernel
theorem dX1_send_75 : decode cX1_send 75 = .ok (.iload_n 2, 1) := by decide +kernel
theorem dX1_send_76 : decode cX1_send 76 = .ok (.iastore, 1) := by decide +kernel
theorem dX1_send_77 : decode cX1_send 77 = .ok (.aload_n 0, 1) := by decide +kernel
theorem dX1_send_78 : decode cX1_send 78 = .ok (.getfield 26, 3) := by decide +kernel
theorem dX1_send_81 : decode cX1_send 81 = .ok (.iload 5, 2) := by decide +kernel
theorem dX1_send_83 : decode cX1_send 83 = .ok (.iload_n 3, 1) := by decide +kernel
theorem dX1_send_84 : decode cX1_send 84 = .ok (.iastore, 1) := by decide +kernel
theorem dX1_send_85 : decode cX1_send 85 = .ok (.aload_n 0, 1) := by decide +kernel
theorem dX1_send_86 : decode cX1_send 86 = .ok (.getfield 29, 3) := by decide +kernel
theorem dX1_send_89 : decode cX1_send 89 = .ok (.iload 5, 2) := by decide +kernel
theorem dX1_send_91 : decode cX1_send 91 = .ok (.iload 4, 2) := by decide +kernel
theorem dX1_send_93 : decode cX1_send 93 = .ok (.iastore, 1) := by decide +kernel
theorem dX1_send_94 : decode cX1_send 94 = .ok (.aload_n 0, 1) := by decide +kernel
theorem dX1_send_95 : decode cX1_send 95 = .ok (.getfield 32, 3) := by decide +kernel
theorem dX1_send_98 : decode cX1_send 98 = .ok (.iload 5, 2) := by decide +kernel
theorem dX1_send_100 : decode cX1_send 100 = .ok (.iload_n 2, 1) := by decide +kernel
theorem dX1_send_101 : decode cX1_send 101 = .ok (.iastore, 1) := by decide +kernel
theorem dX1_send_102 : decode cX1_send 102 = .ok (.aload_n 0, 1) := by decide +kernel
theorem dX1_send_103 : decode cX1_send 103 = .ok (.iload 5, 2) := by decide +kernel
theorem dX1_send_105 : decode cX1_send 105 = .ok (.iconst 1, 1) := by decide +kernel
theorem dX1_send_106 : decode cX1_send 106 = .ok (.iadd, 1) := by decide +kernel
theorem dX1_send_107 : decode cX1_send 107 = .ok (.putfield 7, 3) := by decide +kernel
theorem dX1_send_110 : decode cX1_send 110 = .ok (.iload 5, 2) := by decide +kernel
theorem dX1_send_112 : decode cX1_send 112 = .ok (.ireturn, 1) := by decide +kernel
set_option maxRecDepth 20000 in
theorem ggX1_recall_X1_checkDelegate : GoodIn wsX1_recall wsX1_checkDelegate := goodIn_ca (goodIn_r _ [11, 12, 13, 6, 18, 19, 20, 21, 22, 23, 24, 25, 26, 27] (by decide +kernel) (by decide +kernel)) (goodIn_sub (fun _ h => List.mem_cons_of_mem _ (List.mem_append_right _ h)) (by decide +kernel))
set_option maxRecDepth 20000 in
theorem gX1_recall_X1_checkDelegate : GoodIn wsX1_recall (wsV RX1 69 RX1 yX1_checkDelegate wsX1_checkDelegate) := goodIn_app (goodIn_of _ (by decide +kernel)) ggX1_recall_X1_checkDelegate
set_option maxRecDepth 20000 in
theorem ggX1_recall_X1_closeGap : GoodIn wsX1_recall wsX1_closeGap := goodIn_r _ [17, 6, 18, 19, 20, 21, 22, 23, 24, 25, 26, 27] (by decide +kernel) (by decide +kernel)
set_option maxRecDepth 20000 in
theorem gX1_recall_X1_closeGap : GoodIn wsX1_recall (wsV RX1 72 RX1 yX1_closeGap wsX1_closeGap) := goodIn_app (goodIn_of _ (by decide +kernel)) ggX1_recall_X1_closeGap
theorem dX1_recall_0 : decode cX1_recall 0 = .ok (.aload_n 0, 1) := by decide +kernel
theorem dX1_recall_1 : decode cX1_recall 1 = .ok (.iload_n 1, 1) := by decide +kernel
theorem dX1_recall_2 : decode cX1_recall 2 = .ok (.invokevirtual 69, 3) := by decide +kernel
theorem dX1_recall_5 : decode cX1_recall 5 = .ok (.aload_n 0, 1) := by decide +kernel
theorem dX1_recall_6 : decode cX1_recall 6 = .ok (.getfield 32, 3) := by decide +kernel
theorem dX1_recall_9 : decode cX1_recall 9 = .ok (.iload_n 1, 1) := by decide +kernel
theorem dX1_recall_10 : decode cX1_recall 10 = .ok (.iaload, 1) := by decide +kernel
theorem dX1_recall_11 : decode cX1_recall 11 = .ok (.istore_n 2, 1) := by decide +kernel
theorem dX1_recall_12 : decode cX1_recall 12 = .ok (.aload_n 0, 1) := by decide +kernel
theorem dX1_recall_13 : decode cX1_recall 13 = .ok (.aload_n 0, 1) := by decide +kernel
theorem dX1_recall_14 : decode cX1_recall 14 = .ok (.getfield 19, 3) := by decide +kernel
theorem dX1_recall_17 : decode cX1_recall 17 = .ok (.iload_n 1, 1) := by decide +kernel
theorem dX1_recall_18 : decode cX1_recall 18 = .ok (.invokevirtual 72, 3) := by decide +kernel
theorem dX1_recall_21 : decode cX1_recall 21 = .ok (.aload_n 0, 1) := by decide +kernel
theorem dX1_recall_22 : decode cX1_recall 22 = .ok (.aload_n 0, 1) := by decide +kernel
theorem dX1_recall_23 : decode cX1_recall 23 = .ok (.getfield 23, 3) := by decide +kernel
theorem dX1_recall_26 : decode cX1_recall 26 = .ok (.iload_n 1, 1) := by decide +kernel
theorem dX1_recall_27 : decode cX1_recall 27 = .ok (.invokevirtual 72, 3) := by decide +kernel
theorem dX1_recall_30 : decode cX1_recall 30 = .ok (.aload_n 0, 1) := by decide +kernel
theorem dX1_recall_31 : decode cX1_recall 31 = .ok (.aload_n 0, 1) := by decide +kernel
theorem dX1_recall_32 : decode cX1_recall 32 = .ok (.getfield 26, 3) := by decide +kernel
theorem dX1_recall_35 : decode cX1_recall 35 = .ok (.iload_n 1, 1) := by decide +kernel
theorem dX1_recall_36 : decode cX1_recall 36 = .ok (.invokevirtual 72, 3) := by decide +kernel
theorem dX1_recall_39 : decode cX1_recall 39 = .ok (.aload_n 0, 1) := by decide +kernel
theorem dX1_recall_40 : decode cX1_recall 40 = .ok (.aload_n 0, 1) := by decide +kernel
theorem dX1_recall_41 : decode cX1_recall 41 = .ok (.getfield 29, 3) := by decide +kernel
theorem dX1_recall_44 : decode cX1_recall 44 = .ok (.iload_n 1, 1) := by decide +kernel
theorem dX1_recall_45 : decode cX1_recall 45 = .ok (.invokevirtual 72, 3) := by decide +kernel
theorem dX1_recall_48 : decode cX1_recall 48 = .ok (.aload_n 0, 1) := by decide +kernel
theorem dX1_recall_49 : decode cX1_recall 49 = .ok (.aload_n 0, 1) := by decide +kernel
theorem dX1_recall_50 : decode cX1_recall 50 = .ok (.getfield 32, 3) := by decide +kernel
theorem dX1_recall_53 : decode cX1_recall 53 = .ok (.iload_n 1, 1) := by decide +kernel
theorem dX1_recall_54 : decode cX1_recall 54 = .ok (.invokevirtual 72, 3) := by decide +kernel
theorem dX1_recall_57 : decode cX1_recall 57 = .ok (.aload_n 0, 1) := by decide +kernel
theorem dX1_recall_58 : decode cX1_recall 58 = .ok (.dup, 1) := by decide +kernel
theorem dX1_recall_59 : decode cX1_recall 59 = .ok (.getfield 7, 3) := by decide +kernel
theorem dX1_recall_62 : decode cX1_recall 62 = .ok (.iconst 1, 1) := by decide +kernel
theorem dX1_recall_63 : decode cX1_recall 63 = .ok (.isub, 1) := by decide +kernel
theorem dX1_recall_64 : decode cX1_recall 64 = .ok (.putfield 7, 3) := by decide +kernel
theorem dX1_recall_67 : decode cX1_recall 67 = .ok (.iload_n 2, 1) := by decide +kernel
theorem dX1_recall_68 : decode cX1_recall 68 = .ok (.ireturn, 1) := by decide +kernel
set_option maxRecDepth 20000 in
theorem ggX1_persuade_X1_checkDelegate : GoodIn wsX1_persuade wsX1_checkDelegate := goodIn_ca (goodIn_r _ [6, 7, 8, 9, 13, 14, 15, 16, 17, 18, 19, 20, 21, 22] (by decide +kernel) (by decide +kernel)) (goodIn_sub (fun _ h => List.mem_cons_of_mem _ (List.mem_append_right _ h)) (by decide +kernel))
set_option maxRecDepth 20000 in
theorem gX1_persuade_X1_checkDelegate : GoodIn wsX1_persuade (wsV RX1 69 RX1 yX1_checkDelegate wsX1_checkDelegate) := goodIn_app (goodIn_of _ (by decide +kernel)) ggX1_persuade_X1_checkDelegate
set_option maxRecDepth 20000 in
theorem ggX1_persuade_X1_checkPlank : GoodIn wsX1_persuade wsX1_checkPlank := goodIn_ca (goodIn_r _ [12, 7, 8] (by decide +kernel) (by decide +kernel)) (goodIn_sub (fun _ h => List.mem_cons_of_mem _ (List.mem_append_right _ h)) (by decide +kernel))
set_option maxRecDepth 20000 in
theorem gX1_persuade_X1_checkPlank : GoodIn wsX1_persuade (va_wsS RX1 49 yX1_checkPlank wsX1_checkPlank) := goodIn_app (goodIn_of _ (by decide +kernel)) ggX1_persuade_X1_checkPlank
theorem dX1_persuade_0 : decode cX1_persuade 0 = .ok (.aload_n 0, 1) := by decide +kernel
theorem dX1_persuade_1 : decode cX1_persuade 1 = .ok (.iload_n 1, 1) := by decide +kernel
theorem dX1_persuade_2 : decode cX1_persuade 2 = .ok (.invokevirtual 69, 3) := by decide +kernel
theorem dX1_persuade_5 : decode cX1_persuade 5 = .ok (.iload_n 2, 1) := by decide +kernel
theorem dX1_persuade_6 : decode cX1_persuade 6 = .ok (.invokestatic 49, 3) := by decide +kernel
theorem dX1_persuade_9 : decode cX1_persuade 9 = .ok (.aload_n 0, 1) := by decide +kernel
theorem dX1_persuade_10 : decode cX1_persuade 10 = .ok (.getfield 23, 3) := by decide +kernel
theorem dX1_persuade_13 : decode cX1_persuade 13 = .ok (.iload_n 1, 1) := by decide +kernel
theorem dX1_persuade_14 : decode cX1_persuade 14 = .ok (.iaload, 1) := by decide +kernel
theorem dX1_persuade_15 : decode cX1_persuade 15 = .ok (.istore_n 3, 1) := by decide +kernel
theorem dX1_persuade_16 : decode cX1_persuade 16 = .ok (.aload_n 0, 1) := by decide +kernel
theorem dX1_persuade_17 : decode cX1_persuade 17 = .ok (.getfield 23, 3) := by decide +kernel
theorem dX1_persuade_20 : decode cX1_persuade 20 = .ok (.iload_n 1, 1) := by decide +kernel
theorem dX1_persuade_21 : decode cX1_persuade 21 = .ok (.iload_n 2, 1) := by decide +kernel
theorem dX1_persuade_22 : decode cX1_persuade 22 = .ok (.iastore, 1) := by decide +kernel
theorem dX1_persuade_23 : decode cX1_persuade 23 = .ok (.iload_n 3, 1) := by decide +kernel
theorem dX1_persuade_24 : decode cX1_persuade 24 = .ok (.ireturn, 1) := by decide +kernel
set_option maxRecDepth 20000 in
theorem ggX1_lead_X1_checkDelegate : GoodIn wsX1_lead wsX1_checkDelegate := goodIn_ca (goodIn_r _ [8, 9, 10, 11, 42, 43, 44, 45, 46, 47, 48, 49, 50, 51] (by decide +kernel) (by decide +kernel)) (goodIn_sub (fun _ h => List.mem_cons_of_mem _ (List.mem_append_right _ h)) (by decide +kernel))
set_option maxRecDepth 20000 in
theorem gX1_lead_X1_checkDelegate : GoodIn wsX1_lead (wsV RX1 69 RX1 yX1_checkDelegate wsX1_checkDelegate) := goodIn_app (goodIn_of _ (by decide +kernel)) ggX1_lead_X1_checkDelegate
set_option maxRecDepth 20000 in
theorem ggX1_lead_X1_checkPlank : GoodIn wsX1_lead wsX1_checkPlank := goodIn_ca (goodIn_r _ [14, 9, 10] (by decide +kernel) (by decide +kernel)) (goodIn_sub (fun _ h => List.mem_cons_of_mem _ (List.mem_append_right _ h)) (by decide +kernel))
set_option maxRecDepth 20000 in
theorem gX1_lead_X1_checkPlank : GoodIn wsX1_lead (va_wsS RX1 49 yX1_checkPlank wsX1_checkPlank) := goodIn_app (goodIn_of _ (by decide +kernel)) ggX1_lead_X1_checkPlank
set_option maxRecDepth 20000 in
theorem ggX1_lead_X1_isWilling : GoodIn wsX1_lead wsX1_isWilling := goodIn_r _ [18, 19, 20, 21, 22, 7, 23, 24, 25, 26, 27, 28, 42, 43, 44, 45, 46, 47, 48, 49, 50, 51] (by decide +kernel) (by decide +kernel)
set_option maxRecDepth 20000 in
theorem gX1_lead_X1_isWilling : GoodIn wsX1_lead (wsV RX1 76 RX1 yX1_isWilling wsX1_isWilling) := goodIn_app (goodIn_of _ (by decide +kernel)) ggX1_lead_X1_isWilling
set_option maxRecDepth 20000 in
theorem ggX1_lead_X1_hasPlaceFor : GoodIn wsX1_lead wsX1_hasPlaceFor := goodIn_r _ [32, 3, 33, 34, 35, 7, 36, 37, 38, 39, 40, 41, 11, 42, 43, 44, 45, 46, 47, 48, 49, 50, 51] (by decide +kernel) (by decide +kernel)
set_option maxRecDepth 20000 in
theorem gX1_lead_X1_hasPlaceFor : GoodIn wsX1_lead (wsV RX1 82 RX1 yX1_hasPlaceFor wsX1_hasPlaceFor) := goodIn_app (goodIn_of _ (by decide +kernel)) ggX1_lead_X1_hasPlaceFor
theorem dX1_lead_0 : decode cX1_lead 0 = .ok (.aload_n 0, 1) := by decide +kernel
theorem dX1_lead_1 : decode cX1_lead 1 = .ok (.iload_n 1, 1) := by decide +kernel
theorem dX1_lead_2 : decode cX1_lead 2 = .ok (.invokevirtual 69, 3) := by decide +kernel
theorem dX1_lead_5 : decode cX1_lead 5 = .ok (.iload_n 2, 1) := by decide +kernel
theorem dX1_lead_6 : decode cX1_lead 6 = .ok (.invokestatic 49, 3) := by decide +kernel
theorem dX1_lead_9 : decode cX1_lead 9 = .ok (.aload_n 0, 1) := by decide +kernel
theorem dX1_lead_10 : decode cX1_lead 10 = .ok (.iload_n 1, 1) := by decide +kernel
theorem dX1_lead_11 : decode cX1_lead 11 = .ok (.iload_n 2, 1) := by decide +kernel
theorem dX1_lead_12 : decode cX1_lead 12 = .ok (.invokevirtual 76, 3) := by decide +kernel
theorem dX1_lead_15 : decode cX1_lead 15 = .ok (.ifCond .ne 13, 3) := by decide +kernel
theorem dX1_lead_18 : decode cX1_lead 18 = .ok (.new 56, 3) := by decide +kernel
theorem dX1_lead_21 : decode cX1_lead 21 = .ok (.dup, 1) := by decide +kernel
theorem dX1_lead_22 : decode cX1_lead 22 = .ok (.ldc 80, 2) := by decide +kernel
theorem dX1_lead_24 : decode cX1_lead 24 = .ok (.invokespecial 60, 3) := by decide +kernel
theorem dX1_lead_27 : decode cX1_lead 27 = .ok (.athrow, 1) := by decide +kernel
theorem dX1_lead_28 : decode cX1_lead 28 = .ok (.aload_n 0, 1) := by decide +kernel
theorem dX1_lead_29 : decode cX1_lead 29 = .ok (.iload_n 1, 1) := by decide +kernel
theorem dX1_lead_30 : decode cX1_lead 30 = .ok (.iload_n 2, 1) := by decide +kernel
theorem dX1_lead_31 : decode cX1_lead 31 = .ok (.invokevirtual 82, 3) := by decide +kernel
theorem dX1_lead_34 : decode cX1_lead 34 = .ok (.ifCond .ne 13, 3) := by decide +kernel
theorem dX1_lead_37 : decode cX1_lead 37 = .ok (.new 56, 3) := by decide +kernel
theorem dX1_lead_40 : decode cX1_lead 40 = .ok (.dup, 1) := by decide +kernel
theorem dX1_lead_41 : decode cX1_lead 41 = .ok (.ldc 67, 2) := by decide +kernel
theorem dX1_lead_43 : decode cX1_lead 43 = .ok (.invokespecial 60, 3) := by decide +kernel
theorem dX1_lead_46 : decode cX1_lead 46 = .ok (.athrow, 1) := by decide +kernel
theorem dX1_lead_47 : decode cX1_lead 47 = .ok (.aload_n 0, 1) := by decide +kernel
theorem dX1_lead_48 : decode cX1_lead 48 = .ok (.getfield 32, 3) := by decide +kernel
theorem dX1_lead_51 : decode cX1_lead 51 = .ok (.iload_n 1, 1) := by decide +kernel
theorem dX1_lead_52 : decode cX1_lead 52 = .ok (.iaload, 1) := by decide +kernel
theorem dX1_lead_53 : decode cX1_lead 53 = .ok (.istore_n 3, 1) := by decide +kernel
theorem dX1_lead_54 : decode cX1_lead 54 = .ok (.aload_n 0, 1) := by decide +kernel
theorem dX1_lead_55 : decode cX1_lead 55 = .ok (.getfield 32, 3) := by decide +kernel
theorem dX1_lead_58 : decode cX1_lead 58 = .ok (.iload_n 1, 1) := by decide +kernel
theorem dX1_lead_59 : decode cX1_lead 59 = .ok (.iload_n 2, 1) := by decide +kernel
theorem dX1_lead_60 : decode cX1_lead 60 = .ok (.iastore, 1) := by decide +kernel
theorem dX1_lead_61 : decode cX1_lead 61 = .ok (.iload_n 3, 1) := by decide +kernel
theorem dX1_lead_62 : decode cX1_lead 62 = .ok (.ireturn, 1) := by decide +kernel
theorem dX1_setStrength_0 : decode cX1_setStrength 0 = .ok (.iload_n 1, 1) := by decide +kernel
theorem dX1_setStrength_1 : decode cX1_setStrength 1 = .ok (.iconst 1, 1) := by decide +kernel
theorem dX1_setStrength_2 : decode cX1_setStrength 2 = .ok (.if_icmp .lt 9, 3) := by decide +kernel
theorem dX1_setStrength_5 : decode cX1_setStrength 5 = .ok (.iload_n 1, 1) := by decide +kernel
theorem dX1_setStrength_6 : decode cX1_setStrength 6 = .ok (.bipush 12, 2) := by decide +kernel
theorem dX1_setStrength_8 : decode cX1_setStrength 8 = .ok (.if_icmp .le 13, 3) := by decide +kernel
theorem dX1_setStrength_11 : decode cX1_setStrength 11 = .ok (.new 85, 3) := by decide +kernel
theorem dX1_setStrength_14 : decode cX1_setStrength 14 = .ok (.dup, 1) := by decide +kernel
theorem dX1_setStrength_15 : decode cX1_setStrength 15 = .ok (.ldc 87, 2) := by decide +kernel
theorem dX1_setStrength_17 : decode cX1_setStrength 17 = .ok (.invokespecial 89, 3) := by decide +kernel
theorem dX1_setStrength_20 : decode cX1_setStrength 20 = .ok (.athrow, 1) := by decide +kernel
theorem dX1_setStrength_21 : decode cX1_setStrength 21 = .ok (.aload_n 0, 1) := by decide +kernel
theorem dX1_setStrength_22 : decode cX1_setStrength 22 = .ok (.getfield 16, 3) := by decide +kernel
theorem dX1_setStrength_25 : decode cX1_setStrength 25 = .ok (.istore_n 2, 1) := by decide +kernel
theorem dX1_setStrength_26 : decode cX1_setStrength 26 = .ok (.aload_n 0, 1) := by decide +kernel
theorem dX1_setStrength_27 : decode cX1_setStrength 27 = .ok (.iload_n 1, 1) := by decide +kernel
theorem dX1_setStrength_28 : decode cX1_setStrength 28 = .ok (.putfield 16, 3) := by decide +kernel
theorem dX1_setStrength_31 : decode cX1_setStrength 31 = .ok (.iload_n 2, 1) := by decide +kernel
theorem dX1_setStrength_32 : decode cX1_setStrength 32 = .ok (.ireturn, 1) := by decide +kernel
set_option maxRecDepth 20000 in
theorem ggX1_passRounds_X1_checkRounds : GoodIn wsX1_passRounds wsX1_checkRounds := goodIn_ca (goodIn_r _ [6, 7, 8] (by decide +kernel) (by decide +kernel)) (goodIn_sub (fun _ h => List.mem_cons_of_mem _ (List.mem_append_right _ h)) (by decide +kernel))
set_option maxRecDepth 20000 in
theorem gX1_passRounds_X1_checkRounds : GoodIn wsX1_passRounds (va_wsS RX1 90 yX1_checkRounds wsX1_checkRounds) := goodIn_app (goodIn_of _ (by decide +kernel)) ggX1_passRounds_X1_checkRounds
set_option maxRecDepth 20000 in
theorem ggX1_passRounds_X1_goRounds : GoodIn wsX1_passRounds wsX1_goRounds := goodIn_r _ [12, 13, 14, 15, 5, 16, 17, 18, 19, 20, 21, 22, 23, 24, 25, 26, 27, 28, 29, 30, 31, 32, 33, 34, 35, 36, 37, 38, 39, 40, 41, 42, 43, 44, 45, 46, 47, 48, 49, 50, 51, 52, 53, 54, 55, 56, 57, 58, 59, 60, 61, 62, 63, 64, 65, 66, 67, 68, 69, 70, 71, 72, 73, 74, 75, 76, 77, 78, 79] (by decide +kernel) (by decide +kernel)
set_option maxRecDepth 20000 in
theorem gX1_passRounds_X1_goRounds : GoodIn wsX1_passRounds (wsV RX1 93 RX1 yX1_goRounds wsX1_goRounds) := goodIn_app (goodIn_of _ (by decide +kernel)) ggX1_passRounds_X1_goRounds
theorem dX1_passRounds_0 : decode cX1_passRounds 0 = .ok (.iload_n 1, 1) := by decide +kernel
theorem dX1_passRounds_1 : decode cX1_passRounds 1 = .ok (.invokestatic 90, 3) := by decide +kernel
theorem dX1_passRounds_4 : decode cX1_passRounds 4 = .ok (.aload_n 0, 1) := by decide +kernel
theorem dX1_passRounds_5 : decode cX1_passRounds 5 = .ok (.dup, 1) := by decide +kernel
theorem dX1_passRounds_6 : decode cX1_passRounds 6 = .ok (.getfield 13, 3) := by decide +kernel
theorem dX1_passRounds_9 : decode cX1_passRounds 9 = .ok (.iload_n 1, 1) := by decide +kernel
theorem dX1_passRounds_10 : decode cX1_passRounds 10 = .ok (.iadd, 1) := by decide +kernel
theorem dX1_passRounds_11 : decode cX1_passRounds 11 = .ok (.putfield 13, 3) := by decide +kernel
theorem dX1_passRounds_14 : decode cX1_passRounds 14 = .ok (.aload_n 0, 1) := by decide +kernel
theorem dX1_passRounds_15 : decode cX1_passRounds 15 = .ok (.aload_n 0, 1) := by decide +kernel
theorem dX1_passRounds_16 : decode cX1_passRounds 16 = .ok (.getfield 32, 3) := by decide +kernel
theorem dX1_passRounds_19 : decode cX1_passRounds 19 = .ok (.iload_n 1, 1) := by decide +kernel
theorem dX1_passRounds_20 : decode cX1_passRounds 20 = .ok (.invokevirtual 93, 3) := by decide +kernel
theorem dX1_passRounds_23 : decode cX1_passRounds 23 = .ok (.ireturn, 1) := by decide +kernel
theorem dX1_delegates_0 : decode cX1_delegates 0 = .ok (.aload_n 0, 1) := by decide +kernel
theorem dX1_delegates_1 : decode cX1_delegates 1 = .ok (.getfield 7, 3) := by decide +kernel
theorem dX1_delegates_4 : decode cX1_delegates 4 = .ok (.ireturn, 1) := by decide +kernel
theorem dX1_rounds_0 : decode cX1_rounds 0 = .ok (.aload_n 0, 1) := by decide +kernel
theorem dX1_rounds_1 : decode cX1_rounds 1 = .ok (.getfield 13, 3) := by decide +kernel
theorem dX1_rounds_4 : decode cX1_rounds 4 = .ok (.ireturn, 1) := by decide +kernel
theorem dX1_strength_0 : decode cX1_strength 0 = .ok (.aload_n 0, 1) := by decide +kernel
theorem dX1_strength_1 : decode cX1_strength 1 = .ok (.getfield 16, 3) := by decide +kernel
theorem dX1_strength_4 : decode cX1_strength 4 = .ok (.ireturn, 1) := by decide +kernel
set_option maxRecDepth 20000 in
theorem ggX1_villageOf_X1_checkDelegate : GoodIn wsX1_villageOf wsX1_checkDelegate := goodIn_ca (goodIn_r _ [6, 7, 8, 9, 10, 11, 12, 13, 14, 15, 16, 17, 18, 19] (by decide +kernel) (by decide +kernel)) (goodIn_sub (fun _ h => List.mem_cons_of_mem _ (List.mem_append_right _ h)) (by decide +kernel))
set_option maxRecDepth 20000 in
theorem gX1_villageOf_X1_checkDelegate : GoodIn wsX1_villageOf (wsV RX1 69 RX1 yX1_checkDelegate wsX1_checkDelegate) := goodIn_app (goodIn_of _ (by decide +kernel)) ggX1_villageOf_X1_checkDelegate
theorem dX1_villageOf_0 : decode cX1_villageOf 0 = .ok (.aload_n 0, 1) := by decide +kernel
theorem dX1_villageOf_1 : decode cX1_villageOf 1 = .ok (.iload_n 1, 1) := by decide +kernel
theorem dX1_villageOf_2 : decode cX1_villageOf 2 = .ok (.invokevirtual 69, 3) := by decide +kernel
theorem dX1_villageOf_5 : decode cX1_villageOf 5 = .ok (.aload_n 0, 1) := by decide +kernel
theorem dX1_villageOf_6 : decode cX1_villageOf 6 = .ok (.getfield 19, 3) := by decide +kernel
theorem dX1_villageOf_9 : decode cX1_villageOf 9 = .ok (.iload_n 1, 1) := by decide +kernel
theorem dX1_villageOf_10 : decode cX1_villageOf 10 = .ok (.iaload, 1) := by decide +kernel
theorem dX1_villageOf_11 : decode cX1_villageOf 11 = .ok (.ireturn, 1) := by decide +kernel
set_option maxRecDepth 20000 in
theorem ggX1_wishOf_X1_checkDelegate : GoodIn wsX1_wishOf wsX1_checkDelegate := goodIn_ca (goodIn_r _ [6, 7, 8, 9, 10, 11, 12, 13, 14, 15, 16, 17, 18, 19] (by decide +kernel) (by decide +kernel)) (goodIn_sub (fun _ h => List.mem_cons_of_mem _ (List.mem_append_right _ h)) (by decide +kernel))
set_option maxRecDepth 20000 in
theorem gX1_wishOf_X1_checkDelegate : GoodIn wsX1_wishOf (wsV RX1 69 RX1 yX1_checkDelegate wsX1_checkDelegate) := goodIn_app (goodIn_of _ (by decide +kernel)) ggX1_wishOf_X1_checkDelegate
theorem dX1_wishOf_0 : decode cX1_wishOf 0 = .ok (.aload_n 0, 1) := by decide +kernel
theorem dX1_wishOf_1 : decode cX1_wishOf 1 = .ok (.iload_n 1, 1) := by decide +kernel
theorem dX1_wishOf_2 : decode cX1_wishOf 2 = .ok (.invokevirtual 69, 3) := by decide +kernel
theorem dX1_wishOf_5 : decode cX1_wishOf 5 = .ok (.aload_n 0, 1) := by decide +kernel
theorem dX1_wishOf_6 : decode cX1_wishOf 6 = .ok (.getfield 23, 3) := by decide +kernel
theorem dX1_wishOf_9 : decode cX1_wishOf 9 = .ok (.iload_n 1, 1) := by decide +kernel
theorem dX1_wishOf_10 : decode cX1_wishOf 10 = .ok (.iaload, 1) := by decide +kernel
theorem dX1_wishOf_11 : decode cX1_wishOf 11 = .ok (.ireturn, 1) := by decide +kernel
set_option maxRecDepth 20000 in
theorem ggX1_reachOf_X1_checkDelegate : GoodIn wsX1_reachOf wsX1_checkDelegate := goodIn_ca (goodIn_r _ [6, 7, 8, 9, 10, 11, 12, 13, 14, 15, 16, 17, 18, 19] (by decide +kernel) (by decide +kernel)) (goodIn_sub (fun _ h => List.mem_cons_of_mem _ (List.mem_append_right _ h)) (by decide +kernel))
set_option maxRecDepth 20000 in
theorem gX1_reachOf_X1_checkDelegate : GoodIn wsX1_reachOf (wsV RX1 69 RX1 yX1_checkDelegate wsX1_checkDelegate) := goodIn_app (goodIn_of _ (by decide +kernel)) ggX1_reachOf_X1_checkDelegate
theorem dX1_reachOf_0 : decode cX1_reachOf 0 = .ok (.aload_n 0, 1) := by decide +kernel
theorem dX1_reachOf_1 : decode cX1_reachOf 1 = .ok (.iload_n 1, 1) := by decide +kernel
theorem dX1_reachOf_2 : decode cX1_reachOf 2 = .ok (.invokevirtual 69, 3) := by decide +kernel
theorem dX1_reachOf_5 : decode cX1_reachOf 5 = .ok (.aload_n 0, 1) := by decide +kernel
theorem dX1_reachOf_6 : decode cX1_reachOf 6 = .ok (.getfield 26, 3) := by decide +kernel
theorem dX1_reachOf_9 : decode cX1_reachOf 9 = .ok (.iload_n 1, 1) := by decide +kernel
theorem dX1_reachOf_10 : decode cX1_reachOf 10 = .ok (.iaload, 1) := by decide +kernel
theorem dX1_reachOf_11 : decode cX1_reachOf 11 = .ok (.ireturn, 1) := by decide +kernel
set_option maxRecDepth 20000 in
theorem ggX1_paceOf_X1_checkDelegate : GoodIn wsX1_paceOf wsX1_checkDelegate := goodIn_ca (goodIn_r _ [6, 7, 8, 9, 10, 11, 12, 13, 14, 15, 16, 17, 18, 19] (by decide +kernel) (by decide +kernel)) (goodIn_sub (fun _ h => List.mem_cons_of_mem _ (List.mem_append_right _ h)) (by decide +kernel))
set_option maxRecDepth 20000 in
theorem gX1_paceOf_X1_checkDelegate : GoodIn wsX1_paceOf (wsV RX1 69 RX1 yX1_checkDelegate wsX1_checkDelegate) := goodIn_app (goodIn_of _ (by decide +kernel)) ggX1_paceOf_X1_checkDelegate
theorem dX1_paceOf_0 : decode cX1_paceOf 0 = .ok (.aload_n 0, 1) := by decide +kernel
theorem dX1_paceOf_1 : decode cX1_paceOf 1 = .ok (.iload_n 1, 1) := by decide +kernel
theorem dX1_paceOf_2 : decode cX1_paceOf 2 = .ok (.invokevirtual 69, 3) := by decide +kernel
theorem dX1_paceOf_5 : decode cX1_paceOf 5 = .ok (.aload_n 0, 1) := by decide +kernel
theorem dX1_paceOf_6 : decode cX1_paceOf 6 = .ok (.getfield 29, 3) := by decide +kernel
theorem dX1_paceOf_9 : decode cX1_paceOf 9 = .ok (.iload_n 1, 1) := by decide +kernel
theorem dX1_paceOf_10 : decode cX1_paceOf 10 = .ok (.iaload, 1) := by decide +kernel
theorem dX1_paceOf_11 : decode cX1_paceOf 11 = .ok (.ireturn, 1) := by decide +kernel
set_option maxRecDepth 20000 in
theorem ggX1_plankOf_X1_checkDelegate : GoodIn wsX1_plankOf wsX1_checkDelegate := goodIn_ca (goodIn_r _ [6, 7, 8, 9, 10, 11, 12, 13, 14, 15, 16, 17, 18, 19] (by decide +kernel) (by decide +kernel)) (goodIn_sub (fun _ h => List.mem_cons_of_mem _ (List.mem_append_right _ h)) (by decide +kernel))
set_option maxRecDepth 20000 in
theorem gX1_plankOf_X1_checkDelegate : GoodIn wsX1_plankOf (wsV RX1 69 RX1 yX1_checkDelegate wsX1_checkDelegate) := goodIn_app (goodIn_of _ (by decide +kernel)) ggX1_plankOf_X1_checkDelegate
theorem dX1_plankOf_0 : decode cX1_plankOf 0 = .ok (.aload_n 0, 1) := by decide +kernel
theorem dX1_plankOf_1 : decode cX1_plankOf 1 = .ok (.iload_n 1, 1) := by decide +kernel
theorem dX1_plankOf_2 : decode cX1_plankOf 2 = .ok (.invokevirtual 69, 3) := by decide +kernel
theorem dX1_plankOf_5 : decode cX1_plankOf 5 = .ok (.aload_n 0, 1) := by decide +kernel
theorem dX1_plankOf_6 : decode cX1_plankOf 6 = .ok (.getfield 32, 3) := by decide +kernel
theorem dX1_plankOf_9 : decode cX1_plankOf 9 = .ok (.iload_n 1, 1) := by decide +kernel
theorem dX1_plankOf_10 : decode cX1_plankOf 10 = .ok (.iaload, 1) := by decide +kernel
theorem dX1_plankOf_11 : decode cX1_plankOf 11 = .ok (.ireturn, 1) := by decide +kernel
set_option maxRecDepth 20000 in
theorem ggX1_standingOn_X1_checkPlank : GoodIn wsX1_standingOn wsX1_checkPlank := goodIn_ca (goodIn_r _ [5, 6, 7] (by decide +kernel) (by decide +kernel)) (goodIn_sub (fun _ h => List.mem_cons_of_mem _ (List.mem_append_right _ h)) (by decide +kernel))
set_option maxRecDepth 20000 in
theorem gX1_standingOn_X1_checkPlank : GoodIn wsX1_standingOn (va_wsS RX1 49 yX1_checkPlank wsX1_checkPlank) := goodIn_app (goodIn_of _ (by decide +kernel)) ggX1_standingOn_X1_checkPlank
set_option maxRecDepth 20000 in
theorem ggX1_standingOn_X1_crowdOn : GoodIn wsX1_standingOn wsX1_crowdOn := goodIn_r _ [11, 12, 13, 14, 15, 16, 17, 18, 19, 20, 21, 22] (by decide +kernel) (by decide +kernel)
set_option maxRecDepth 20000 in
theorem gX1_standingOn_X1_crowdOn : GoodIn wsX1_standingOn (wsV RX1 97 RX1 yX1_crowdOn wsX1_crowdOn) := goodIn_app (goodIn_of _ (by decide +kernel)) ggX1_standingOn_X1_crowdOn
theorem dX1_standingOn_0 : decode cX1_standingOn 0 = .ok (.iload_n 1, 1) := by decide +kernel
theorem dX1_standingOn_1 : decode cX1_standingOn 1 = .ok (.invokestatic 49, 3) := by decide +kernel
theorem dX1_standingOn_4 : decode cX1_standingOn 4 = .ok (.aload_n 0, 1) := by decide +kernel
theorem dX1_standingOn_5 : decode cX1_standingOn 5 = .ok (.aload_n 0, 1) := by decide +kernel
theorem dX1_standingOn_6 : decode cX1_standingOn 6 = .ok (.getfield 32, 3) := by decide +kernel
theorem dX1_standingOn_9 : decode cX1_standingOn 9 = .ok (.iload_n 1, 1) := by decide +kernel
theorem dX1_standingOn_10 : decode cX1_standingOn 10 = .ok (.invokevirtual 97, 3) := by decide +kernel
theorem dX1_standingOn_13 : decode cX1_standingOn 13 = .ok (.ireturn, 1) := by decide +kernel
set_option maxRecDepth 20000 in
theorem ggX1_spread_X1_distanceOfEnds : GoodIn wsX1_spread wsX1_distanceOfEnds := goodIn_r _ [6, 7, 8, 9, 10, 11, 12, 13, 14, 15, 16, 17, 18, 19, 20, 21, 22, 23, 24] (by decide +kernel) (by decide +kernel)
set_option maxRecDepth 20000 in
theorem gX1_spread_X1_distanceOfEnds : GoodIn wsX1_spread (wsV RX1 100 RX1 yX1_distanceOfEnds wsX1_distanceOfEnds) := goodIn_app (goodIn_of _ (by decide +kernel)) ggX1_spread_X1_distanceOfEnds
theorem dX1_spread_0 : decode cX1_spread 0 = .ok (.aload_n 0, 1) := by decide +kernel
theorem dX1_spread_1 : decode cX1_spread 1 = .ok (.aload_n 0, 1) := by decide +kernel
theorem dX1_spread_2 : decode cX1_spread 2 = .ok (.getfield 32, 3) := by decide +kernel
theorem dX1_spread_5 : decode cX1_spread 5 = .ok (.invokevirtual 100, 3) := by decide +kernel
theorem dX1_spread_8 : decode cX1_spread 8 = .ok (.ireturn, 1) := by decide +kernel
set_option maxRecDepth 20000 in
theorem ggX1_isTreaty_X1_agreesAt : GoodIn wsX1_isTreaty wsX1_agreesAt := goodIn_r _ [6, 7, 8, 9, 5, 10, 11, 12, 13, 14, 15, 16, 17, 18, 19, 20, 21, 22, 23, 24, 25, 26, 27, 28, 29, 30, 31, 32, 33] (by decide +kernel) (by decide +kernel)
set_option maxRecDepth 20000 in
theorem gX1_isTreaty_X1_agreesAt : GoodIn wsX1_isTreaty (wsV RX1 104 RX1 yX1_agreesAt wsX1_agreesAt) := goodIn_app (goodIn_of _ (by decide +kernel)) ggX1_isTreaty_X1_agreesAt
theorem dX1_isTreaty_0 : decode cX1_isTreaty 0 = .ok (.aload_n 0, 1) := by decide +kernel
theorem dX1_isTreaty_1 : decode cX1_isTreaty 1 = .ok (.aload_n 0, 1) := by decide +kernel
theorem dX1_isTreaty_2 : decode cX1_isTreaty 2 = .ok (.getfield 32, 3) := by decide +kernel
theorem dX1_isTreaty_5 : decode cX1_isTreaty 5 = .ok (.invokevirtual 104, 3) := by decide +kernel
theorem dX1_isTreaty_8 : decode cX1_isTreaty 8 = .ok (.ireturn, 1) := by decide +kernel
set_option maxRecDepth 20000 in
theorem ggX1_compromise_X1_checkSomeoneThere : GoodIn wsX1_compromise wsX1_checkSomeoneThere := goodIn_ca (goodIn_r _ [6, 7, 8, 9, 30, 31, 32, 33, 34, 35, 36, 37, 38, 39] (by decide +kernel) (by decide +kernel)) (goodIn_sub (fun _ h => List.mem_cons_of_mem _ (List.mem_append_right _ h)) (by decide +kernel))
set_option maxRecDepth 20000 in
theorem gX1_compromise_X1_checkSomeoneThere : GoodIn wsX1_compromise (wsV RX1 108 RX1 yX1_checkSomeoneThere wsX1_checkSomeoneThere) := goodIn_app (goodIn_of _ (by decide +kernel)) ggX1_compromise_X1_checkSomeoneThere
set_option maxRecDepth 20000 in
theorem ggX1_compromise_X1_middleOfAll : GoodIn wsX1_compromise wsX1_middleOfAll := goodIn_r _ [13, 14, 9, 15, 16, 17, 18, 19, 20, 21, 22, 23, 24, 25, 26, 27, 28, 29, 30, 31, 32, 33, 34, 35, 36, 37, 38, 39, 40, 41] (by decide +kernel) (by decide +kernel)
set_option maxRecDepth 20000 in
theorem gX1_compromise_X1_middleOfAll : GoodIn wsX1_compromise (wsV RX1 111 RX1 yX1_middleOfAll wsX1_middleOfAll) := goodIn_app (goodIn_of _ (by decide +kernel)) ggX1_compromise_X1_middleOfAll
theorem dX1_compromise_0 : decode cX1_compromise 0 = .ok (.aload_n 0, 1) := by decide +kernel
theorem dX1_compromise_1 : decode cX1_compromise 1 = .ok (.invokevirtual 108, 3) := by decide +kernel
theorem dX1_compromise_4 : decode cX1_compromise 4 = .ok (.aload_n 0, 1) := by decide +kernel
theorem dX1_compromise_5 : decode cX1_compromise 5 = .ok (.aload_n 0, 1) := by decide +kernel
theorem dX1_compromise_6 : decode cX1_compromise 6 = .ok (.getfield 32, 3) := by decide +kernel
theorem dX1_compromise_9 : decode cX1_compromise 9 = .ok (.invokevirtual 111, 3) := by decide +kernel
theorem dX1_compromise_12 : decode cX1_compromise 12 = .ok (.ireturn, 1) := by decide +kernel
set_option maxRecDepth 20000 in
theorem ggX1_compromiseOf_X1_checkVillage : GoodIn wsX1_compromiseOf wsX1_checkVillage := goodIn_ca (goodIn_r _ [7, 8, 9] (by decide +kernel) (by decide +kernel)) (goodIn_sub (fun _ h => List.mem_cons_of_mem _ (List.mem_append_right _ h)) (by decide +kernel))
set_option maxRecDepth 20000 in
theorem gX1_compromiseOf_X1_checkVillage : GoodIn wsX1_compromiseOf (va_wsS RX1 45 yX1_checkVillage wsX1_checkVillage) := goodIn_app (goodIn_of _ (by decide +kernel)) ggX1_compromiseOf_X1_checkVillage
set_option maxRecDepth 20000 in
theorem ggX1_compromiseOf_X1_gatherVillage : GoodIn wsX1_compromiseOf wsX1_gatherVillage := goodIn_r _ [13, 3, 14, 15, 16, 17, 18, 19, 20, 21, 22, 23, 24, 25, 26, 27, 36, 37, 38, 39, 40, 41, 42, 43, 44, 45, 46, 47] (by decide +kernel) (by decide +kernel)
set_option maxRecDepth 20000 in
theorem gX1_compromiseOf_X1_gatherVillage : GoodIn wsX1_compromiseOf (wsV RX1 114 RX1 yX1_gatherVillage wsX1_gatherVillage) := goodIn_app (goodIn_of _ (by decide +kernel)) ggX1_compromiseOf_X1_gatherVillage
set_option maxRecDepth 20000 in
theorem ggX1_compromiseOf_X0_isBare : GoodIn wsX1_compromiseOf wsX0_isBare := goodIn_r _ [31, 22, 46, 47] (by decide +kernel) (by decide +kernel)
set_option maxRecDepth 20000 in
theorem gX1_compromiseOf_X0_isBare : GoodIn wsX1_compromiseOf (wsV RX1 117 RX0 yX0_isBare wsX0_isBare) := goodIn_app (goodIn_of _ (by decide +kernel)) ggX1_compromiseOf_X0_isBare
set_option maxRecDepth 20000 in
theorem ggX1_compromiseOf_X0_middle : GoodIn wsX1_compromiseOf wsX0_middle := goodIn_r _ [35, 22, 27, 46, 47] (by decide +kernel) (by decide +kernel)
set_option maxRecDepth 20000 in
theorem gX1_compromiseOf_X0_middle : GoodIn wsX1_compromiseOf (wsV RX1 123 RX0 yX0_middle wsX0_middle) := goodIn_app (goodIn_of _ (by decide +kernel)) ggX1_compromiseOf_X0_middle
theorem dX1_compromiseOf_0 : decode cX1_compromiseOf 0 = .ok (.iload_n 1, 1) := by decide +kernel
theorem dX1_compromiseOf_1 : decode cX1_compromiseOf 1 = .ok (.invokestatic 45, 3) := by decide +kernel
theorem dX1_compromiseOf_4 : decode cX1_compromiseOf 4 = .ok (.aload_n 0, 1) := by decide +kernel
theorem dX1_compromiseOf_5 : decode cX1_compromiseOf 5 = .ok (.iload_n 1, 1) := by decide +kernel
theorem dX1_compromiseOf_6 : decode cX1_compromiseOf 6 = .ok (.invokevirtual 114, 3) := by decide +kernel
theorem dX1_compromiseOf_9 : decode cX1_compromiseOf 9 = .ok (.aload_n 0, 1) := by decide +kernel
theorem dX1_compromiseOf_10 : decode cX1_compromiseOf 10 = .ok (.getfield 41, 3) := by decide +kernel
theorem dX1_compromiseOf_13 : decode cX1_compromiseOf 13 = .ok (.invokevirtual 117, 3) := by decide +kernel
theorem dX1_compromiseOf_16 : decode cX1_compromiseOf 16 = .ok (.ifCond .eq 13, 3) := by decide +kernel
theorem dX1_compromiseOf_19 : decode cX1_compromiseOf 19 = .ok (.new 56, 3) := by decide +kernel
theorem dX1_compromiseOf_22 : decode cX1_compromiseOf 22 = .ok (.dup, 1) := by decide +kernel
theorem dX1_compromiseOf_23 : decode cX1_compromiseOf 23 = .ok (.ldc 121, 2) := by decide +kernel
theorem dX1_compromiseOf_25 : decode cX1_compromiseOf 25 = .ok (.invokespecial 60, 3) := by decide +kernel
theorem dX1_compromiseOf_28 : decode cX1_compromiseOf 28 = .ok (.athrow, 1) := by decide +kernel
theorem dX1_compromiseOf_29 : decode cX1_compromiseOf 29 = .ok (.aload_n 0, 1) := by decide +kernel
theorem dX1_compromiseOf_30 : decode cX1_compromiseOf 30 = .ok (.getfield 41, 3) := by decide +kernel
theorem dX1_compromiseOf_33 : decode cX1_compromiseOf 33 = .ok (.invokevirtual 123, 3) := by decide +kernel
theorem dX1_compromiseOf_36 : decode cX1_compromiseOf 36 = .ok (.ireturn, 1) := by decide +kernel
set_option maxRecDepth 20000 in
theorem ggX1_compromiseWithout_X1_checkDelegate : GoodIn wsX1_compromiseWithout wsX1_checkDelegate := goodIn_ca (goodIn_r _ [8, 9, 10, 11, 36, 37, 38, 39, 40, 41, 42, 43, 44, 45] (by decide +kernel) (by decide +kernel)) (goodIn_sub (fun _ h => List.mem_cons_of_mem _ (List.mem_append_right _ h)) (by decide +kernel))
set_option maxRecDepth 20000 in
theorem gX1_compromiseWithout_X1_checkDelegate : GoodIn wsX1_compromiseWithout (wsV RX1 69 RX1 yX1_checkDelegate wsX1_checkDelegate) := goodIn_app (goodIn_of _ (by decide +kernel)) ggX1_compromiseWithout_X1_checkDelegate
set_option maxRecDepth 20000 in
theorem ggX1_compromiseWithout_X1_gatherOthers : GoodIn wsX1_compromiseWithout wsX1_gatherOthers := goodIn_r _ [15, 3, 11, 16, 17, 18, 19, 20, 21, 22, 23, 24, 25, 26, 27, 36, 37, 38, 39, 40, 41, 42, 43, 44, 45, 46, 47] (by decide +kernel) (by decide +kernel)
set_option maxRecDepth 20000 in
theorem gX1_compromiseWithout_X1_gatherOthers : GoodIn wsX1_compromiseWithout (wsV RX1 127 RX1 yX1_gatherOthers wsX1_gatherOthers) := goodIn_app (goodIn_of _ (by decide +kernel)) ggX1_compromiseWithout_X1_gatherOthers
set_option maxRecDepth 20000 in
theorem ggX1_compromiseWithout_X0_isBare : GoodIn wsX1_compromiseWithout wsX0_isBare := goodIn_r _ [31, 22, 46, 47] (by decide +kernel) (by decide +kernel)
set_option maxRecDepth 20000 in
theorem gX1_compromiseWithout_X0_isBare : GoodIn wsX1_compromiseWithout (wsV RX1 117 RX0 yX0_isBare wsX0_isBare) := goodIn_app (goodIn_of _ (by decide +kernel)) ggX1_compromiseWithout_X0_isBare
set_option maxRecDepth 20000 in
theorem ggX1_compromiseWithout_X0_middle : GoodIn wsX1_compromiseWithout wsX0_middle := goodIn_r _ [35, 22, 27, 46, 47] (by decide +kernel) (by decide +kernel)
set_option maxRecDepth 20000 in
theorem gX1_compromiseWithout_X0_middle : GoodIn wsX1_compromiseWithout (wsV RX1 123 RX0 yX0_middle wsX0_middle) := goodIn_app (goodIn_of _ (by decide +kernel)) ggX1_compromiseWithout_X0_middle
theorem dX1_compromiseWithout_0 : decode cX1_compromiseWithout 0 = .ok (.aload_n 0, 1) := by decide +kernel
theorem dX1_compromiseWithout_1 : decode cX1_compromiseWithout 1 = .ok (.iload_n 1, 1) := by decide +kernel
theorem dX1_compromiseWithout_2 : decode cX1_compromiseWithout 2 = .ok (.invokevirtual 69, 3) := by decide +kernel
theorem dX1_compromiseWithout_5 : decode cX1_compromiseWithout 5 = .ok (.aload_n 0, 1) := by decide +kernel
theorem dX1_compromiseWithout_6 : decode cX1_compromiseWithout 6 = .ok (.iload_n 1, 1) := by decide +kernel
theorem dX1_compromiseWithout_7 : decode cX1_compromiseWithout 7 = .ok (.invokevirtual 127, 3) := by decide +kernel
theorem dX1_compromiseWithout_10 : decode cX1_compromiseWithout 10 = .ok (.aload_n 0, 1) := by decide +kernel
theorem dX1_compromiseWithout_11 : decode cX1_compromiseWithout 11 = .ok (.getfield 41, 3) := by decide +kernel
theorem dX1_compromiseWithout_14 : decode cX1_compromiseWithout 14 = .ok (.invokevirtual 117, 3) := by decide +kernel
theorem dX1_compromiseWithout_17 : decode cX1_compromiseWithout 17 = .ok (.ifCond .eq 13, 3) := by decide +kernel
theorem dX1_compromiseWithout_20 : decode cX1_compromiseWithout 20 = .ok (.new 56, 3) := by decide +kernel
theorem dX1_compromiseWithout_23 : decode cX1_compromiseWithout 23 = .ok (.dup, 1) := by decide +kernel
theorem dX1_compromiseWithout_24 : decode cX1_compromiseWithout 24 = .ok (.ldc 130, 2) := by decide +kernel
theorem dX1_compromiseWithout_26 : decode cX1_compromiseWithout 26 = .ok (.invokespecial 60, 3) := by decide +kernel
theorem dX1_compromiseWithout_29 : decode cX1_compromiseWithout 29 = .ok (.athrow, 1) := by decide +kernel
theorem dX1_compromiseWithout_30 : decode cX1_compromiseWithout 30 = .ok (.aload_n 0, 1) := by decide +kernel
theorem dX1_compromiseWithout_31 : decode cX1_compromiseWithout 31 = .ok (.getfield 41, 3) := by decide +kernel
theorem dX1_compromiseWithout_34 : decode cX1_compromiseWithout 34 = .ok (.invokevirtual 123, 3) := by decide +kernel
theorem dX1_compromiseWithout_37 : decode cX1_compromiseWithout 37 = .ok (.ireturn, 1) := by decide +kernel
set_option maxRecDepth 20000 in
theorem ggX1_decisiveOne_X1_checkSomeoneThere : GoodIn wsX1_decisiveOne wsX1_checkSomeoneThere := goodIn_ca (goodIn_r _ [7, 8, 9, 2, 30, 31, 32, 33, 34, 35, 36, 37, 38, 39] (by decide +kernel) (by decide +kernel)) (goodIn_sub (fun _ h => List.mem_cons_of_mem _ (List.mem_append_right _ h)) (by decide +kernel))
set_option maxRecDepth 20000 in
theorem gX1_decisiveOne_X1_checkSomeoneThere : GoodIn wsX1_decisiveOne (wsV RX1 108 RX1 yX1_checkSomeoneThere wsX1_checkSomeoneThere) := goodIn_app (goodIn_of _ (by decide +kernel)) ggX1_decisiveOne_X1_checkSomeoneThere
set_option maxRecDepth 20000 in
theorem ggX1_decisiveOne_X1_middleOfAll : GoodIn wsX1_decisiveOne wsX1_middleOfAll := goodIn_r _ [13, 14, 2, 15, 16, 17, 18, 19, 20, 21, 22, 23, 24, 25, 26, 27, 28, 29, 30, 31, 32, 33, 34, 35, 36, 37, 38, 39, 40, 41] (by decide +kernel) (by decide +kernel)
set_option maxRecDepth 20000 in
theorem gX1_decisiveOne_X1_middleOfAll : GoodIn wsX1_decisiveOne (wsV RX1 111 RX1 yX1_middleOfAll wsX1_middleOfAll) := goodIn_app (goodIn_of _ (by decide +kernel)) ggX1_decisiveOne_X1_middleOfAll
theorem dX1_decisiveOne_0 : decode cX1_decisiveOne 0 = .ok (.aload_n 0, 1) := by decide +kernel
theorem dX1_decisiveOne_1 : decode cX1_decisiveOne 1 = .ok (.invokevirtual 108, 3) := by decide +kernel
theorem dX1_decisiveOne_4 : decode cX1_decisiveOne 4 = .ok (.aload_n 0, 1) := by decide +kernel
theorem dX1_decisiveOne_5 : decode cX1_decisiveOne 5 = .ok (.aload_n 0, 1) := by decide +kernel
theorem dX1_decisiveOne_6 : decode cX1_decisiveOne 6 = .ok (.getfield 32, 3) := by decide +kernel
theorem dX1_decisiveOne_9 : decode cX1_decisiveOne 9 = .ok (.invokevirtual 111, 3) := by decide +kernel
theorem dX1_decisiveOne_12 : decode cX1_decisiveOne 12 = .ok (.istore_n 1, 1) := by decide +kernel
theorem dX1_decisiveOne_13 : decode cX1_decisiveOne 13 = .ok (.iconst 0, 1) := by decide +kernel
theorem dX1_decisiveOne_14 : decode cX1_decisiveOne 14 = .ok (.istore_n 2, 1) := by decide +kernel
theorem dX1_decisiveOne_15 : decode cX1_decisiveOne 15 = .ok (.iload_n 2, 1) := by decide +kernel
theorem dX1_decisiveOne_16 : decode cX1_decisiveOne 16 = .ok (.aload_n 0, 1) := by decide +kernel
theorem dX1_decisiveOne_17 : decode cX1_decisiveOne 17 = .ok (.getfield 7, 3) := by decide +kernel
theorem dX1_decisiveOne_20 : decode cX1_decisiveOne 20 = .ok (.iconst 1, 1) := by decide +kernel
theorem dX1_decisiveOne_21 : decode cX1_decisiveOne 21 = .ok (.isub, 1) := by decide +kernel
theorem dX1_decisiveOne_22 : decode cX1_decisiveOne 22 = .ok (.if_icmp .ge 19, 3) := by decide +kernel
theorem dX1_decisiveOne_25 : decode cX1_decisiveOne 25 = .ok (.aload_n 0, 1) := by decide +kernel
theorem dX1_decisiveOne_26 : decode cX1_decisiveOne 26 = .ok (.getfield 32, 3) := by decide +kernel
theorem dX1_decisiveOne_29 : decode cX1_decisiveOne 29 = .ok (.iload_n 2, 1) := by decide +kernel
theorem dX1_decisiveOne_30 : decode cX1_decisiveOne 30 = .ok (.iaload, 1) := by decide +kernel
theorem dX1_decisiveOne_31 : decode cX1_decisiveOne 31 = .ok (.iload_n 1, 1) := by decide +kernel
theorem dX1_decisiveOne_32 : decode cX1_decisiveOne 32 = .ok (.if_icmp .eq 9, 3) := by decide +kernel
theorem dX1_decisiveOne_35 : decode cX1_decisiveOne 35 = .ok (.iinc 2 1, 3) := by decide +kernel
theorem dX1_decisiveOne_38 : decode cX1_decisiveOne 38 = .ok (.goto (-23), 3) := by decide +kernel
theorem dX1_decisiveOne_41 : decode cX1_decisiveOne 41 = .ok (.iload_n 2, 1) := by decide +kernel
theorem dX1_decisiveOne_42 : decode cX1_decisiveOne 42 = .ok (.ireturn, 1) := by decide +kernel
set_option maxRecDepth 20000 in
theorem ggX1_discontentOf_X1_checkDelegate : GoodIn wsX1_discontentOf wsX1_checkDelegate := goodIn_ca (goodIn_r _ [6, 7, 8, 9, 39, 40, 41, 42, 43, 44, 45, 46, 47, 48] (by decide +kernel) (by decide +kernel)) (goodIn_sub (fun _ h => List.mem_cons_of_mem _ (List.mem_append_right _ h)) (by decide +kernel))
set_option maxRecDepth 20000 in
theorem gX1_discontentOf_X1_checkDelegate : GoodIn wsX1_discontentOf (wsV RX1 69 RX1 yX1_checkDelegate wsX1_checkDelegate) := goodIn_app (goodIn_of _ (by decide +kernel)) ggX1_discontentOf_X1_checkDelegate
set_option maxRecDepth 20000 in
theorem ggX1_discontentOf_X1_middleOfAll : GoodIn wsX1_discontentOf wsX1_middleOfAll := goodIn_r _ [13, 14, 9, 15, 16, 17, 18, 19, 20, 21, 22, 23, 24, 25, 26, 27, 28, 29, 39, 40, 41, 42, 43, 44, 45, 46, 47, 48, 49, 50] (by decide +kernel) (by decide +kernel)
set_option maxRecDepth 20000 in
theorem gX1_discontentOf_X1_middleOfAll : GoodIn wsX1_discontentOf (wsV RX1 111 RX1 yX1_middleOfAll wsX1_middleOfAll) := goodIn_app (goodIn_of _ (by decide +kernel)) ggX1_discontentOf_X1_middleOfAll
set_option maxRecDepth 20000 in
theorem ggX1_discontentOf_X1_discontent : GoodIn wsX1_discontentOf wsX1_discontent := goodIn_r _ [33, 34, 35, 36, 37, 38, 39, 40, 41, 42, 43, 44, 45, 46, 47, 48] (by decide +kernel) (by decide +kernel)
set_option maxRecDepth 20000 in
theorem gX1_discontentOf_X1_discontent : GoodIn wsX1_discontentOf (wsV RX1 132 RX1 yX1_discontent wsX1_discontent) := goodIn_app (goodIn_of _ (by decide +kernel)) ggX1_discontentOf_X1_discontent
theorem dX1_discontentOf_0 : decode cX1_discontentOf 0 = .ok (.aload_n 0, 1) := by decide +kernel
theorem dX1_discontentOf_1 : decode cX1_discontentOf 1 = .ok (.iload_n 1, 1) := by decide +kernel
theorem dX1_discontentOf_2 : decode cX1_discontentOf 2 = .ok (.invokevirtual 69, 3) := by decide +kernel
theorem dX1_discontentOf_5 : decode cX1_discontentOf 5 = .ok (.aload_n 0, 1) := by decide +kernel
theorem dX1_discontentOf_6 : decode cX1_discontentOf 6 = .ok (.iload_n 1, 1) := by decide +kernel
theorem dX1_discontentOf_7 : decode cX1_discontentOf 7 = .ok (.aload_n 0, 1) := by decide +kernel
theorem dX1_discontentOf_8 : decode cX1_discontentOf 8 = .ok (.aload_n 0, 1) := by decide +kernel
theorem dX1_discontentOf_9 : decode cX1_discontentOf 9 = .ok (.getfield 32, 3) := by decide +kernel
theorem dX1_discontentOf_12 : decode cX1_discontentOf 12 = .ok (.invokevirtual 111, 3) := by decide +kernel
theorem dX1_discontentOf_15 : decode cX1_discontentOf 15 = .ok (.invokevirtual 132, 3) := by decide +kernel
theorem dX1_discontentOf_18 : decode cX1_discontentOf 18 = .ok (.ireturn, 1) := by decide +kernel
set_option maxRecDepth 20000 in
theorem ggX1_allDiscontent_X1_middleOfAll : GoodIn wsX1_allDiscontent wsX1_middleOfAll := goodIn_r _ [6, 7, 8, 9, 10, 11, 12, 13, 14, 15, 16, 17, 18, 19, 20, 21, 22, 23, 37, 38, 39, 40, 41, 42, 43, 44, 45, 46, 47, 48] (by decide +kernel) (by decide +kernel)
set_option maxRecDepth 20000 in
theorem gX1_allDiscontent_X1_middleOfAll : GoodIn wsX1_allDiscontent (wsV RX1 111 RX1 yX1_middleOfAll wsX1_middleOfAll) := goodIn_app (goodIn_of _ (by decide +kernel)) ggX1_allDiscontent_X1_middleOfAll
set_option maxRecDepth 20000 in
theorem ggX1_allDiscontent_X1_discontentOfAll : GoodIn wsX1_allDiscontent wsX1_discontentOfAll := goodIn_r _ [27, 8, 28, 29, 30, 5, 31, 32, 33, 34, 35, 36, 37, 38, 39, 40, 41, 42, 43, 44, 45, 46] (by decide +kernel) (by decide +kernel)
set_option maxRecDepth 20000 in
theorem gX1_allDiscontent_X1_discontentOfAll : GoodIn wsX1_allDiscontent (wsV RX1 136 RX1 yX1_discontentOfAll wsX1_discontentOfAll) := goodIn_app (goodIn_of _ (by decide +kernel)) ggX1_allDiscontent_X1_discontentOfAll
theorem dX1_allDiscontent_0 : decode cX1_allDiscontent 0 = .ok (.aload_n 0, 1) := by decide +kernel
theorem dX1_allDiscontent_1 : decode cX1_allDiscontent 1 = .ok (.aload_n 0, 1) := by decide +kernel
theorem dX1_allDiscontent_2 : decode cX1_allDiscontent 2 = .ok (.aload_n 0, 1) := by decide +kernel
theorem dX1_allDiscontent_3 : decode cX1_allDiscontent 3 = .ok (.getfield 32, 3) := by decide +kernel
theorem dX1_allDiscontent_6 : decode cX1_allDiscontent 6 = .ok (.invokevirtual 111, 3) := by decide +kernel
theorem dX1_allDiscontent_9 : decode cX1_allDiscontent 9 = .ok (.invokevirtual 136, 3) := by decide +kernel
theorem dX1_allDiscontent_12 : decode cX1_allDiscontent 12 = .ok (.ireturn, 1) := by decide +kernel
set_option maxRecDepth 20000 in
theorem ggX1_bestPlank_X1_checkSomeoneThere : GoodIn wsX1_bestPlank wsX1_checkSomeoneThere := goodIn_ca (goodIn_r _ [5, 6, 7, 8, 22, 23, 24, 25, 26, 27, 28, 29, 30, 31] (by decide +kernel) (by decide +kernel)) (goodIn_sub (fun _ h => List.mem_cons_of_mem _ (List.mem_append_right _ h)) (by decide +kernel))
set_option maxRecDepth 20000 in
theorem gX1_bestPlank_X1_checkSomeoneThere : GoodIn wsX1_bestPlank (wsV RX1 108 RX1 yX1_checkSomeoneThere wsX1_checkSomeoneThere) := goodIn_app (goodIn_of _ (by decide +kernel)) ggX1_bestPlank_X1_checkSomeoneThere
set_option maxRecDepth 20000 in
theorem ggX1_bestPlank_X1_discontentOfAll : GoodIn wsX1_bestPlank wsX1_discontentOfAll := goodIn_r _ [12, 8, 13, 14, 15, 4, 16, 17, 18, 19, 20, 21, 22, 23, 24, 25, 26, 27, 28, 29, 30, 31] (by decide +kernel) (by decide +kernel)
set_option maxRecDepth 20000 in
theorem gX1_bestPlank_X1_discontentOfAll : GoodIn wsX1_bestPlank (wsV RX1 136 RX1 yX1_discontentOfAll wsX1_discontentOfAll) := goodIn_app (goodIn_of _ (by decide +kernel)) ggX1_bestPlank_X1_discontentOfAll
theorem dX1_bestPlank_0 : decode cX1_bestPlank 0 = .ok (.aload_n 0, 1) := by decide +kernel
theorem dX1_bestPlank_1 : decode cX1_bestPlank 1 = .ok (.invokevirtual 108, 3) := by decide +kernel
theorem dX1_bestPlank_4 : decode cX1_bestPlank 4 = .ok (.iconst 0, 1) := by decide +kernel
theorem dX1_bestPlank_5 : decode cX1_bestPlank 5 = .ok (.istore_n 1, 1) := by decide +kernel
theorem dX1_bestPlank_6 : decode cX1_bestPlank 6 = .ok (.aload_n 0, 1) := by decide +kernel
theorem dX1_bestPlank_7 : decode cX1_bestPlank 7 = .ok (.iconst 0, 1) := by decide +kernel
theorem dX1_bestPlank_8 : decode cX1_bestPlank 8 = .ok (.invokevirtual 136, 3) := by decide +kernel
theorem dX1_bestPlank_11 : decode cX1_bestPlank 11 = .ok (.istore_n 2, 1) := by decide +kernel
theorem dX1_bestPlank_12 : decode cX1_bestPlank 12 = .ok (.iconst 1, 1) := by decide +kernel
theorem dX1_bestPlank_13 : decode cX1_bestPlank 13 = .ok (.istore_n 3, 1) := by decide +kernel
theorem dX1_bestPlank_14 : decode cX1_bestPlank 14 = .ok (.iload_n 3, 1) := by decide +kernel
theorem dX1_bestPlank_15 : decode cX1_bestPlank 15 = .ok (.bipush 41, 2) := by decide +kernel
theorem dX1_bestPlank_17 : decode cX1_bestPlank 17 = .ok (.if_icmp .ge 27, 3) := by decide +kernel
theorem dX1_bestPlank_20 : decode cX1_bestPlank 20 = .ok (.aload_n 0, 1) := by decide +kernel
theorem dX1_bestPlank_21 : decode cX1_bestPlank 21 = .ok (.iload_n 3, 1) := by decide +kernel
theorem dX1_bestPlank_22 : decode cX1_bestPlank 22 = .ok (.invokevirtual 136, 3) := by decide +kernel
theorem dX1_bestPlank_25 : decode cX1_bestPlank 25 = .ok (.istore 4, 2) := by decide +kernel
theorem dX1_bestPlank_27 : decode cX1_bestPlank 27 = .ok (.iload 4, 2) := by decide +kernel
theorem dX1_bestPlank_29 : decode cX1_bestPlank 29 = .ok (.iload_n 2, 1) := by decide +kernel
theorem dX1_bestPlank_30 : decode cX1_bestPlank 30 = .ok (.if_icmp .ge 8, 3) := by decide +kernel
theorem dX1_bestPlank_33 : decode cX1_bestPlank 33 = .ok (.iload 4, 2) := by decide +kernel
theorem dX1_bestPlank_35 : decode cX1_bestPlank 35 = .ok (.istore_n 2, 1) := by decide +kernel
theorem dX1_bestPlank_36 : decode cX1_bestPlank 36 = .ok (.iload_n 3, 1) := by decide +kernel
theorem dX1_bestPlank_37 : decode cX1_bestPlank 37 = .ok (.istore_n 1, 1) := by decide +kernel
theorem dX1_bestPlank_38 : decode cX1_bestPlank 38 = .ok (.iinc 3 1, 3) := by decide +kernel
theorem dX1_bestPlank_41 : decode cX1_bestPlank 41 = .ok (.goto (-27), 3) := by decide +kernel
theorem dX1_bestPlank_44 : decode cX1_bestPlank 44 = .ok (.iload_n 1, 1) := by decide +kernel
theorem dX1_bestPlank_45 : decode cX1_bestPlank 45 = .ok (.ireturn, 1) := by decide +kernel
set_option maxRecDepth 20000 in
theorem ggX1_votesFor_X1_checkTwoPlanks : GoodIn wsX1_votesFor wsX1_checkTwoPlanks := goodIn_ca (goodIn_ca (goodIn_r _ [4, 5, 6, 7, 8, 3, 9, 10, 11] (by decide +kernel) (by decide +kernel)) (goodIn_sub (fun _ h => List.mem_cons_of_mem _ (List.mem_append_left _ (List.mem_append_right _ h))) (by decide +kernel))) (goodIn_sub (fun _ h => List.mem_cons_of_mem _ (List.mem_append_right _ h)) (by decide +kernel))
set_option maxRecDepth 20000 in
theorem gX1_votesFor_X1_checkTwoPlanks : GoodIn wsX1_votesFor (va_wsS RX1 140 yX1_checkTwoPlanks wsX1_checkTwoPlanks) := goodIn_app (goodIn_of _ (by decide +kernel)) ggX1_votesFor_X1_checkTwoPlanks
set_option maxRecDepth 20000 in
theorem ggX1_votesFor_X1_countVotes : GoodIn wsX1_votesFor wsX1_countVotes := goodIn_r _ [15, 16, 17, 18, 19, 3, 20, 21, 22, 23, 24, 25, 26, 27, 28, 29, 30, 31, 32, 33, 34, 35] (by decide +kernel) (by decide +kernel)
set_option maxRecDepth 20000 in
theorem gX1_votesFor_X1_countVotes : GoodIn wsX1_votesFor (wsV RX1 143 RX1 yX1_countVotes wsX1_countVotes) := goodIn_app (goodIn_of _ (by decide +kernel)) ggX1_votesFor_X1_countVotes
theorem dX1_votesFor_0 : decode cX1_votesFor 0 = .ok (.iload_n 1, 1) := by decide +kernel
theorem dX1_votesFor_1 : decode cX1_votesFor 1 = .ok (.iload_n 2, 1) := by decide +kernel
theorem dX1_votesFor_2 : decode cX1_votesFor 2 = .ok (.invokestatic 140, 3) := by decide +kernel
theorem dX1_votesFor_5 : decode cX1_votesFor 5 = .ok (.aload_n 0, 1) := by decide +kernel
theorem dX1_votesFor_6 : decode cX1_votesFor 6 = .ok (.iload_n 1, 1) := by decide +kernel
theorem dX1_votesFor_7 : decode cX1_votesFor 7 = .ok (.iload_n 2, 1) := by decide +kernel
theorem dX1_votesFor_8 : decode cX1_votesFor 8 = .ok (.invokevirtual 143, 3) := by decide +kernel
theorem dX1_votesFor_11 : decode cX1_votesFor 11 = .ok (.ireturn, 1) := by decide +kernel
set_option maxRecDepth 20000 in
theorem ggX1_winnerOf_X1_checkTwoPlanks : GoodIn wsX1_winnerOf wsX1_checkTwoPlanks := goodIn_ca (goodIn_ca (goodIn_r _ [8, 9, 10, 11, 12, 7, 13, 14, 15] (by decide +kernel) (by decide +kernel)) (goodIn_sub (fun _ h => List.mem_cons_of_mem _ (List.mem_append_left _ (List.mem_append_right _ h))) (by decide +kernel))) (goodIn_sub (fun _ h => List.mem_cons_of_mem _ (List.mem_append_right _ h)) (by decide +kernel))
set_option maxRecDepth 20000 in
theorem gX1_winnerOf_X1_checkTwoPlanks : GoodIn wsX1_winnerOf (va_wsS RX1 140 yX1_checkTwoPlanks wsX1_checkTwoPlanks) := goodIn_app (goodIn_of _ (by decide +kernel)) ggX1_winnerOf_X1_checkTwoPlanks
set_option maxRecDepth 20000 in
theorem ggX1_winnerOf_X1_countVotes : GoodIn wsX1_winnerOf wsX1_countVotes := goodIn_r _ [19, 20, 21, 22, 23, 7, 24, 25, 26, 27, 3, 28, 29, 30, 31, 32, 33, 34, 35, 36, 37, 38] (by decide +kernel) (by decide +kernel)
set_option maxRecDepth 20000 in
theorem gX1_winnerOf_X1_countVotes : GoodIn wsX1_winnerOf (wsV RX1 143 RX1 yX1_countVotes wsX1_countVotes) := goodIn_app (goodIn_of _ (by decide +kernel)) ggX1_winnerOf_X1_countVotes
theorem dX1_winnerOf_0 : decode cX1_winnerOf 0 = .ok (.iload_n 1, 1) := by decide +kernel
theorem dX1_winnerOf_1 : decode cX1_winnerOf 1 = .ok (.iload_n 2, 1) := by decide +kernel
theorem dX1_winnerOf_2 : decode cX1_winnerOf 2 = .ok (.invokestatic 140, 3) := by decide +kernel
theorem dX1_winnerOf_5 : decode cX1_winnerOf 5 = .ok (.aload_n 0, 1) := by decide +kernel
theorem dX1_winnerOf_6 : decode cX1_winnerOf 6 = .ok (.iload_n 1, 1) := by decide +kernel
theorem dX1_winnerOf_7 : decode cX1_winnerOf 7 = .ok (.iload_n 2, 1) := by decide +kernel
theorem dX1_winnerOf_8 : decode cX1_winnerOf 8 = .ok (.invokevirtual 143, 3) := by decide +kernel
theorem dX1_winnerOf_11 : decode cX1_winnerOf 11 = .ok (.istore_n 3, 1) := by decide +kernel
theorem dX1_winnerOf_12 : decode cX1_winnerOf 12 = .ok (.aload_n 0, 1) := by decide +kernel
theorem dX1_winnerOf_13 : decode cX1_winnerOf 13 = .ok (.iload_n 2, 1) := by decide +kernel
theorem dX1_winnerOf_14 : decode cX1_winnerOf 14 = .ok (.iload_n 1, 1) := by decide +kernel
theorem dX1_winnerOf_15 : decode cX1_winnerOf 15 = .ok (.invokevirtual 143, 3) := by decide +kernel
theorem dX1_winnerOf_18 : decode cX1_winnerOf 18 = .ok (.istore 4, 2) := by decide +kernel
theorem dX1_winnerOf_20 : decode cX1_winnerOf 20 = .ok (.iload_n 3, 1) := by decide +kernel
theorem dX1_winnerOf_21 : decode cX1_winnerOf 21 = .ok (.iload 4, 2) := by decide +kernel
theorem dX1_winnerOf_23 : decode cX1_winnerOf 23 = .ok (.if_icmp .ne 9, 3) := by decide +kernel
theorem dX1_winnerOf_26 : decode cX1_winnerOf 26 = .ok (.iload_n 1, 1) := by decide +kernel
theorem dX1_winnerOf_27 : decode cX1_winnerOf 27 = .ok (.iload_n 2, 1) := by decide +kernel
theorem dX1_winnerOf_28 : decode cX1_winnerOf 28 = .ok (.invokestatic 146, 3) := by decide +kernel
theorem dX1_winnerOf_31 : decode cX1_winnerOf 31 = .ok (.ireturn, 1) := by decide +kernel
theorem dX1_winnerOf_32 : decode cX1_winnerOf 32 = .ok (.iload_n 3, 1) := by decide +kernel
theorem dX1_winnerOf_33 : decode cX1_winnerOf 33 = .ok (.iload 4, 2) := by decide +kernel
theorem dX1_winnerOf_35 : decode cX1_winnerOf 35 = .ok (.if_icmp .le 7, 3) := by decide +kernel
theorem dX1_winnerOf_38 : decode cX1_winnerOf 38 = .ok (.iload_n 1, 1) := by decide +kernel
theorem dX1_winnerOf_39 : decode cX1_winnerOf 39 = .ok (.goto 4, 3) := by decide +kernel
theorem dX1_winnerOf_42 : decode cX1_winnerOf 42 = .ok (.iload_n 2, 1) := by decide +kernel
theorem dX1_winnerOf_43 : decode cX1_winnerOf 43 = .ok (.ireturn, 1) := by decide +kernel
set_option maxRecDepth 20000 in
theorem ggX1_canLeadTo_X1_checkDelegate : GoodIn wsX1_canLeadTo wsX1_checkDelegate := goodIn_ca (goodIn_r _ [5, 6, 7, 8, 40, 41, 42, 43, 44, 45, 46, 47, 48, 49] (by decide +kernel) (by decide +kernel)) (goodIn_sub (fun _ h => List.mem_cons_of_mem _ (List.mem_append_right _ h)) (by decide +kernel))
set_option maxRecDepth 20000 in
theorem gX1_canLeadTo_X1_checkDelegate : GoodIn wsX1_canLeadTo (wsV RX1 69 RX1 yX1_checkDelegate wsX1_checkDelegate) := goodIn_app (goodIn_of _ (by decide +kernel)) ggX1_canLeadTo_X1_checkDelegate
set_option maxRecDepth 20000 in
theorem ggX1_canLeadTo_X1_checkPlank : GoodIn wsX1_canLeadTo wsX1_checkPlank := goodIn_ca (goodIn_r _ [11, 6, 7] (by decide +kernel) (by decide +kernel)) (goodIn_sub (fun _ h => List.mem_cons_of_mem _ (List.mem_append_right _ h)) (by decide +kernel))
set_option maxRecDepth 20000 in
theorem gX1_canLeadTo_X1_checkPlank : GoodIn wsX1_canLeadTo (va_wsS RX1 49 yX1_checkPlank wsX1_checkPlank) := goodIn_app (goodIn_of _ (by decide +kernel)) ggX1_canLeadTo_X1_checkPlank
set_option maxRecDepth 20000 in
theorem ggX1_canLeadTo_X1_isWilling : GoodIn wsX1_canLeadTo wsX1_isWilling := goodIn_r _ [15, 16, 17, 18, 19, 4, 20, 21, 22, 23, 24, 25, 40, 41, 42, 43, 44, 45, 46, 47, 48, 49] (by decide +kernel) (by decide +kernel)
set_option maxRecDepth 20000 in
theorem gX1_canLeadTo_X1_isWilling : GoodIn wsX1_canLeadTo (wsV RX1 76 RX1 yX1_isWilling wsX1_isWilling) := goodIn_app (goodIn_of _ (by decide +kernel)) ggX1_canLeadTo_X1_isWilling
set_option maxRecDepth 20000 in
theorem ggX1_canLeadTo_X1_hasPlaceFor : GoodIn wsX1_canLeadTo wsX1_hasPlaceFor := goodIn_r _ [29, 30, 31, 32, 33, 4, 34, 35, 36, 37, 38, 39, 8, 40, 41, 42, 43, 44, 45, 46, 47, 48, 49] (by decide +kernel) (by decide +kernel)
set_option maxRecDepth 20000 in
theorem gX1_canLeadTo_X1_hasPlaceFor : GoodIn wsX1_canLeadTo (wsV RX1 82 RX1 yX1_hasPlaceFor wsX1_hasPlaceFor) := goodIn_app (goodIn_of _ (by decide +kernel)) ggX1_canLeadTo_X1_hasPlaceFor
theorem dX1_canLeadTo_0 : decode cX1_canLeadTo 0 = .ok (.aload_n 0, 1) := by decide +kernel
theorem dX1_canLeadTo_1 : decode cX1_canLeadTo 1 = .ok (.iload_n 1, 1) := by decide +kernel
theorem dX1_canLeadTo_2 : decode cX1_canLeadTo 2 = .ok (.invokevirtual 69, 3) := by decide +kernel
theorem dX1_canLeadTo_5 : decode cX1_canLeadTo 5 = .ok (.iload_n 2, 1) := by decide +kernel
theorem dX1_canLeadTo_6 : decode cX1_canLeadTo 6 = .ok (.invokestatic 49, 3) := by decide +kernel
theorem dX1_canLeadTo_9 : decode cX1_canLeadTo 9 = .ok (.aload_n 0, 1) := by decide +kernel
theorem dX1_canLeadTo_10 : decode cX1_canLeadTo 10 = .ok (.iload_n 1, 1) := by decide +kernel
theorem dX1_canLeadTo_11 : decode cX1_canLeadTo 11 = .ok (.iload_n 2, 1) := by decide +kernel
theorem dX1_canLeadTo_12 : decode cX1_canLeadTo 12 = .ok (.invokevirtual 76, 3) := by decide +kernel
theorem dX1_canLeadTo_15 : decode cX1_canLeadTo 15 = .ok (.ifCond .eq 16, 3) := by decide +kernel
theorem dX1_canLeadTo_18 : decode cX1_canLeadTo 18 = .ok (.aload_n 0, 1) := by decide +kernel
theorem dX1_canLeadTo_19 : decode cX1_canLeadTo 19 = .ok (.iload_n 1, 1) := by decide +kernel
theorem dX1_canLeadTo_20 : decode cX1_canLeadTo 20 = .ok (.iload_n 2, 1) := by decide +kernel
theorem dX1_canLeadTo_21 : decode cX1_canLeadTo 21 = .ok (.invokevirtual 82, 3) := by decide +kernel
theorem dX1_canLeadTo_24 : decode cX1_canLeadTo 24 = .ok (.ifCond .eq 7, 3) := by decide +kernel
theorem dX1_canLeadTo_27 : decode cX1_canLeadTo 27 = .ok (.iconst 1, 1) := by decide +kernel
theorem dX1_canLeadTo_28 : decode cX1_canLeadTo 28 = .ok (.goto 4, 3) := by decide +kernel
theorem dX1_canLeadTo_31 : decode cX1_canLeadTo 31 = .ok (.iconst 0, 1) := by decide +kernel
theorem dX1_canLeadTo_32 : decode cX1_canLeadTo 32 = .ok (.ireturn, 1) := by decide +kernel
set_option maxRecDepth 20000 in
theorem ggX1_wouldStepTo_X1_checkDelegate : GoodIn wsX1_wouldStepTo wsX1_checkDelegate := goodIn_ca (goodIn_r _ [6, 7, 8, 9, 51, 52, 53, 54, 55, 56, 57, 58, 59, 60] (by decide +kernel) (by decide +kernel)) (goodIn_sub (fun _ h => List.mem_cons_of_mem _ (List.mem_append_right _ h)) (by decide +kernel))
set_option maxRecDepth 20000 in
theorem gX1_wouldStepTo_X1_checkDelegate : GoodIn wsX1_wouldStepTo (wsV RX1 69 RX1 yX1_checkDelegate wsX1_checkDelegate) := goodIn_app (goodIn_of _ (by decide +kernel)) ggX1_wouldStepTo_X1_checkDelegate
set_option maxRecDepth 20000 in
theorem ggX1_wouldStepTo_X1_middleOfAll : GoodIn wsX1_wouldStepTo wsX1_middleOfAll := goodIn_r _ [13, 14, 9, 15, 16, 17, 18, 19, 20, 21, 22, 23, 24, 25, 26, 27, 28, 29, 51, 52, 53, 54, 55, 56, 57, 58, 59, 60, 61, 62] (by decide +kernel) (by decide +kernel)
set_option maxRecDepth 20000 in
theorem gX1_wouldStepTo_X1_middleOfAll : GoodIn wsX1_wouldStepTo (wsV RX1 111 RX1 yX1_middleOfAll wsX1_middleOfAll) := goodIn_app (goodIn_of _ (by decide +kernel)) ggX1_wouldStepTo_X1_middleOfAll
set_option maxRecDepth 20000 in
theorem ggX1_wouldStepTo_X1_stepFrom : GoodIn wsX1_wouldStepTo wsX1_stepFrom := goodIn_r _ [33, 34, 35, 36, 37, 5, 38, 39, 40, 41, 42, 43, 44, 45, 46, 47, 48, 49, 50, 51, 52, 53, 54, 55, 56, 57, 58, 59, 60] (by decide +kernel) (by decide +kernel)
set_option maxRecDepth 20000 in
theorem gX1_wouldStepTo_X1_stepFrom : GoodIn wsX1_wouldStepTo (wsV RX1 151 RX1 yX1_stepFrom wsX1_stepFrom) := goodIn_app (goodIn_of _ (by decide +kernel)) ggX1_wouldStepTo_X1_stepFrom
theorem dX1_wouldStepTo_0 : decode cX1_wouldStepTo 0 = .ok (.aload_n 0, 1) := by decide +kernel
theorem dX1_wouldStepTo_1 : decode cX1_wouldStepTo 1 = .ok (.iload_n 1, 1) := by decide +kernel
theorem dX1_wouldStepTo_2 : decode cX1_wouldStepTo 2 = .ok (.invokevirtual 69, 3) := by decide +kernel
theorem dX1_wouldStepTo_5 : decode cX1_wouldStepTo 5 = .ok (.aload_n 0, 1) := by decide +kernel
theorem dX1_wouldStepTo_6 : decode cX1_wouldStepTo 6 = .ok (.iload_n 1, 1) := by decide +kernel
theorem dX1_wouldStepTo_7 : decode cX1_wouldStepTo 7 = .ok (.aload_n 0, 1) := by decide +kernel
theorem dX1_wouldStepTo_8 : decode cX1_wouldStepTo 8 = .ok (.getfield 32, 3) := by decide +kernel
theorem dX1_wouldStepTo_11 : decode cX1_wouldStepTo 11 = .ok (.iload_n 1, 1) := by decide +kernel
theorem dX1_wouldStepTo_12 : decode cX1_wouldStepTo 12 = .ok (.iaload, 1) := by decide +kernel
theorem dX1_wouldStepTo_13 : decode cX1_wouldStepTo 13 = .ok (.aload_n 0, 1) := by decide +kernel
theorem dX1_wouldStepTo_14 : decode cX1_wouldStepTo 14 = .ok (.aload_n 0, 1) := by decide +kernel
theorem dX1_wouldStepTo_15 : decode cX1_wouldStepTo 15 = .ok (.getfield 32, 3) := by decide +kernel
theorem dX1_wouldStepTo_18 : decode cX1_wouldStepTo 18 = .ok (.invokevirtual 111, 3) := by decide +kernel
theorem dX1_wouldStepTo_21 : decode cX1_wouldStepTo 21 = .ok (.invokevirtual 151, 3) := by decide +kernel
theorem dX1_wouldStepTo_24 : decode cX1_wouldStepTo 24 = .ok (.ireturn, 1) := by decide +kernel
set_option maxRecDepth 20000 in
theorem ggX1_isStill_X1_copyPlanksToLater : GoodIn wsX1_isStill wsX1_copyPlanksToLater := goodIn_r _ [6, 7, 1, 8, 63, 64, 65, 66, 67, 68, 69, 70, 71, 72] (by decide +kernel) (by decide +kernel)
set_option maxRecDepth 20000 in
theorem gX1_isStill_X1_copyPlanksToLater : GoodIn wsX1_isStill (wsV RX1 155 RX1 yX1_copyPlanksToLater wsX1_copyPlanksToLater) := goodIn_app (goodIn_of _ (by decide +kernel)) ggX1_isStill_X1_copyPlanksToLater
set_option maxRecDepth 20000 in
theorem ggX1_isStill_X1_goRound : GoodIn wsX1_isStill wsX1_goRound := goodIn_r _ [12, 7, 13, 14, 15, 5, 16, 17, 18, 19, 20, 21, 22, 23, 24, 25, 26, 27, 28, 29, 30, 31, 32, 33, 34, 35, 36, 37, 38, 39, 40, 41, 42, 43, 44, 45, 46, 47, 48, 49, 50, 51, 52, 53, 54, 55, 56, 57, 58, 59, 60, 61, 62, 63, 64, 65, 66, 67, 68, 69, 70, 71, 72, 73, 74] (by decide +kernel) (by decide +kernel)
set_option maxRecDepth 20000 in
theorem gX1_isStill_X1_goRound : GoodIn wsX1_isStill (wsV RX1 158 RX1 yX1_goRound wsX1_goRound) := goodIn_app (goodIn_of _ (by decide +kernel)) ggX1_isStill_X1_goRound
theorem dX1_isStill_0 : decode cX1_isStill 0 = .ok (.aload_n 0, 1) := by decide +kernel
theorem dX1_isStill_1 : decode cX1_isStill 1 = .ok (.invokevirtual 155, 3) := by decide +kernel
theorem dX1_isStill_4 : decode cX1_isStill 4 = .ok (.aload_n 0, 1) := by decide +kernel
theorem dX1_isStill_5 : decode cX1_isStill 5 = .ok (.aload_n 0, 1) := by decide +kernel
theorem dX1_isStill_6 : decode cX1_isStill 6 = .ok (.getfield 35, 3) := by decide +kernel
theorem dX1_isStill_9 : decode cX1_isStill 9 = .ok (.invokevirtual 158, 3) := by decide +kernel
theorem dX1_isStill_12 : decode cX1_isStill 12 = .ok (.ifCond .ne 7, 3) := by decide +kernel
theorem dX1_isStill_15 : decode cX1_isStill 15 = .ok (.iconst 1, 1) := by decide +kernel
theorem dX1_isStill_16 : decode cX1_isStill 16 = .ok (.goto 4, 3) := by decide +kernel
theorem dX1_isStill_19 : decode cX1_isStill 19 = .ok (.iconst 0, 1) := by decide +kernel
theorem dX1_isStill_20 : decode cX1_isStill 20 = .ok (.ireturn, 1) := by decide +kernel
set_option maxRecDepth 20000 in
theorem ggX1_plankIn_X1_checkDelegate : GoodIn wsX1_plankIn wsX1_checkDelegate := goodIn_ca (goodIn_r _ [6, 7, 8, 9, 78, 79, 80, 81, 82, 83, 84, 85, 86, 87] (by decide +kernel) (by decide +kernel)) (goodIn_sub (fun _ h => List.mem_cons_of_mem _ (List.mem_append_left _ (List.mem_append_right _ h))) (by decide +kernel))
set_option maxRecDepth 20000 in
theorem gX1_plankIn_X1_checkDelegate : GoodIn wsX1_plankIn (wsV RX1 69 RX1 yX1_checkDelegate wsX1_checkDelegate) := goodIn_app (goodIn_of _ (by decide +kernel)) ggX1_plankIn_X1_checkDelegate
set_option maxRecDepth 20000 in
theorem ggX1_plankIn_X1_checkRounds : GoodIn wsX1_plankIn wsX1_checkRounds := goodIn_ca (goodIn_r _ [12, 13, 14] (by decide +kernel) (by decide +kernel)) (goodIn_sub (fun _ h => List.mem_cons_of_mem _ (List.mem_append_right _ h)) (by decide +kernel))
set_option maxRecDepth 20000 in
theorem gX1_plankIn_X1_checkRounds : GoodIn wsX1_plankIn (va_wsS RX1 90 yX1_checkRounds wsX1_checkRounds) := goodIn_app (goodIn_of _ (by decide +kernel)) ggX1_plankIn_X1_checkRounds
set_option maxRecDepth 20000 in
theorem ggX1_plankIn_X1_copyPlanksToLater : GoodIn wsX1_plankIn wsX1_copyPlanksToLater := goodIn_r _ [18, 9, 1, 19, 78, 79, 80, 81, 82, 83, 84, 85, 86, 87] (by decide +kernel) (by decide +kernel)
set_option maxRecDepth 20000 in
theorem gX1_plankIn_X1_copyPlanksToLater : GoodIn wsX1_plankIn (wsV RX1 155 RX1 yX1_copyPlanksToLater wsX1_copyPlanksToLater) := goodIn_app (goodIn_of _ (by decide +kernel)) ggX1_plankIn_X1_copyPlanksToLater
set_option maxRecDepth 20000 in
theorem ggX1_plankIn_X1_goRounds : GoodIn wsX1_plankIn wsX1_goRounds := goodIn_r _ [23, 24, 25, 26, 5, 27, 9, 28, 29, 30, 31, 32, 33, 34, 35, 36, 37, 38, 39, 40, 41, 42, 43, 44, 45, 46, 47, 48, 49, 50, 51, 52, 53, 54, 55, 56, 57, 58, 59, 60, 61, 62, 63, 64, 65, 66, 67, 68, 69, 70, 71, 72, 73, 74, 75, 76, 77, 78, 79, 80, 81, 82, 83, 84, 85, 86, 87, 88, 89] (by decide +kernel) (by decide +kernel)
set_option maxRecDepth 20000 in
theorem gX1_plankIn_X1_goRounds : GoodIn wsX1_plankIn (wsV RX1 93 RX1 yX1_goRounds wsX1_goRounds) := goodIn_app (goodIn_of _ (by decide +kernel)) ggX1_plankIn_X1_goRounds
theorem dX1_plankIn_0 : decode cX1_plankIn 0 = .ok (.aload_n 0, 1) := by decide +kernel
theorem dX1_plankIn_1 : decode cX1_plankIn 1 = .ok (.iload_n 1, 1) := by decide +kernel
theorem dX1_plankIn_2 : decode cX1_plankIn 2 = .ok (.invokevirtual 69, 3) := by decide +kernel
theorem dX1_plankIn_5 : decode cX1_plankIn 5 = .ok (.iload_n 2, 1) := by decide +kernel
theorem dX1_plankIn_6 : decode cX1_plankIn 6 = .ok (.invokestatic 90, 3) := by decide +kernel
theorem dX1_plankIn_9 : decode cX1_plankIn 9 = .ok (.aload_n 0, 1) := by decide +kernel
theorem dX1_plankIn_10 : decode cX1_plankIn 10 = .ok (.invokevirtual 155, 3) := by decide +kernel
theorem dX1_plankIn_13 : decode cX1_plankIn 13 = .ok (.aload_n 0, 1) := by decide +kernel
theorem dX1_plankIn_14 : decode cX1_plankIn 14 = .ok (.aload_n 0, 1) := by decide +kernel
theorem dX1_plankIn_15 : decode cX1_plankIn 15 = .ok (.getfield 35, 3) := by decide +kernel
theorem dX1_plankIn_18 : decode cX1_plankIn 18 = .ok (.iload_n 2, 1) := by decide +kernel
theorem dX1_plankIn_19 : decode cX1_plankIn 19 = .ok (.invokevirtual 93, 3) := by decide +kernel
theorem dX1_plankIn_22 : decode cX1_plankIn 22 = .ok (.pop, 1) := by decide +kernel
theorem dX1_plankIn_23 : decode cX1_plankIn 23 = .ok (.aload_n 0, 1) := by decide +kernel
theorem dX1_plankIn_24 : decode cX1_plankIn 24 = .ok (.getfield 35, 3) := by decide +kernel
theorem dX1_plankIn_27 : decode cX1_plankIn 27 = .ok (.iload_n 1, 1) := by decide +kernel
theorem dX1_plankIn_28 : decode cX1_plankIn 28 = .ok (.iaload, 1) := by decide +kernel
theorem dX1_plankIn_29 : decode cX1_plankIn 29 = .ok (.ireturn, 1) := by decide +kernel
set_option maxRecDepth 20000 in
theorem ggX1_compromiseIn_X1_checkRounds : GoodIn wsX1_compromiseIn wsX1_checkRounds := goodIn_ca (goodIn_r _ [5, 6, 7] (by decide +kernel) (by decide +kernel)) (goodIn_sub (fun _ h => List.mem_cons_of_mem _ (List.mem_append_left _ (List.mem_append_right _ h))) (by decide +kernel))
set_option maxRecDepth 20000 in
theorem gX1_compromiseIn_X1_checkRounds : GoodIn wsX1_compromiseIn (va_wsS RX1 90 yX1_checkRounds wsX1_checkRounds) := goodIn_app (goodIn_of _ (by decide +kernel)) ggX1_compromiseIn_X1_checkRounds
set_option maxRecDepth 20000 in
theorem ggX1_compromiseIn_X1_checkSomeoneThere : GoodIn wsX1_compromiseIn wsX1_checkSomeoneThere := goodIn_ca (goodIn_r _ [11, 12, 13, 14, 78, 79, 80, 81, 82, 83, 84, 85, 86, 87] (by decide +kernel) (by decide +kernel)) (goodIn_sub (fun _ h => List.mem_cons_of_mem _ (List.mem_append_right _ h)) (by decide +kernel))
set_option maxRecDepth 20000 in
theorem gX1_compromiseIn_X1_checkSomeoneThere : GoodIn wsX1_compromiseIn (wsV RX1 108 RX1 yX1_checkSomeoneThere wsX1_checkSomeoneThere) := goodIn_app (goodIn_of _ (by decide +kernel)) ggX1_compromiseIn_X1_checkSomeoneThere
set_option maxRecDepth 20000 in
theorem ggX1_compromiseIn_X1_copyPlanksToLater : GoodIn wsX1_compromiseIn wsX1_copyPlanksToLater := goodIn_r _ [18, 14, 1, 19, 78, 79, 80, 81, 82, 83, 84, 85, 86, 87] (by decide +kernel) (by decide +kernel)
set_option maxRecDepth 20000 in
theorem gX1_compromiseIn_X1_copyPlanksToLater : GoodIn wsX1_compromiseIn (wsV RX1 155 RX1 yX1_copyPlanksToLater wsX1_copyPlanksToLater) := goodIn_app (goodIn_of _ (by decide +kernel)) ggX1_compromiseIn_X1_copyPlanksToLater
set_option maxRecDepth 20000 in
theorem ggX1_compromiseIn_X1_goRounds : GoodIn wsX1_compromiseIn wsX1_goRounds := goodIn_r _ [23, 24, 25, 26, 4, 27, 14, 28, 29, 30, 31, 32, 33, 34, 35, 36, 37, 38, 39, 40, 41, 42, 43, 44, 45, 46, 47, 48, 49, 50, 51, 52, 53, 54, 55, 56, 57, 58, 59, 60, 61, 62, 63, 64, 65, 66, 67, 68, 69, 70, 71, 72, 73, 74, 75, 76, 77, 78, 79, 80, 81, 82, 83, 84, 85, 86, 87, 88, 89] (by decide +kernel) (by decide +kernel)
set_option maxRecDepth 20000 in
theorem gX1_compromiseIn_X1_goRounds : GoodIn wsX1_compromiseIn (wsV RX1 93 RX1 yX1_goRounds wsX1_goRounds) := goodIn_app (goodIn_of _ (by decide +kernel)) ggX1_compromiseIn_X1_goRounds
set_option maxRecDepth 20000 in
theorem ggX1_compromiseIn_X1_middleOfAll : GoodIn wsX1_compromiseIn wsX1_middleOfAll := goodIn_r _ [31, 32, 14, 33, 34, 35, 36, 37, 38, 39, 40, 41, 42, 43, 44, 45, 46, 47, 78, 79, 80, 81, 82, 83, 84, 85, 86, 87, 88, 89] (by decide +kernel) (by decide +kernel)
set_option maxRecDepth 20000 in
theorem gX1_compromiseIn_X1_middleOfAll : GoodIn wsX1_compromiseIn (wsV RX1 111 RX1 yX1_middleOfAll wsX1_middleOfAll) := goodIn_app (goodIn_of _ (by decide +kernel)) ggX1_compromiseIn_X1_middleOfAll
theorem dX1_compromiseIn_0 : decode cX1_compromiseIn 0 = .ok (.iload_n 1, 1) := by decide +kernel
theorem dX1_compromiseIn_1 : decode cX1_compromiseIn 1 = .ok (.invokestatic 90, 3) := by decide +kernel
theorem dX1_compromiseIn_4 : decode cX1_compromiseIn 4 = .ok (.aload_n 0, 1) := by decide +kernel
theorem dX1_compromiseIn_5 : decode cX1_compromiseIn 5 = .ok (.invokevirtual 108, 3) := by decide +kernel
theorem dX1_compromiseIn_8 : decode cX1_compromiseIn 8 = .ok (.aload_n 0, 1) := by decide +kernel
theorem dX1_compromiseIn_9 : decode cX1_compromiseIn 9 = .ok (.invokevirtual 155, 3) := by decide +kernel
theorem dX1_compromiseIn_12 : decode cX1_compromiseIn 12 = .ok (.aload_n 0, 1) := by decide +kernel
theorem dX1_compromiseIn_13 : decode cX1_compromiseIn 13 = .ok (.aload_n 0, 1) := by decide +kernel
theorem dX1_compromiseIn_14 : decode cX1_compromiseIn 14 = .ok (.getfield 35, 3) := by decide +kernel
theorem dX1_compromiseIn_17 : decode cX1_compromiseIn 17 = .ok (.iload_n 1, 1) := by decide +kernel
theorem dX1_compromiseIn_18 : decode cX1_compromiseIn 18 = .ok (.invokevirtual 93, 3) := by decide +kernel
theorem dX1_compromiseIn_21 : decode cX1_compromiseIn 21 = .ok (.pop, 1) := by decide +kernel
theorem dX1_compromiseIn_22 : decode cX1_compromiseIn 22 = .ok (.aload_n 0, 1) := by decide +kernel
theorem dX1_compromiseIn_23 : decode cX1_compromiseIn 23 = .ok (.aload_n 0, 1) := by decide +kernel
theorem dX1_compromiseIn_24 : decode cX1_compromiseIn 24 = .ok (.getfield 35, 3) := by decide +kernel
theorem dX1_compromiseIn_27 : decode cX1_compromiseIn 27 = .ok (.invokevirtual 111, 3) := by decide +kernel
theorem dX1_compromiseIn_30 : decode cX1_compromiseIn 30 = .ok (.ireturn, 1) := by decide +kernel
set_option maxRecDepth 20000 in
theorem ggX1_roundsUntilTreaty_X1_copyPlanksToLater : GoodIn wsX1_roundsUntilTreaty wsX1_copyPlanksToLater := goodIn_r _ [6, 7, 1, 8, 76, 77, 78, 79, 80, 81, 82, 83, 84, 85] (by decide +kernel) (by decide +kernel)
set_option maxRecDepth 20000 in
theorem gX1_roundsUntilTreaty_X1_copyPlanksToLater : GoodIn wsX1_roundsUntilTreaty (wsV RX1 155 RX1 yX1_copyPlanksToLater wsX1_copyPlanksToLater) := goodIn_app (goodIn_of _ (by decide +kernel)) ggX1_roundsUntilTreaty_X1_copyPlanksToLater
set_option maxRecDepth 20000 in
theorem ggX1_roundsUntilTreaty_X1_agreesAt : GoodIn wsX1_roundsUntilTreaty wsX1_agreesAt := goodIn_r _ [12, 13, 14, 15, 5, 16, 7, 17, 18, 19, 20, 21, 22, 23, 24, 25, 26, 27, 28, 76, 77, 78, 79, 80, 81, 82, 83, 84, 85] (by decide +kernel) (by decide +kernel)
set_option maxRecDepth 20000 in
theorem gX1_roundsUntilTreaty_X1_agreesAt : GoodIn wsX1_roundsUntilTreaty (wsV RX1 104 RX1 yX1_agreesAt wsX1_agreesAt) := goodIn_app (goodIn_of _ (by decide +kernel)) ggX1_roundsUntilTreaty_X1_agreesAt
set_option maxRecDepth 20000 in
theorem ggX1_roundsUntilTreaty_X1_goRound : GoodIn wsX1_roundsUntilTreaty wsX1_goRound := goodIn_r _ [32, 7, 33, 34, 35, 5, 36, 37, 38, 39, 40, 41, 42, 43, 44, 45, 46, 47, 48, 49, 50, 51, 52, 53, 54, 55, 56, 57, 58, 59, 60, 61, 62, 63, 64, 65, 66, 22, 23, 24, 25, 26, 27, 28, 67, 68, 69, 70, 71, 72, 73, 74, 75, 76, 77, 78, 79, 80, 81, 82, 83, 84, 85, 86, 87] (by decide +kernel) (by decide +kernel)
set_option maxRecDepth 20000 in
theorem gX1_roundsUntilTreaty_X1_goRound : GoodIn wsX1_roundsUntilTreaty (wsV RX1 158 RX1 yX1_goRound wsX1_goRound) := goodIn_app (goodIn_of _ (by decide +kernel)) ggX1_roundsUntilTreaty_X1_goRound
theorem dX1_roundsUntilTreaty_0 : decode cX1_roundsUntilTreaty 0 = .ok (.aload_n 0, 1) := by decide +kernel
theorem dX1_roundsUntilTreaty_1 : decode cX1_roundsUntilTreaty 1 = .ok (.invokevirtual 155, 3) := by decide +kernel
theorem dX1_roundsUntilTreaty_4 : decode cX1_roundsUntilTreaty 4 = .ok (.iconst 0, 1) := by decide +kernel
theorem dX1_roundsUntilTreaty_5 : decode cX1_roundsUntilTreaty 5 = .ok (.istore_n 1, 1) := by decide +kernel
theorem dX1_roundsUntilTreaty_6 : decode cX1_roundsUntilTreaty 6 = .ok (.iload_n 1, 1) := by decide +kernel
theorem dX1_roundsUntilTreaty_7 : decode cX1_roundsUntilTreaty 7 = .ok (.bipush 100, 2) := by decide +kernel
theorem dX1_roundsUntilTreaty_9 : decode cX1_roundsUntilTreaty 9 = .ok (.if_icmp .gt 31, 3) := by decide +kernel
theorem dX1_roundsUntilTreaty_12 : decode cX1_roundsUntilTreaty 12 = .ok (.aload_n 0, 1) := by decide +kernel
theorem dX1_roundsUntilTreaty_13 : decode cX1_roundsUntilTreaty 13 = .ok (.aload_n 0, 1) := by decide +kernel
theorem dX1_roundsUntilTreaty_14 : decode cX1_roundsUntilTreaty 14 = .ok (.getfield 35, 3) := by decide +kernel
theorem dX1_roundsUntilTreaty_17 : decode cX1_roundsUntilTreaty 17 = .ok (.invokevirtual 104, 3) := by decide +kernel
theorem dX1_roundsUntilTreaty_20 : decode cX1_roundsUntilTreaty 20 = .ok (.ifCond .eq 5, 3) := by decide +kernel
theorem dX1_roundsUntilTreaty_23 : decode cX1_roundsUntilTreaty 23 = .ok (.iload_n 1, 1) := by decide +kernel
theorem dX1_roundsUntilTreaty_24 : decode cX1_roundsUntilTreaty 24 = .ok (.ireturn, 1) := by decide +kernel
theorem dX1_roundsUntilTreaty_25 : decode cX1_roundsUntilTreaty 25 = .ok (.aload_n 0, 1) := by decide +kernel
theorem dX1_roundsUntilTreaty_26 : decode cX1_roundsUntilTreaty 26 = .ok (.aload_n 0, 1) := by decide +kernel
theorem dX1_roundsUntilTreaty_27 : decode cX1_roundsUntilTreaty 27 = .ok (.getfield 35, 3) := by decide +kernel
theorem dX1_roundsUntilTreaty_30 : decode cX1_roundsUntilTreaty 30 = .ok (.invokevirtual 158, 3) := by decide +kernel
theorem dX1_roundsUntilTreaty_33 : decode cX1_roundsUntilTreaty 33 = .ok (.pop, 1) := by decide +kernel
theorem dX1_roundsUntilTreaty_34 : decode cX1_roundsUntilTreaty 34 = .ok (.iinc 1 1, 3) := by decide +kernel
theorem dX1_roundsUntilTreaty_37 : decode cX1_roundsUntilTreaty 37 = .ok (.goto (-31), 3) := by decide +kernel
theorem dX1_roundsUntilTreaty_40 : decode cX1_roundsUntilTreaty 40 = .ok (.iconst (-1), 1) := by decide +kernel
theorem dX1_roundsUntilTreaty_41 : decode cX1_roundsUntilTreaty 41 = .ok (.ireturn, 1) := by decide +kernel
set_option maxRecDepth 20000 in
theorem ggX1_roundsUntilStill_X1_copyPlanksToLater : GoodIn wsX1_roundsUntilStill wsX1_copyPlanksToLater := goodIn_r _ [6, 7, 1, 8, 63, 64, 65, 66, 67, 68, 69, 70, 71, 72] (by decide +kernel) (by decide +kernel)
set_option maxRecDepth 20000 in
theorem gX1_roundsUntilStill_X1_copyPlanksToLater : GoodIn wsX1_roundsUntilStill (wsV RX1 155 RX1 yX1_copyPlanksToLater wsX1_copyPlanksToLater) := goodIn_app (goodIn_of _ (by decide +kernel)) ggX1_roundsUntilStill_X1_copyPlanksToLater
set_option maxRecDepth 20000 in
theorem ggX1_roundsUntilStill_X1_goRound : GoodIn wsX1_roundsUntilStill wsX1_goRound := goodIn_r _ [12, 7, 13, 14, 15, 5, 16, 17, 18, 19, 20, 21, 22, 23, 24, 25, 26, 27, 28, 29, 30, 31, 32, 33, 34, 35, 36, 37, 38, 39, 40, 41, 42, 43, 44, 45, 46, 47, 48, 49, 50, 51, 52, 53, 54, 55, 56, 57, 58, 59, 60, 61, 62, 63, 64, 65, 66, 67, 68, 69, 70, 71, 72, 73, 74] (by decide +kernel) (by decide +kernel)
set_option maxRecDepth 20000 in
theorem gX1_roundsUntilStill_X1_goRound : GoodIn wsX1_roundsUntilStill (wsV RX1 158 RX1 yX1_goRound wsX1_goRound) := goodIn_app (goodIn_of _ (by decide +kernel)) ggX1_roundsUntilStill_X1_goRound
theorem dX1_roundsUntilStill_0 : decode cX1_roundsUntilStill 0 = .ok (.aload_n 0, 1) := by decide +kernel
theorem dX1_roundsUntilStill_1 : decode cX1_roundsUntilStill 1 = .ok (.invokevirtual 155, 3) := by decide +kernel
theorem dX1_roundsUntilStill_4 : decode cX1_roundsUntilStill 4 = .ok (.iconst 0, 1) := by decide +kernel
theorem dX1_roundsUntilStill_5 : decode cX1_roundsUntilStill 5 = .ok (.istore_n 1, 1) := by decide +kernel
theorem dX1_roundsUntilStill_6 : decode cX1_roundsUntilStill 6 = .ok (.iload_n 1, 1) := by decide +kernel
theorem dX1_roundsUntilStill_7 : decode cX1_roundsUntilStill 7 = .ok (.bipush 100, 2) := by decide +kernel
theorem dX1_roundsUntilStill_9 : decode cX1_roundsUntilStill 9 = .ok (.if_icmp .gt 22, 3) := by decide +kernel
theorem dX1_roundsUntilStill_12 : decode cX1_roundsUntilStill 12 = .ok (.aload_n 0, 1) := by decide +kernel
theorem dX1_roundsUntilStill_13 : decode cX1_roundsUntilStill 13 = .ok (.aload_n 0, 1) := by decide +kernel
theorem dX1_roundsUntilStill_14 : decode cX1_roundsUntilStill 14 = .ok (.getfield 35, 3) := by decide +kernel
theorem dX1_roundsUntilStill_17 : decode cX1_roundsUntilStill 17 = .ok (.invokevirtual 158, 3) := by decide +kernel
theorem dX1_roundsUntilStill_20 : decode cX1_roundsUntilStill 20 = .ok (.ifCond .ne 5, 3) := by decide +kernel
theorem dX1_roundsUntilStill_23 : decode cX1_roundsUntilStill 23 = .ok (.iload_n 1, 1) := by decide +kernel
theorem dX1_roundsUntilStill_24 : decode cX1_roundsUntilStill 24 = .ok (.ireturn, 1) := by decide +kernel
theorem dX1_roundsUntilStill_25 : decode cX1_roundsUntilStill 25 = .ok (.iinc 1 1, 3) := by decide +kernel
theorem dX1_roundsUntilStill_28 : decode cX1_roundsUntilStill 28 = .ok (.goto (-22), 3) := by decide +kernel
theorem dX1_roundsUntilStill_31 : decode cX1_roundsUntilStill 31 = .ok (.iconst (-1), 1) := by decide +kernel
theorem dX1_roundsUntilStill_32 : decode cX1_roundsUntilStill 32 = .ok (.ireturn, 1) := by decide +kernel
set_option maxRecDepth 20000 in
theorem ggX1_bestStand_X1_checkDelegate : GoodIn wsX1_bestStand wsX1_checkDelegate := goodIn_ca (goodIn_r _ [6, 7, 8, 9, 47, 48, 49, 50, 51, 52, 53, 54, 55, 56] (by decide +kernel) (by decide +kernel)) (goodIn_sub (fun _ h => List.mem_cons_of_mem _ (List.mem_append_right _ h)) (by decide +kernel))
set_option maxRecDepth 20000 in
theorem gX1_bestStand_X1_checkDelegate : GoodIn wsX1_bestStand (wsV RX1 69 RX1 yX1_checkDelegate wsX1_checkDelegate) := goodIn_app (goodIn_of _ (by decide +kernel)) ggX1_bestStand_X1_checkDelegate
set_option maxRecDepth 20000 in
theorem ggX1_bestStand_X1_gatherOthers : GoodIn wsX1_bestStand wsX1_gatherOthers := goodIn_r _ [13, 1, 9, 14, 15, 16, 17, 18, 19, 20, 21, 22, 23, 24, 25, 47, 48, 49, 50, 51, 52, 53, 54, 55, 56, 57, 58] (by decide +kernel) (by decide +kernel)
set_option maxRecDepth 20000 in
theorem gX1_bestStand_X1_gatherOthers : GoodIn wsX1_bestStand (wsV RX1 127 RX1 yX1_gatherOthers wsX1_gatherOthers) := goodIn_app (goodIn_of _ (by decide +kernel)) ggX1_bestStand_X1_gatherOthers
set_option maxRecDepth 20000 in
theorem ggX1_bestStand_X0_middleWith : GoodIn wsX1_bestStand wsX0_middleWith := goodIn_r _ [29, 20, 25, 30, 5, 31, 32, 33, 34, 35, 36, 37, 38, 57, 58] (by decide +kernel) (by decide +kernel)
set_option maxRecDepth 20000 in
theorem gX1_bestStand_X0_middleWith : GoodIn wsX1_bestStand (wsV RX1 161 RX0 yX0_middleWith wsX0_middleWith) := goodIn_app (goodIn_of _ (by decide +kernel)) ggX1_bestStand_X0_middleWith
set_option maxRecDepth 20000 in
theorem ggX1_bestStand_X1_discontent : GoodIn wsX1_bestStand wsX1_discontent := goodIn_r _ [42, 43, 44, 45, 34, 46, 47, 48, 49, 50, 51, 52, 53, 54, 55, 56] (by decide +kernel) (by decide +kernel)
set_option maxRecDepth 20000 in
theorem gX1_bestStand_X1_discontent : GoodIn wsX1_bestStand (wsV RX1 132 RX1 yX1_discontent wsX1_discontent) := goodIn_app (goodIn_of _ (by decide +kernel)) ggX1_bestStand_X1_discontent
theorem dX1_bestStand_0 : decode cX1_bestStand 0 = .ok (.aload_n 0, 1) := by decide +kernel
theorem dX1_bestStand_1 : decode cX1_bestStand 1 = .ok (.iload_n 1, 1) := by decide +kernel
theorem dX1_bestStand_2 : decode cX1_bestStand 2 = .ok (.invokevirtual 69, 3) := by decide +kernel
theorem dX1_bestStand_5 : decode cX1_bestStand 5 = .ok (.aload_n 0, 1) := by decide +kernel
theorem dX1_bestStand_6 : decode cX1_bestStand 6 = .ok (.iload_n 1, 1) := by decide +kernel
theorem dX1_bestStand_7 : decode cX1_bestStand 7 = .ok (.invokevirtual 127, 3) := by decide +kernel
theorem dX1_bestStand_10 : decode cX1_bestStand 10 = .ok (.iconst 0, 1) := by decide +kernel
theorem dX1_bestStand_11 : decode cX1_bestStand 11 = .ok (.istore_n 2, 1) := by decide +kernel
theorem dX1_bestStand_12 : decode cX1_bestStand 12 = .ok (.aload_n 0, 1) := by decide +kernel
theorem dX1_bestStand_13 : decode cX1_bestStand 13 = .ok (.iload_n 1, 1) := by decide +kernel
theorem dX1_bestStand_14 : decode cX1_bestStand 14 = .ok (.aload_n 0, 1) := by decide +kernel
theorem dX1_bestStand_15 : decode cX1_bestStand 15 = .ok (.getfield 41, 3) := by decide +kernel
theorem dX1_bestStand_18 : decode cX1_bestStand 18 = .ok (.iconst 0, 1) := by decide +kernel
theorem dX1_bestStand_19 : decode cX1_bestStand 19 = .ok (.invokevirtual 161, 3) := by decide +kernel
theorem dX1_bestStand_22 : decode cX1_bestStand 22 = .ok (.invokevirtual 132, 3) := by decide +kernel
theorem dX1_bestStand_25 : decode cX1_bestStand 25 = .ok (.istore_n 3, 1) := by decide +kernel
theorem dX1_bestStand_26 : decode cX1_bestStand 26 = .ok (.iconst 1, 1) := by decide +kernel
theorem dX1_bestStand_27 : decode cX1_bestStand 27 = .ok (.istore 4, 2) := by decide +kernel
theorem dX1_bestStand_29 : decode cX1_bestStand 29 = .ok (.iload 4, 2) := by decide +kernel
theorem dX1_bestStand_31 : decode cX1_bestStand 31 = .ok (.bipush 41, 2) := by decide +kernel
theorem dX1_bestStand_33 : decode cX1_bestStand 33 = .ok (.if_icmp .ge 37, 3) := by decide +kernel
theorem dX1_bestStand_36 : decode cX1_bestStand 36 = .ok (.aload_n 0, 1) := by decide +kernel
theorem dX1_bestStand_37 : decode cX1_bestStand 37 = .ok (.iload_n 1, 1) := by decide +kernel
theorem dX1_bestStand_38 : decode cX1_bestStand 38 = .ok (.aload_n 0, 1) := by decide +kernel
theorem dX1_bestStand_39 : decode cX1_bestStand 39 = .ok (.getfield 41, 3) := by decide +kernel
theorem dX1_bestStand_42 : decode cX1_bestStand 42 = .ok (.iload 4, 2) := by decide +kernel
theorem dX1_bestStand_44 : decode cX1_bestStand 44 = .ok (.invokevirtual 161, 3) := by decide +kernel
theorem dX1_bestStand_47 : decode cX1_bestStand 47 = .ok (.invokevirtual 132, 3) := by decide +kernel
theorem dX1_bestStand_50 : decode cX1_bestStand 50 = .ok (.istore 5, 2) := by decide +kernel
theorem dX1_bestStand_52 : decode cX1_bestStand 52 = .ok (.iload 5, 2) := by decide +kernel
theorem dX1_bestStand_54 : decode cX1_bestStand 54 = .ok (.iload_n 3, 1) := by decide +kernel
theorem dX1_bestStand_55 : decode cX1_bestStand 55 = .ok (.if_icmp .ge 9, 3) := by decide +kernel
theorem dX1_bestStand_58 : decode cX1_bestStand 58 = .ok (.iload 5, 2) := by decide +kernel
theorem dX1_bestStand_60 : decode cX1_bestStand 60 = .ok (.istore_n 3, 1) := by decide +kernel
theorem dX1_bestStand_61 : decode cX1_bestStand 61 = .ok (.iload 4, 2) := by decide +kernel
theorem dX1_bestStand_63 : decode cX1_bestStand 63 = .ok (.istore_n 2, 1) := by decide +kernel
theorem dX1_bestStand_64 : decode cX1_bestStand 64 = .ok (.iinc 4 1, 3) := by decide +kernel
theorem dX1_bestStand_67 : decode cX1_bestStand 67 = .ok (.goto (-38), 3) := by decide +kernel
theorem dX1_bestStand_70 : decode cX1_bestStand 70 = .ok (.iload_n 2, 1) := by decide +kernel
theorem dX1_bestStand_71 : decode cX1_bestStand 71 = .ok (.ireturn, 1) := by decide +kernel
theorem dX1_meanPlank_0 : decode cX1_meanPlank 0 = .ok (.aload_n 0, 1) := by decide +kernel
theorem dX1_meanPlank_1 : decode cX1_meanPlank 1 = .ok (.getfield 7, 3) := by decide +kernel
theorem dX1_meanPlank_4 : decode cX1_meanPlank 4 = .ok (.ifCond .ne 5, 3) := by decide +kernel
theorem dX1_meanPlank_7 : decode cX1_meanPlank 7 = .ok (.dconst 0, 1) := by decide +kernel
theorem dX1_meanPlank_8 : decode cX1_meanPlank 8 = .ok (.dreturn, 1) := by decide +kernel
theorem dX1_meanPlank_9 : decode cX1_meanPlank 9 = .ok (.iconst 0, 1) := by decide +kernel
theorem dX1_meanPlank_10 : decode cX1_meanPlank 10 = .ok (.istore_n 1, 1) := by decide +kernel
theorem dX1_meanPlank_11 : decode cX1_meanPlank 11 = .ok (.iconst 0, 1) := by decide +kernel
theorem dX1_meanPlank_12 : decode cX1_meanPlank 12 = .ok (.istore_n 2, 1) := by decide +kernel
theorem dX1_meanPlank_13 : decode cX1_meanPlank 13 = .ok (.iload_n 2, 1) := by decide +kernel
theorem dX1_meanPlank_14 : decode cX1_meanPlank 14 = .ok (.aload_n 0, 1) := by decide +kernel
theorem dX1_meanPlank_15 : decode cX1_meanPlank 15 = .ok (.getfield 7, 3) := by decide +kernel
theorem dX1_meanPlank_18 : decode cX1_meanPlank 18 = .ok (.if_icmp .ge 18, 3) := by decide +kernel
theorem dX1_meanPlank_21 : decode cX1_meanPlank 21 = .ok (.iload_n 1, 1) := by decide +kernel
theorem dX1_meanPlank_22 : decode cX1_meanPlank 22 = .ok (.aload_n 0, 1) := by decide +kernel
theorem dX1_meanPlank_23 : decode cX1_meanPlank 23 = .ok (.getfield 32, 3) := by decide +kernel
theorem dX1_meanPlank_26 : decode cX1_meanPlank 26 = .ok (.iload_n 2, 1) := by decide +kernel
theorem dX1_meanPlank_27 : decode cX1_meanPlank 27 = .ok (.iaload, 1) := by decide +kernel
theorem dX1_meanPlank_28 : decode cX1_meanPlank 28 = .ok (.iadd, 1) := by decide +kernel
theorem dX1_meanPlank_29 : decode cX1_meanPlank 29 = .ok (.istore_n 1, 1) := by decide +kernel
theorem dX1_meanPlank_30 : decode cX1_meanPlank 30 = .ok (.iinc 2 1, 3) := by decide +kernel
theorem dX1_meanPlank_33 : decode cX1_meanPlank 33 = .ok (.goto (-20), 3) := by decide +kernel
theorem dX1_meanPlank_36 : decode cX1_meanPlank 36 = .ok (.iload_n 1, 1) := by decide +kernel
theorem dX1_meanPlank_37 : decode cX1_meanPlank 37 = .ok (.i2d, 1) := by decide +kernel
theorem dX1_meanPlank_38 : decode cX1_meanPlank 38 = .ok (.aload_n 0, 1) := by decide +kernel
theorem dX1_meanPlank_39 : decode cX1_meanPlank 39 = .ok (.getfield 7, 3) := by decide +kernel
theorem dX1_meanPlank_42 : decode cX1_meanPlank 42 = .ok (.i2d, 1) := by decide +kernel
theorem dX1_meanPlank_43 : decode cX1_meanPlank 43 = .ok (.ddiv, 1) := by decide +kernel
theorem dX1_meanPlank_44 : decode cX1_meanPlank 44 = .ok (.dreturn, 1) := by decide +kernel
set_option maxRecDepth 20000 in
theorem ggX1_digest_X1_delegates : GoodIn wsX1_digest wsX1_delegates := goodIn_r _ [7, 2, 193, 194, 195, 196, 197, 198, 199, 200, 201, 202] (by decide +kernel) (by decide +kernel)
set_option maxRecDepth 20000 in
theorem gX1_digest_X1_delegates : GoodIn wsX1_digest (wsV RX1 166 RX1 yX1_delegates wsX1_delegates) := goodIn_app (goodIn_of _ (by decide +kernel)) ggX1_digest_X1_delegates
set_option maxRecDepth 20000 in
theorem ggX1_digest_X1_fold : GoodIn wsX1_digest wsX1_fold := goodIn_r _ [10, 11] (by decide +kernel) (by decide +kernel)
set_option maxRecDepth 20000 in
theorem gX1_digest_X1_fold : GoodIn wsX1_digest (va_wsS RX1 169 yX1_fold wsX1_fold) := goodIn_app (goodIn_of _ (by decide +kernel)) ggX1_digest_X1_fold
set_option maxRecDepth 20000 in
theorem ggX1_digest_X1_rounds : GoodIn wsX1_digest wsX1_rounds := goodIn_r _ [15, 16, 193, 194, 195, 196, 197, 198, 199, 200, 201, 202] (by decide +kernel) (by decide +kernel)
set_option maxRecDepth 20000 in
theorem gX1_digest_X1_rounds : GoodIn wsX1_digest (wsV RX1 173 RX1 yX1_rounds wsX1_rounds) := goodIn_app (goodIn_of _ (by decide +kernel)) ggX1_digest_X1_rounds
set_option maxRecDepth 20000 in
theorem ggX1_digest_X1_strength : GoodIn wsX1_digest wsX1_strength := goodIn_r _ [20, 21, 193, 194, 195, 196, 197, 198, 199, 200, 201, 202] (by decide +kernel) (by decide +kernel)
set_option maxRecDepth 20000 in
theorem gX1_digest_X1_strength : GoodIn wsX1_digest (wsV RX1 176 RX1 yX1_strength wsX1_strength) := goodIn_app (goodIn_of _ (by decide +kernel)) ggX1_digest_X1_strength
set_option maxRecDepth 20000 in
theorem ggX1_digest_X1_spread : GoodIn wsX1_digest wsX1_spread := goodIn_r _ [25, 26, 27, 28, 29, 6, 30, 2, 31, 32, 33, 34, 35, 36, 37, 193, 194, 195, 196, 197, 198, 199, 200, 201, 202] (by decide +kernel) (by decide +kernel)
set_option maxRecDepth 20000 in
theorem gX1_digest_X1_spread : GoodIn wsX1_digest (wsV RX1 179 RX1 yX1_spread wsX1_spread) := goodIn_app (goodIn_of _ (by decide +kernel)) ggX1_digest_X1_spread
set_option maxRecDepth 20000 in
theorem ggX1_digest_X1_isTreaty : GoodIn wsX1_digest wsX1_isTreaty := goodIn_r _ [41, 26, 42, 43, 44, 6, 45, 46, 47, 48, 49, 2, 50, 27, 28, 29, 30, 31, 32, 33, 34, 35, 36, 37, 193, 194, 195, 196, 197, 198, 199, 200, 201, 202] (by decide +kernel) (by decide +kernel)
set_option maxRecDepth 20000 in
theorem gX1_digest_X1_isTreaty : GoodIn wsX1_digest (wsV RX1 182 RX1 yX1_isTreaty wsX1_isTreaty) := goodIn_app (goodIn_of _ (by decide +kernel)) ggX1_digest_X1_isTreaty
set_option maxRecDepth 20000 in
theorem ggX1_digest_X1_isStill : GoodIn wsX1_digest wsX1_isStill := goodIn_r _ [54, 55, 56, 57, 58, 6, 59, 2, 26, 60, 61, 62, 63, 64, 65, 66, 67, 68, 69, 70, 71, 72, 73, 74, 75, 76, 77, 78, 79, 80, 81, 82, 83, 84, 85, 86, 87, 88, 89, 90, 91, 92, 93, 94, 95, 96, 97, 31, 32, 33, 34, 35, 36, 37, 98, 99, 100, 101, 21, 102, 103, 104, 105, 193, 194, 195, 196, 197, 198, 199, 200, 201, 202, 203, 204] (by decide +kernel) (by decide +kernel)
set_option maxRecDepth 20000 in
theorem gX1_digest_X1_isStill : GoodIn wsX1_digest (wsV RX1 185 RX1 yX1_isStill wsX1_isStill) := goodIn_app (goodIn_of _ (by decide +kernel)) ggX1_digest_X1_isStill
set_option maxRecDepth 20000 in
theorem ggX1_digest_X1_compromise : GoodIn wsX1_digest wsX1_compromise := goodIn_ca (goodIn_r _ [109, 26, 110, 111, 112, 6, 113, 114, 115, 2, 64, 65, 66, 67, 68, 69, 70, 71, 72, 73, 74, 75, 76, 77, 78, 79, 80, 81, 82, 83, 193, 194, 195, 196, 197, 198, 199, 200, 201, 202, 203, 204] (by decide +kernel) (by decide +kernel)) (goodIn_sub (fun _ h => List.mem_cons_of_mem _ (List.mem_append_left _ (List.mem_append_right _ h))) (by decide +kernel))
set_option maxRecDepth 20000 in
theorem gX1_digest_X1_compromise : GoodIn wsX1_digest (wsV RX1 188 RX1 yX1_compromise wsX1_compromise) := goodIn_app (goodIn_of _ (by decide +kernel)) ggX1_digest_X1_compromise
set_option maxRecDepth 20000 in
theorem ggX1_digest_X1_decisiveOne : GoodIn wsX1_digest wsX1_decisiveOne := goodIn_ca (goodIn_r _ [119, 26, 2, 110, 111, 112, 6, 113, 114, 115, 64, 65, 66, 67, 68, 69, 70, 71, 72, 73, 74, 75, 76, 77, 78, 79, 80, 81, 82, 83, 193, 194, 195, 196, 197, 198, 199, 200, 201, 202, 203, 204] (by decide +kernel) (by decide +kernel)) (goodIn_sub (fun _ h => List.mem_cons_of_mem _ (List.mem_append_left _ (List.mem_append_right _ h))) (by decide +kernel))
set_option maxRecDepth 20000 in
theorem gX1_digest_X1_decisiveOne : GoodIn wsX1_digest (wsV RX1 191 RX1 yX1_decisiveOne wsX1_decisiveOne) := goodIn_app (goodIn_of _ (by decide +kernel)) ggX1_digest_X1_decisiveOne
set_option maxRecDepth 20000 in
theorem ggX1_digest_X1_bestPlank : GoodIn wsX1_digest wsX1_bestPlank := goodIn_ca (goodIn_r _ [123, 110, 111, 112, 6, 113, 114, 115, 2, 124, 125, 126, 127, 128, 129, 130, 131, 93, 132, 133, 33, 134, 193, 194, 195, 196, 197, 198, 199, 200, 201, 202] (by decide +kernel) (by decide +kernel)) (goodIn_sub (fun _ h => List.mem_cons_of_mem _ (List.mem_append_left _ (List.mem_append_right _ h))) (by decide +kernel))
set_option maxRecDepth 20000 in
theorem gX1_digest_X1_bestPlank : GoodIn wsX1_digest (wsV RX1 194 RX1 yX1_bestPlank wsX1_bestPlank) := goodIn_app (goodIn_of _ (by decide +kernel)) ggX1_digest_X1_bestPlank
set_option maxRecDepth 20000 in
theorem ggX1_digest_X1_allDiscontent : GoodIn wsX1_digest wsX1_allDiscontent := goodIn_r _ [138, 26, 64, 65, 66, 6, 67, 68, 2, 69, 70, 71, 72, 73, 74, 75, 76, 77, 78, 79, 80, 81, 82, 83, 124, 125, 126, 127, 128, 129, 130, 131, 93, 132, 133, 33, 134, 193, 194, 195, 196, 197, 198, 199, 200, 201, 202, 203, 204] (by decide +kernel) (by decide +kernel)
set_option maxRecDepth 20000 in
theorem gX1_digest_X1_allDiscontent : GoodIn wsX1_digest (wsV RX1 197 RX1 yX1_allDiscontent wsX1_allDiscontent) := goodIn_app (goodIn_of _ (by decide +kernel)) ggX1_digest_X1_allDiscontent
set_option maxRecDepth 20000 in
theorem ggX1_digest_X1_roundsUntilStill : GoodIn wsX1_digest wsX1_roundsUntilStill := goodIn_r _ [142, 55, 56, 57, 58, 6, 59, 2, 26, 60, 61, 62, 63, 64, 65, 66, 67, 68, 69, 70, 71, 72, 73, 74, 75, 76, 77, 78, 79, 80, 81, 82, 83, 84, 85, 86, 87, 88, 89, 90, 91, 92, 93, 94, 95, 96, 97, 31, 32, 33, 34, 35, 36, 37, 98, 99, 100, 101, 21, 102, 103, 104, 105, 193, 194, 195, 196, 197, 198, 199, 200, 201, 202, 203, 204] (by decide +kernel) (by decide +kernel)
set_option maxRecDepth 20000 in
theorem gX1_digest_X1_roundsUntilStill : GoodIn wsX1_digest (wsV RX1 200 RX1 yX1_roundsUntilStill wsX1_roundsUntilStill) := goodIn_app (goodIn_of _ (by decide +kernel)) ggX1_digest_X1_roundsUntilStill
set_option maxRecDepth 20000 in
theorem ggX1_digest_X1_foldDelegate : GoodIn wsX1_digest wsX1_foldDelegate := goodIn_ca (goodIn_r _ [146, 147, 148, 149, 6, 150, 50, 151, 152, 153, 154, 155, 156, 2, 8, 9, 10, 11, 157, 158, 159, 160, 93, 161, 162, 163, 164, 94, 165, 166, 167, 168, 88, 169, 170, 171, 172, 26, 173, 174, 175, 176, 64, 65, 66, 67, 68, 69, 70, 71, 72, 73, 74, 75, 76, 77, 78, 79, 80, 81, 82, 83, 84, 85, 86, 87, 89, 90, 91, 92, 95, 96, 97, 31, 32, 33, 34, 35, 36, 37, 177, 178, 179, 180, 181, 182, 183, 184, 185, 186, 187, 188, 128, 129, 130, 131, 132, 133, 134, 189, 190, 191, 192, 193, 194, 195, 196, 197, 198, 199, 200, 201, 202, 203, 204] (by decide +kernel) (by decide +kernel)) (goodIn_sub (fun _ h => List.mem_cons_of_mem _ (List.mem_append_right _ h)) (by decide +kernel))
set_option maxRecDepth 20000 in
theorem gX1_digest_X1_foldDelegate : GoodIn wsX1_digest (wsV RX1 203 RX1 yX1_foldDelegate wsX1_foldDelegate) := goodIn_app (goodIn_of _ (by decide +kernel)) ggX1_digest_X1_foldDelegate
theorem dX1_digest_0 : decode cX1_digest 0 = .ok (.ldc2_w 164, 3) := by decide +kernel
theorem dX1_digest_3 : decode cX1_digest 3 = .ok (.lstore_n 1, 1) := by decide +kernel
theorem dX1_digest_4 : decode cX1_digest 4 = .ok (.lload_n 1, 1) := by decide +kernel
theorem dX1_digest_5 : decode cX1_digest 5 = .ok (.aload_n 0, 1) := by decide +kernel
theorem dX1_digest_6 : decode cX1_digest 6 = .ok (.invokevirtual 166, 3) := by decide +kernel
theorem dX1_digest_9 : decode cX1_digest 9 = .ok (.invokestatic 169, 3) := by decide +kernel
theorem dX1_digest_12 : decode cX1_digest 12 = .ok (.lstore_n 1, 1) := by decide +kernel
theorem dX1_digest_13 : decode cX1_digest 13 = .ok (.lload_n 1, 1) := by decide +kernel
theorem dX1_digest_14 : decode cX1_digest 14 = .ok (.aload_n 0, 1) := by decide +kernel
theorem dX1_digest_15 : decode cX1_digest 15 = .ok (.invokevirtual 173, 3) := by decide +kernel
theorem dX1_digest_18 : decode cX1_digest 18 = .ok (.invokestatic 169, 3) := by decide +kernel
theorem dX1_digest_21 : decode cX1_digest 21 = .ok (.lstore_n 1, 1) := by decide +kernel
theorem dX1_digest_22 : decode cX1_digest 22 = .ok (.lload_n 1, 1) := by decide +kernel
theorem dX1_digest_23 : decode cX1_digest 23 = .ok (.aload_n 0, 1) := by decide +kernel
theorem dX1_digest_24 : decode cX1_digest 24 = .ok (.invokevirtual 176, 3) := by decide +kernel
theorem dX1_digest_27 : decode cX1_digest 27 = .ok (.invokestatic 169, 3) := by decide +kernel
theorem dX1_digest_30 : decode cX1_digest 30 = .ok (.lstore_n 1, 1) := by decide +kernel
theorem dX1_digest_31 : decode cX1_digest 31 = .ok (.lload_n 1, 1) := by decide +kernel
theorem dX1_digest_32 : decode cX1_digest 32 = .ok (.aload_n 0, 1) := by decide +kernel
theorem dX1_digest_33 : decode cX1_digest 33 = .ok (.invokevirtual 179, 3) := by decide +kernel
theorem dX1_digest_36 : decode cX1_digest 36 = .ok (.invokestatic 169, 3) := by decide +kernel
theorem dX1_digest_39 : decode cX1_digest 39 = .ok (.lstore_n 1, 1) := by decide +kernel
theorem dX1_digest_40 : decode cX1_digest 40 = .ok (.lload_n 1, 1) := by decide +kernel
theorem dX1_digest_41 : decode cX1_digest 41 = .ok (.aload_n 0, 1) := by decide +kernel
theorem dX1_digest_42 : decode cX1_digest 42 = .ok (.invokevirtual 182, 3) := by decide +kernel
theorem dX1_digest_45 : decode cX1_digest 45 = .ok (.ifCond .eq 7, 3) := by decide +kernel
theorem dX1_digest_48 : decode cX1_digest 48 = .ok (.iconst 1, 1) := by decide +kernel
theorem dX1_digest_49 : decode cX1_digest 49 = .ok (.goto 4, 3) := by decide +kernel
theorem dX1_digest_52 : decode cX1_digest 52 = .ok (.iconst 0, 1) := by decide +kernel
theorem dX1_digest_53 : decode cX1_digest 53 = .ok (.invokestatic 169, 3) := by decide +kernel
theorem dX1_digest_56 : decode cX1_digest 56 = .ok (.lstore_n 1, 1) := by decide +kernel
theorem dX1_digest_57 : decode cX1_digest 57 = .ok (.lload_n 1, 1) := by decide +kernel
theorem dX1_digest_58 : decode cX1_digest 58 = .ok (.aload_n 0, 1) := by decide +kernel
theorem dX1_digest_59 : decode cX1_digest 59 = .ok (.invokevirtual 185, 3) := by decide +kernel
theorem dX1_digest_62 : decode cX1_digest 62 = .ok (.ifCond .eq 7, 3) := by decide +kernel
theorem dX1_digest_65 : decode cX1_digest 65 = .ok (.iconst 1, 1) := by decide +kernel
theorem dX1_digest_66 : decode cX1_digest 66 = .ok (.goto 4, 3) := by decide +kernel
theorem dX1_digest_69 : decode cX1_digest 69 = .ok (.iconst 0, 1) := by decide +kernel
theorem dX1_digest_70 : decode cX1_digest 70 = .ok (.invokestatic 169, 3) := by decide +kernel
theorem dX1_digest_73 : decode cX1_digest 73 = .ok (.lstore_n 1, 1) := by decide +kernel
theorem dX1_digest_74 : decode cX1_digest 74 = .ok (.aload_n 0, 1) := by decide +kernel
theorem dX1_digest_75 : decode cX1_digest 75 = .ok (.getfield 7, 3) := by decide +kernel
theorem dX1_digest_78 : decode cX1_digest 78 = .ok (.ifCond .le 30, 3) := by decide +kernel
theorem dX1_digest_81 : decode cX1_digest 81 = .ok (.lload_n 1, 1) := by decide +kernel
theorem dX1_digest_82 : decode cX1_digest 82 = .ok (.aload_n 0, 1) := by decide +kernel
theorem dX1_digest_83 : decode cX1_digest 83 = .ok (.invokevirtual 188, 3) := by decide +kernel
theorem dX1_digest_86 : decode cX1_digest 86 = .ok (.invokestatic 169, 3) := by decide +kernel
theorem dX1_digest_89 : decode cX1_digest 89 = .ok (.lstore_n 1, 1) := by decide +kernel
theorem dX1_digest_90 : decode cX1_digest 90 = .ok (.lload_n 1, 1) := by decide +kernel
theorem dX1_digest_91 : decode cX1_digest 91 = .ok (.aload_n 0, 1) := by decide +kernel
theorem dX1_digest_92 : decode cX1_digest 92 = .ok (.invokevirtual 191, 3) := by decide +kernel
theorem dX1_digest_95 : decode cX1_digest 95 = .ok (.invokestatic 169, 3) := by decide +kernel
theorem dX1_digest_98 : decode cX1_digest 98 = .ok (.lstore_n 1, 1) := by decide +kernel
theorem dX1_digest_99 : decode cX1_digest 99 = .ok (.lload_n 1, 1) := by decide +kernel
theorem dX1_digest_100 : decode cX1_digest 100 = .ok (.aload_n 0, 1) := by decide +kernel
theorem dX1_digest_101 : decode cX1_digest 101 = .ok (.invokevirtual 194, 3) := by decide +kernel
theorem dX1_digest_104 : decode cX1_digest 104 = .ok (.invokestatic 169, 3) := by decide +kernel
theorem dX1_digest_107 : decode cX1_digest 107 = .ok (.lstore_n 1, 1) := by decide +kernel
theorem dX1_digest_108 : decode cX1_digest 108 = .ok (.lload_n 1, 1) := by decide +kernel
theorem dX1_digest_109 : decode cX1_digest 109 = .ok (.aload_n 0, 1) := by decide +kernel
theorem dX1_digest_110 : decode cX1_digest 110 = .ok (.invokevirtual 197, 3) := by decide +kernel
theorem dX1_digest_113 : decode cX1_digest 113 = .ok (.invokestatic 169, 3) := by decide +kernel
theorem dX1_digest_116 : decode cX1_digest 116 = .ok (.lstore_n 1, 1) := by decide +kernel
theorem dX1_digest_117 : decode cX1_digest 117 = .ok (.lload_n 1, 1) := by decide +kernel
theorem dX1_digest_118 : decode cX1_digest 118 = .ok (.aload_n 0, 1) := by decide +kernel
theorem dX1_digest_119 : decode cX1_digest 119 = .ok (.invokevirtual 200, 3) := by decide +kernel
theorem dX1_digest_122 : decode cX1_digest 122 = .ok (.invokestatic 169, 3) := by decide +kernel
theorem dX1_digest_125 : decode cX1_digest 125 = .ok (.lstore_n 1, 1) := by decide +kernel
theorem dX1_digest_126 : decode cX1_digest 126 = .ok (.iconst 0, 1) := by decide +kernel
theorem dX1_digest_127 : decode cX1_digest 127 = .ok (.istore_n 3, 1) := by decide +kernel
theorem dX1_digest_128 : decode cX1_digest 128 = .ok (.iload_n 3, 1) := by decide +kernel
theorem dX1_digest_129 : decode cX1_digest 129 = .ok (.aload_n 0, 1) := by decide +kernel
theorem dX1_digest_130 : decode cX1_digest 130 = .ok (.getfield 7, 3) := by decide +kernel
theorem dX1_digest_133 : decode cX1_digest 133 = .ok (.if_icmp .ge 16, 3) := by decide +kernel
theorem dX1_digest_136 : decode cX1_digest 136 = .ok (.aload_n 0, 1) := by decide +kernel
theorem dX1_digest_137 : decode cX1_digest 137 = .ok (.lload_n 1, 1) := by decide +kernel
theorem dX1_digest_138 : decode cX1_digest 138 = .ok (.iload_n 3, 1) := by decide +kernel
theorem dX1_digest_139 : decode cX1_digest 139 = .ok (.invokevirtual 203, 3) := by decide +kernel
theorem dX1_digest_142 : decode cX1_digest 142 = .ok (.lstore_n 1, 1) := by decide +kernel
theorem dX1_digest_143 : decode cX1_digest 143 = .ok (.iinc 3 1, 3) := by decide +kernel
theorem dX1_digest_146 : decode cX1_digest 146 = .ok (.goto (-18), 3) := by decide +kernel
theorem dX1_digest_149 : decode cX1_digest 149 = .ok (.lload_n 1, 1) := by decide +kernel
theorem dX1_digest_150 : decode cX1_digest 150 = .ok (.lreturn, 1) := by decide +kernel
set_option maxRecDepth 20000 in
theorem ggX1_foldDelegate_X1_villageOf : GoodIn wsX1_foldDelegate wsX1_villageOf := goodIn_ca (goodIn_r _ [5, 6, 7, 8, 9, 4, 10, 11, 12, 13, 103, 104, 105, 106, 107, 108, 109, 110, 111, 112] (by decide +kernel) (by decide +kernel)) (goodIn_sub (fun _ h => List.mem_cons_of_mem _ (List.mem_append_right _ h)) (by decide +kernel))
set_option maxRecDepth 20000 in
theorem gX1_foldDelegate_X1_villageOf : GoodIn wsX1_foldDelegate (wsV RX1 206 RX1 yX1_villageOf wsX1_villageOf) := goodIn_app (goodIn_of _ (by decide +kernel)) ggX1_foldDelegate_X1_villageOf
set_option maxRecDepth 20000 in
theorem ggX1_foldDelegate_X1_fold : GoodIn wsX1_foldDelegate wsX1_fold := goodIn_r _ [16, 17] (by decide +kernel) (by decide +kernel)
set_option maxRecDepth 20000 in
theorem gX1_foldDelegate_X1_fold : GoodIn wsX1_foldDelegate (va_wsS RX1 169 yX1_fold wsX1_fold) := goodIn_app (goodIn_of _ (by decide +kernel)) ggX1_foldDelegate_X1_fold
set_option maxRecDepth 20000 in
theorem ggX1_foldDelegate_X1_wishOf : GoodIn wsX1_foldDelegate wsX1_wishOf := goodIn_ca (goodIn_r _ [21, 22, 7, 8, 9, 4, 10, 11, 12, 13, 103, 104, 105, 106, 107, 108, 109, 110, 111, 112] (by decide +kernel) (by decide +kernel)) (goodIn_sub (fun _ h => List.mem_cons_of_mem _ (List.mem_append_right _ h)) (by decide +kernel))
set_option maxRecDepth 20000 in
theorem gX1_foldDelegate_X1_wishOf : GoodIn wsX1_foldDelegate (wsV RX1 209 RX1 yX1_wishOf wsX1_wishOf) := goodIn_app (goodIn_of _ (by decide +kernel)) ggX1_foldDelegate_X1_wishOf
set_option maxRecDepth 20000 in
theorem ggX1_foldDelegate_X1_reachOf : GoodIn wsX1_foldDelegate wsX1_reachOf := goodIn_ca (goodIn_r _ [26, 27, 7, 8, 9, 4, 10, 11, 12, 13, 103, 104, 105, 106, 107, 108, 109, 110, 111, 112] (by decide +kernel) (by decide +kernel)) (goodIn_sub (fun _ h => List.mem_cons_of_mem _ (List.mem_append_right _ h)) (by decide +kernel))
set_option maxRecDepth 20000 in
theorem gX1_foldDelegate_X1_reachOf : GoodIn wsX1_foldDelegate (wsV RX1 212 RX1 yX1_reachOf wsX1_reachOf) := goodIn_app (goodIn_of _ (by decide +kernel)) ggX1_foldDelegate_X1_reachOf
set_option maxRecDepth 20000 in
theorem ggX1_foldDelegate_X1_paceOf : GoodIn wsX1_foldDelegate wsX1_paceOf := goodIn_ca (goodIn_r _ [31, 32, 7, 8, 9, 4, 10, 11, 12, 13, 103, 104, 105, 106, 107, 108, 109, 110, 111, 112] (by decide +kernel) (by decide +kernel)) (goodIn_sub (fun _ h => List.mem_cons_of_mem _ (List.mem_append_right _ h)) (by decide +kernel))
set_option maxRecDepth 20000 in
theorem gX1_foldDelegate_X1_paceOf : GoodIn wsX1_foldDelegate (wsV RX1 215 RX1 yX1_paceOf wsX1_paceOf) := goodIn_app (goodIn_of _ (by decide +kernel)) ggX1_foldDelegate_X1_paceOf
set_option maxRecDepth 20000 in
theorem ggX1_foldDelegate_X1_plankOf : GoodIn wsX1_foldDelegate wsX1_plankOf := goodIn_ca (goodIn_r _ [36, 37, 7, 8, 9, 4, 10, 11, 12, 13, 103, 104, 105, 106, 107, 108, 109, 110, 111, 112] (by decide +kernel) (by decide +kernel)) (goodIn_sub (fun _ h => List.mem_cons_of_mem _ (List.mem_append_right _ h)) (by decide +kernel))
set_option maxRecDepth 20000 in
theorem gX1_foldDelegate_X1_plankOf : GoodIn wsX1_foldDelegate (wsV RX1 218 RX1 yX1_plankOf wsX1_plankOf) := goodIn_app (goodIn_of _ (by decide +kernel)) ggX1_foldDelegate_X1_plankOf
set_option maxRecDepth 20000 in
theorem ggX1_foldDelegate_X1_wouldStepTo : GoodIn wsX1_foldDelegate wsX1_wouldStepTo := goodIn_ca (goodIn_r _ [41, 37, 7, 8, 9, 4, 10, 11, 12, 13, 42, 43, 44, 45, 46, 47, 48, 49, 50, 51, 52, 53, 54, 55, 56, 57, 58, 59, 60, 61, 62, 63, 64, 65, 32, 66, 67, 68, 69, 22, 27, 70, 71, 72, 73, 74, 75, 76, 77, 78, 79, 103, 104, 105, 106, 107, 108, 109, 110, 111, 112, 113, 114] (by decide +kernel) (by decide +kernel)) (goodIn_sub (fun _ h => List.mem_cons_of_mem _ (List.mem_append_right _ h)) (by decide +kernel))
set_option maxRecDepth 20000 in
theorem gX1_foldDelegate_X1_wouldStepTo : GoodIn wsX1_foldDelegate (wsV RX1 221 RX1 yX1_wouldStepTo wsX1_wouldStepTo) := goodIn_app (goodIn_of _ (by decide +kernel)) ggX1_foldDelegate_X1_wouldStepTo
set_option maxRecDepth 20000 in
theorem ggX1_foldDelegate_X1_bestStand : GoodIn wsX1_foldDelegate wsX1_bestStand := goodIn_ca (goodIn_r _ [83, 46, 7, 8, 9, 4, 10, 11, 12, 13, 84, 85, 86, 87, 37, 47, 48, 49, 50, 51, 52, 53, 54, 55, 56, 57, 88, 89, 90, 91, 71, 72, 73, 74, 75, 76, 77, 78, 79, 92, 93, 94, 95, 22, 96, 97, 98, 103, 104, 105, 106, 107, 108, 109, 110, 111, 112, 113, 114] (by decide +kernel) (by decide +kernel)) (goodIn_sub (fun _ h => List.mem_cons_of_mem _ (List.mem_append_right _ h)) (by decide +kernel))
set_option maxRecDepth 20000 in
theorem gX1_foldDelegate_X1_bestStand : GoodIn wsX1_foldDelegate (wsV RX1 224 RX1 yX1_bestStand wsX1_bestStand) := goodIn_app (goodIn_of _ (by decide +kernel)) ggX1_foldDelegate_X1_bestStand
set_option maxRecDepth 20000 in
theorem ggX1_foldDelegate_X1_discontentOf : GoodIn wsX1_foldDelegate wsX1_discontentOf := goodIn_ca (goodIn_r _ [102, 37, 7, 8, 9, 4, 10, 11, 12, 13, 42, 43, 44, 45, 46, 47, 48, 49, 50, 51, 52, 53, 54, 55, 56, 57, 58, 59, 60, 61, 92, 93, 94, 95, 22, 96, 97, 75, 98, 103, 104, 105, 106, 107, 108, 109, 110, 111, 112, 113, 114] (by decide +kernel) (by decide +kernel)) (goodIn_sub (fun _ h => List.mem_cons_of_mem _ (List.mem_append_right _ h)) (by decide +kernel))
set_option maxRecDepth 20000 in
theorem gX1_foldDelegate_X1_discontentOf : GoodIn wsX1_foldDelegate (wsV RX1 227 RX1 yX1_discontentOf wsX1_discontentOf) := goodIn_app (goodIn_of _ (by decide +kernel)) ggX1_foldDelegate_X1_discontentOf
theorem dX1_foldDelegate_0 : decode cX1_foldDelegate 0 = .ok (.lload_n 1, 1) := by decide +kernel
theorem dX1_foldDelegate_1 : decode cX1_foldDelegate 1 = .ok (.lstore 4, 2) := by decide +kernel
theorem dX1_foldDelegate_3 : decode cX1_foldDelegate 3 = .ok (.lload 4, 2) := by decide +kernel
theorem dX1_foldDelegate_5 : decode cX1_foldDelegate 5 = .ok (.aload_n 0, 1) := by decide +kernel
theorem dX1_foldDelegate_6 : decode cX1_foldDelegate 6 = .ok (.iload_n 3, 1) := by decide +kernel
theorem dX1_foldDelegate_7 : decode cX1_foldDelegate 7 = .ok (.invokevirtual 206, 3) := by decide +kernel
theorem dX1_foldDelegate_10 : decode cX1_foldDelegate 10 = .ok (.invokestatic 169, 3) := by decide +kernel
theorem dX1_foldDelegate_13 : decode cX1_foldDelegate 13 = .ok (.lstore 4, 2) := by decide +kernel
theorem dX1_foldDelegate_15 : decode cX1_foldDelegate 15 = .ok (.lload 4, 2) := by decide +kernel
theorem dX1_foldDelegate_17 : decode cX1_foldDelegate 17 = .ok (.aload_n 0, 1) := by decide +kernel
theorem dX1_foldDelegate_18 : decode cX1_foldDelegate 18 = .ok (.iload_n 3, 1) := by decide +kernel
theorem dX1_foldDelegate_19 : decode cX1_foldDelegate 19 = .ok (.invokevirtual 209, 3) := by decide +kernel
theorem dX1_foldDelegate_22 : decode cX1_foldDelegate 22 = .ok (.invokestatic 169, 3) := by decide +kernel
theorem dX1_foldDelegate_25 : decode cX1_foldDelegate 25 = .ok (.lstore 4, 2) := by decide +kernel
theorem dX1_foldDelegate_27 : decode cX1_foldDelegate 27 = .ok (.lload 4, 2) := by decide +kernel
theorem dX1_foldDelegate_29 : decode cX1_foldDelegate 29 = .ok (.aload_n 0, 1) := by decide +kernel
theorem dX1_foldDelegate_30 : decode cX1_foldDelegate 30 = .ok (.iload_n 3, 1) := by decide +kernel
theorem dX1_foldDelegate_31 : decode cX1_foldDelegate 31 = .ok (.invokevirtual 212, 3) := by decide +kernel
theorem dX1_foldDelegate_34 : decode cX1_foldDelegate 34 = .ok (.invokestatic 169, 3) := by decide +kernel
theorem dX1_foldDelegate_37 : decode cX1_foldDelegate 37 = .ok (.lstore 4, 2) := by decide +kernel
theorem dX1_foldDelegate_39 : decode cX1_foldDelegate 39 = .ok (.lload 4, 2) := by decide +kernel
theorem dX1_foldDelegate_41 : decode cX1_foldDelegate 41 = .ok (.aload_n 0, 1) := by decide +kernel
theorem dX1_foldDelegate_42 : decode cX1_foldDelegate 42 = .ok (.iload_n 3, 1) := by decide +kernel
theorem dX1_foldDelegate_43 : decode cX1_foldDelegate 43 = .ok (.invokevirtual 215, 3) := by decide +kernel
theorem dX1_foldDelegate_46 : decode cX1_foldDelegate 46 = .ok (.invokestatic 169, 3) := by decide +kernel
theorem dX1_foldDelegate_49 : decode cX1_foldDelegate 49 = .ok (.lstore 4, 2) := by decide +kernel
theorem dX1_foldDelegate_51 : decode cX1_foldDelegate 51 = .ok (.lload 4, 2) := by decide +kernel
theorem dX1_foldDelegate_53 : decode cX1_foldDelegate 53 = .ok (.aload_n 0, 1) := by decide +kernel
theorem dX1_foldDelegate_54 : decode cX1_foldDelegate 54 = .ok (.iload_n 3, 1) := by decide +kernel
theorem dX1_foldDelegate_55 : decode cX1_foldDelegate 55 = .ok (.invokevirtual 218, 3) := by decide +kernel
theorem dX1_foldDelegate_58 : decode cX1_foldDelegate 58 = .ok (.invokestatic 169, 3) := by decide +kernel
theorem dX1_foldDelegate_61 : decode cX1_foldDelegate 61 = .ok (.lstore 4, 2) := by decide +kernel
theorem dX1_foldDelegate_63 : decode cX1_foldDelegate 63 = .ok (.lload 4, 2) := by decide +kernel
theorem dX1_foldDelegate_65 : decode cX1_foldDelegate 65 = .ok (.aload_n 0, 1) := by decide +kernel
theorem dX1_foldDelegate_66 : decode cX1_foldDelegate 66 = .ok (.iload_n 3, 1) := by decide +kernel
theorem dX1_foldDelegate_67 : decode cX1_foldDelegate 67 = .ok (.invokevirtual 221, 3) := by decide +kernel
theorem dX1_foldDelegate_70 : decode cX1_foldDelegate 70 = .ok (.invokestatic 169, 3) := by decide +kernel
theorem dX1_foldDelegate_73 : decode cX1_foldDelegate 73 = .ok (.lstore 4, 2) := by decide +kernel
theorem dX1_foldDelegate_75 : decode cX1_foldDelegate 75 = .ok (.lload 4, 2) := by decide +kernel
theorem dX1_foldDelegate_77 : decode cX1_foldDelegate 77 = .ok (.aload_n 0, 1) := by decide +kernel
theorem dX1_foldDelegate_78 : decode cX1_foldDelegate 78 = .ok (.iload_n 3, 1) := by decide +kernel
theorem dX1_foldDelegate_79 : decode cX1_foldDelegate 79 = .ok (.invokevirtual 224, 3) := by decide +kernel
theorem dX1_foldDelegate_82 : decode cX1_foldDelegate 82 = .ok (.invokestatic 169, 3) := by decide +kernel
theorem dX1_foldDelegate_85 : decode cX1_foldDelegate 85 = .ok (.lstore 4, 2) := by decide +kernel
theorem dX1_foldDelegate_87 : decode cX1_foldDelegate 87 = .ok (.lload 4, 2) := by decide +kernel
theorem dX1_foldDelegate_89 : decode cX1_foldDelegate 89 = .ok (.aload_n 0, 1) := by decide +kernel
theorem dX1_foldDelegate_90 : decode cX1_foldDelegate 90 = .ok (.iload_n 3, 1) := by decide +kernel
theorem dX1_foldDelegate_91 : decode cX1_foldDelegate 91 = .ok (.invokevirtual 227, 3) := by decide +kernel
theorem dX1_foldDelegate_94 : decode cX1_foldDelegate 94 = .ok (.invokestatic 169, 3) := by decide +kernel
theorem dX1_foldDelegate_97 : decode cX1_foldDelegate 97 = .ok (.lstore 4, 2) := by decide +kernel
theorem dX1_foldDelegate_99 : decode cX1_foldDelegate 99 = .ok (.lload 4, 2) := by decide +kernel
theorem dX1_foldDelegate_101 : decode cX1_foldDelegate 101 = .ok (.lreturn, 1) := by decide +kernel
theorem dX1_fold_0 : decode cX1_fold 0 = .ok (.lload_n 0, 1) := by decide +kernel
theorem dX1_fold_1 : decode cX1_fold 1 = .ok (.ldc2_w 230, 3) := by decide +kernel
theorem dX1_fold_4 : decode cX1_fold 4 = .ok (.lmul, 1) := by decide +kernel
theorem dX1_fold_5 : decode cX1_fold 5 = .ok (.iload_n 2, 1) := by decide +kernel
theorem dX1_fold_6 : decode cX1_fold 6 = .ok (.i2l, 1) := by decide +kernel
theorem dX1_fold_7 : decode cX1_fold 7 = .ok (.ladd, 1) := by decide +kernel
theorem dX1_fold_8 : decode cX1_fold 8 = .ok (.lreturn, 1) := by decide +kernel
theorem dX1_checkDelegate_0 : decode cX1_checkDelegate 0 = .ok (.iload_n 1, 1) := by decide +kernel
theorem dX1_checkDelegate_1 : decode cX1_checkDelegate 1 = .ok (.ifCond .lt 11, 3) := by decide +kernel
theorem dX1_checkDelegate_4 : decode cX1_checkDelegate 4 = .ok (.iload_n 1, 1) := by decide +kernel
theorem dX1_checkDelegate_5 : decode cX1_checkDelegate 5 = .ok (.aload_n 0, 1) := by decide +kernel
theorem dX1_checkDelegate_6 : decode cX1_checkDelegate 6 = .ok (.getfield 7, 3) := by decide +kernel
theorem dX1_checkDelegate_9 : decode cX1_checkDelegate 9 = .ok (.if_icmp .lt 13, 3) := by decide +kernel
theorem dX1_checkDelegate_12 : decode cX1_checkDelegate 12 = .ok (.new 232, 3) := by decide +kernel
theorem dX1_checkDelegate_15 : decode cX1_checkDelegate 15 = .ok (.dup, 1) := by decide +kernel
theorem dX1_checkDelegate_16 : decode cX1_checkDelegate 16 = .ok (.ldc 234, 2) := by decide +kernel
theorem dX1_checkDelegate_18 : decode cX1_checkDelegate 18 = .ok (.invokespecial 236, 3) := by decide +kernel
theorem dX1_checkDelegate_21 : decode cX1_checkDelegate 21 = .ok (.athrow, 1) := by decide +kernel
theorem dX1_checkDelegate_22 : decode cX1_checkDelegate 22 = .ok (.return_, 1) := by decide +kernel
theorem dX1_checkVillage_0 : decode cX1_checkVillage 0 = .ok (.iload_n 0, 1) := by decide +kernel
theorem dX1_checkVillage_1 : decode cX1_checkVillage 1 = .ok (.ifCond .lt 8, 3) := by decide +kernel
theorem dX1_checkVillage_4 : decode cX1_checkVillage 4 = .ok (.iload_n 0, 1) := by decide +kernel
theorem dX1_checkVillage_5 : decode cX1_checkVillage 5 = .ok (.iconst 5, 1) := by decide +kernel
theorem dX1_checkVillage_6 : decode cX1_checkVillage 6 = .ok (.if_icmp .lt 13, 3) := by decide +kernel
theorem dX1_checkVillage_9 : decode cX1_checkVillage 9 = .ok (.new 232, 3) := by decide +kernel
theorem dX1_checkVillage_12 : decode cX1_checkVillage 12 = .ok (.dup, 1) := by decide +kernel
theorem dX1_checkVillage_13 : decode cX1_checkVillage 13 = .ok (.ldc 237, 2) := by decide +kernel
theorem dX1_checkVillage_15 : decode cX1_checkVillage 15 = .ok (.invokespecial 236, 3) := by decide +kernel
theorem dX1_checkVillage_18 : decode cX1_checkVillage 18 = .ok (.athrow, 1) := by decide +kernel
theorem dX1_checkVillage_19 : decode cX1_checkVillage 19 = .ok (.return_, 1) := by decide +kernel
theorem dX1_checkPlank_0 : decode cX1_checkPlank 0 = .ok (.iload_n 0, 1) := by decide +kernel
theorem dX1_checkPlank_1 : decode cX1_checkPlank 1 = .ok (.ifCond .lt 9, 3) := by decide +kernel
theorem dX1_checkPlank_4 : decode cX1_checkPlank 4 = .ok (.iload_n 0, 1) := by decide +kernel
theorem dX1_checkPlank_5 : decode cX1_checkPlank 5 = .ok (.bipush 41, 2) := by decide +kernel
theorem dX1_checkPlank_7 : decode cX1_checkPlank 7 = .ok (.if_icmp .lt 13, 3) := by decide +kernel
theorem dX1_checkPlank_10 : decode cX1_checkPlank 10 = .ok (.new 232, 3) := by decide +kernel
theorem dX1_checkPlank_13 : decode cX1_checkPlank 13 = .ok (.dup, 1) := by decide +kernel
theorem dX1_checkPlank_14 : decode cX1_checkPlank 14 = .ok (.ldc 239, 2) := by decide +kernel
theorem dX1_checkPlank_16 : decode cX1_checkPlank 16 = .ok (.invokespecial 236, 3) := by decide +kernel
theorem dX1_checkPlank_19 : decode cX1_checkPlank 19 = .ok (.athrow, 1) := by decide +kernel
theorem dX1_checkPlank_20 : decode cX1_checkPlank 20 = .ok (.return_, 1) := by decide +kernel
set_option maxRecDepth 20000 in
theorem ggX1_checkTwoPlanks_X1_checkPlank : GoodIn wsX1_checkTwoPlanks wsX1_checkPlank := goodIn_ca (goodIn_r _ [6, 7, 8] (by decide +kernel) (by decide +kernel)) (goodIn_sub (fun _ h => List.mem_cons_of_mem _ (List.mem_append_right _ h)) (by decide +kernel))
set_option maxRecDepth 20000 in
theorem gX1_checkTwoPlanks_X1_checkPlank : GoodIn wsX1_checkTwoPlanks (va_wsS RX1 49 yX1_checkPlank wsX1_checkPlank) := goodIn_app (goodIn_of _ (by decide +kernel)) ggX1_checkTwoPlanks_X1_checkPlank
theorem dX1_checkTwoPlanks_0 : decode cX1_checkTwoPlanks 0 = .ok (.iload_n 0, 1) := by decide +kernel
theorem dX1_checkTwoPlanks_1 : decode cX1_checkTwoPlanks 1 = .ok (.invokestatic 49, 3) := by decide +kernel
theorem dX1_checkTwoPlanks_4 : decode cX1_checkTwoPlanks 4 = .ok (.iload_n 1, 1) := by decide +kernel
theorem dX1_checkTwoPlanks_5 : decode cX1_checkTwoPlanks 5 = .ok (.invokestatic 49, 3) := by decide +kernel
theorem dX1_checkTwoPlanks_8 : decode cX1_checkTwoPlanks 8 = .ok (.iload_n 0, 1) := by decide +kernel
theorem dX1_checkTwoPlanks_9 : decode cX1_checkTwoPlanks 9 = .ok (.iload_n 1, 1) := by decide +kernel
theorem dX1_checkTwoPlanks_10 : decode cX1_checkTwoPlanks 10 = .ok (.if_icmp .ne 13, 3) := by decide +kernel
theorem dX1_checkTwoPlanks_13 : decode cX1_checkTwoPlanks 13 = .ok (.new 85, 3) := by decide +kernel
theorem dX1_checkTwoPlanks_16 : decode cX1_checkTwoPlanks 16 = .ok (.dup, 1) := by decide +kernel
theorem dX1_checkTwoPlanks_17 : decode cX1_checkTwoPlanks 17 = .ok (.ldc 241, 2) := by decide +kernel
theorem dX1_checkTwoPlanks_19 : decode cX1_checkTwoPlanks 19 = .ok (.invokespecial 89, 3) := by decide +kernel
theorem dX1_checkTwoPlanks_22 : decode cX1_checkTwoPlanks 22 = .ok (.athrow, 1) := by decide +kernel
theorem dX1_checkTwoPlanks_23 : decode cX1_checkTwoPlanks 23 = .ok (.return_, 1) := by decide +kernel
theorem dX1_checkReachAndPace_0 : decode cX1_checkReachAndPace 0 = .ok (.iload_n 0, 1) := by decide +kernel
theorem dX1_checkReachAndPace_1 : decode cX1_checkReachAndPace 1 = .ok (.ifCond .lt 9, 3) := by decide +kernel
theorem dX1_checkReachAndPace_4 : decode cX1_checkReachAndPace 4 = .ok (.iload_n 0, 1) := by decide +kernel
theorem dX1_checkReachAndPace_5 : decode cX1_checkReachAndPace 5 = .ok (.bipush 20, 2) := by decide +kernel
theorem dX1_checkReachAndPace_7 : decode cX1_checkReachAndPace 7 = .ok (.if_icmp .le 13, 3) := by decide +kernel
theorem dX1_checkReachAndPace_10 : decode cX1_checkReachAndPace 10 = .ok (.new 85, 3) := by decide +kernel
theorem dX1_checkReachAndPace_13 : decode cX1_checkReachAndPace 13 = .ok (.dup, 1) := by decide +kernel
theorem dX1_checkReachAndPace_14 : decode cX1_checkReachAndPace 14 = .ok (.ldc 243, 2) := by decide +kernel
theorem dX1_checkReachAndPace_16 : decode cX1_checkReachAndPace 16 = .ok (.invokespecial 89, 3) := by decide +kernel
theorem dX1_checkReachAndPace_19 : decode cX1_checkReachAndPace 19 = .ok (.athrow, 1) := by decide +kernel
theorem dX1_checkReachAndPace_20 : decode cX1_checkReachAndPace 20 = .ok (.iload_n 1, 1) := by decide +kernel
theorem dX1_checkReachAndPace_21 : decode cX1_checkReachAndPace 21 = .ok (.iconst 1, 1) := by decide +kernel
theorem dX1_checkReachAndPace_22 : decode cX1_checkReachAndPace 22 = .ok (.if_icmp .lt 8, 3) := by decide +kernel
theorem dX1_checkReachAndPace_25 : decode cX1_checkReachAndPace 25 = .ok (.iload_n 1, 1) := by decide +kernel
theorem dX1_checkReachAndPace_26 : decode cX1_checkReachAndPace 26 = .ok (.iconst 5, 1) := by decide +kernel
theorem dX1_checkReachAndPace_27 : decode cX1_checkReachAndPace 27 = .ok (.if_icmp .le 13, 3) := by decide +kernel
theorem dX1_checkReachAndPace_30 : decode cX1_checkReachAndPace 30 = .ok (.new 85, 3) := by decide +kernel
theorem dX1_checkReachAndPace_33 : decode cX1_checkReachAndPace 33 = .ok (.dup, 1) := by decide +kernel
theorem dX1_checkReachAndPace_34 : decode cX1_checkReachAndPace 34 = .ok (.ldc 245, 2) := by decide +kernel
theorem dX1_checkReachAndPace_36 : decode cX1_checkReachAndPace 36 = .ok (.invokespecial 89, 3) := by decide +kernel
theorem dX1_checkReachAndPace_39 : decode cX1_checkReachAndPace 39 = .ok (.athrow, 1) := by decide +kernel
theorem dX1_checkReachAndPace_40 : decode cX1_checkReachAndPace 40 = .ok (.return_, 1) := by decide +kernel
theorem dX1_checkRounds_0 : decode cX1_checkRounds 0 = .ok (.iload_n 0, 1) := by decide +kernel
theorem dX1_checkRounds_1 : decode cX1_checkRounds 1 = .ok (.iconst 1, 1) := by decide +kernel
theorem dX1_checkRounds_2 : decode cX1_checkRounds 2 = .ok (.if_icmp .lt 9, 3) := by decide +kernel
theorem dX1_checkRounds_5 : decode cX1_checkRounds 5 = .ok (.iload_n 0, 1) := by decide +kernel
theorem dX1_checkRounds_6 : decode cX1_checkRounds 6 = .ok (.bipush 50, 2) := by decide +kernel
theorem dX1_checkRounds_8 : decode cX1_checkRounds 8 = .ok (.if_icmp .le 13, 3) := by decide +kernel
theorem dX1_checkRounds_11 : decode cX1_checkRounds 11 = .ok (.new 85, 3) := by decide +kernel
theorem dX1_checkRounds_14 : decode cX1_checkRounds 14 = .ok (.dup, 1) := by decide +kernel
theorem dX1_checkRounds_15 : decode cX1_checkRounds 15 = .ok (.ldc 247, 2) := by decide +kernel
theorem dX1_checkRounds_17 : decode cX1_checkRounds 17 = .ok (.invokespecial 89, 3) := by decide +kernel
theorem dX1_checkRounds_20 : decode cX1_checkRounds 20 = .ok (.athrow, 1) := by decide +kernel
theorem dX1_checkRounds_21 : decode cX1_checkRounds 21 = .ok (.return_, 1) := by decide +kernel
theorem dX1_checkSomeoneThere_0 : decode cX1_checkSomeoneThere 0 = .ok (.aload_n 0, 1) := by decide +kernel
theorem dX1_checkSomeoneThere_1 : decode cX1_checkSomeoneThere 1 = .ok (.getfield 7, 3) := by decide +kernel
theorem dX1_checkSomeoneThere_4 : decode cX1_checkSomeoneThere 4 = .ok (.ifCond .ne 13, 3) := by decide +kernel
theorem dX1_checkSomeoneThere_7 : decode cX1_checkSomeoneThere 7 = .ok (.new 56, 3) := by decide +kernel
theorem dX1_checkSomeoneThere_10 : decode cX1_checkSomeoneThere 10 = .ok (.dup, 1) := by decide +kernel
theorem dX1_checkSomeoneThere_11 : decode cX1_checkSomeoneThere 11 = .ok (.ldc 249, 2) := by decide +kernel
theorem dX1_checkSomeoneThere_13 : decode cX1_checkSomeoneThere 13 = .ok (.invokespecial 60, 3) := by decide +kernel
theorem dX1_checkSomeoneThere_16 : decode cX1_checkSomeoneThere 16 = .ok (.athrow, 1) := by decide +kernel
theorem dX1_checkSomeoneThere_17 : decode cX1_checkSomeoneThere 17 = .ok (.return_, 1) := by decide +kernel
set_option maxRecDepth 20000 in
theorem ggX1_isWilling_X1_discontent : GoodIn wsX1_isWilling wsX1_discontent := goodIn_r _ [6, 7, 8, 9, 10, 11, 12, 13, 14, 15, 16, 17, 18, 19, 20, 21] (by decide +kernel) (by decide +kernel)
set_option maxRecDepth 20000 in
theorem gX1_isWilling_X1_discontent : GoodIn wsX1_isWilling (wsV RX1 132 RX1 yX1_discontent wsX1_discontent) := goodIn_app (goodIn_of _ (by decide +kernel)) ggX1_isWilling_X1_discontent
theorem dX1_isWilling_0 : decode cX1_isWilling 0 = .ok (.aload_n 0, 1) := by decide +kernel
theorem dX1_isWilling_1 : decode cX1_isWilling 1 = .ok (.iload_n 1, 1) := by decide +kernel
theorem dX1_isWilling_2 : decode cX1_isWilling 2 = .ok (.iload_n 2, 1) := by decide +kernel
theorem dX1_isWilling_3 : decode cX1_isWilling 3 = .ok (.invokevirtual 132, 3) := by decide +kernel
theorem dX1_isWilling_6 : decode cX1_isWilling 6 = .ok (.aload_n 0, 1) := by decide +kernel
theorem dX1_isWilling_7 : decode cX1_isWilling 7 = .ok (.getfield 26, 3) := by decide +kernel
theorem dX1_isWilling_10 : decode cX1_isWilling 10 = .ok (.iload_n 1, 1) := by decide +kernel
theorem dX1_isWilling_11 : decode cX1_isWilling 11 = .ok (.iaload, 1) := by decide +kernel
theorem dX1_isWilling_12 : decode cX1_isWilling 12 = .ok (.if_icmp .gt 7, 3) := by decide +kernel
theorem dX1_isWilling_15 : decode cX1_isWilling 15 = .ok (.iconst 1, 1) := by decide +kernel
theorem dX1_isWilling_16 : decode cX1_isWilling 16 = .ok (.goto 4, 3) := by decide +kernel
theorem dX1_isWilling_19 : decode cX1_isWilling 19 = .ok (.iconst 0, 1) := by decide +kernel
theorem dX1_isWilling_20 : decode cX1_isWilling 20 = .ok (.ireturn, 1) := by decide +kernel
theorem dX1_discontent_0 : decode cX1_discontent 0 = .ok (.iload_n 2, 1) := by decide +kernel
theorem dX1_discontent_1 : decode cX1_discontent 1 = .ok (.aload_n 0, 1) := by decide +kernel
theorem dX1_discontent_2 : decode cX1_discontent 2 = .ok (.getfield 23, 3) := by decide +kernel
theorem dX1_discontent_5 : decode cX1_discontent 5 = .ok (.iload_n 1, 1) := by decide +kernel
theorem dX1_discontent_6 : decode cX1_discontent 6 = .ok (.iaload, 1) := by decide +kernel
theorem dX1_discontent_7 : decode cX1_discontent 7 = .ok (.isub, 1) := by decide +kernel
theorem dX1_discontent_8 : decode cX1_discontent 8 = .ok (.invokestatic 251, 3) := by decide +kernel
theorem dX1_discontent_11 : decode cX1_discontent 11 = .ok (.ireturn, 1) := by decide +kernel
set_option maxRecDepth 20000 in
theorem ggX1_hasPlaceFor_X1_hasRoom : GoodIn wsX1_hasPlaceFor wsX1_hasRoom := goodIn_r _ [6, 7, 8, 9, 10, 5, 11, 12, 13, 14, 15, 16, 17, 18, 19, 20, 21, 22] (by decide +kernel) (by decide +kernel)
set_option maxRecDepth 20000 in
theorem gX1_hasPlaceFor_X1_hasRoom : GoodIn wsX1_hasPlaceFor (wsV RX1 63 RX1 yX1_hasRoom wsX1_hasRoom) := goodIn_app (goodIn_of _ (by decide +kernel)) ggX1_hasPlaceFor_X1_hasRoom
theorem dX1_hasPlaceFor_0 : decode cX1_hasPlaceFor 0 = .ok (.aload_n 0, 1) := by decide +kernel
theorem dX1_hasPlaceFor_1 : decode cX1_hasPlaceFor 1 = .ok (.getfield 32, 3) := by decide +kernel
theorem dX1_hasPlaceFor_4 : decode cX1_hasPlaceFor 4 = .ok (.iload_n 1, 1) := by decide +kernel
theorem dX1_hasPlaceFor_5 : decode cX1_hasPlaceFor 5 = .ok (.iaload, 1) := by decide +kernel
theorem dX1_hasPlaceFor_6 : decode cX1_hasPlaceFor 6 = .ok (.iload_n 2, 1) := by decide +kernel
theorem dX1_hasPlaceFor_7 : decode cX1_hasPlaceFor 7 = .ok (.if_icmp .eq 15, 3) := by decide +kernel
theorem dX1_hasPlaceFor_10 : decode cX1_hasPlaceFor 10 = .ok (.aload_n 0, 1) := by decide +kernel
theorem dX1_hasPlaceFor_11 : decode cX1_hasPlaceFor 11 = .ok (.aload_n 0, 1) := by decide +kernel
theorem dX1_hasPlaceFor_12 : decode cX1_hasPlaceFor 12 = .ok (.getfield 32, 3) := by decide +kernel
theorem dX1_hasPlaceFor_15 : decode cX1_hasPlaceFor 15 = .ok (.iload_n 2, 1) := by decide +kernel
theorem dX1_hasPlaceFor_16 : decode cX1_hasPlaceFor 16 = .ok (.invokevirtual 63, 3) := by decide +kernel
theorem dX1_hasPlaceFor_19 : decode cX1_hasPlaceFor 19 = .ok (.ifCond .eq 7, 3) := by decide +kernel
theorem dX1_hasPlaceFor_22 : decode cX1_hasPlaceFor 22 = .ok (.iconst 1, 1) := by decide +kernel
theorem dX1_hasPlaceFor_23 : decode cX1_hasPlaceFor 23 = .ok (.goto 4, 3) := by decide +kernel
theorem dX1_hasPlaceFor_26 : decode cX1_hasPlaceFor 26 = .ok (.iconst 0, 1) := by decide +kernel
theorem dX1_hasPlaceFor_27 : decode cX1_hasPlaceFor 27 = .ok (.ireturn, 1) := by decide +kernel
set_option maxRecDepth 20000 in
theorem ggX1_stepFrom_X1_nearestWillingPlank : GoodIn wsX1_stepFrom wsX1_nearestWillingPlank := goodIn_r _ [6, 7, 8, 9, 10, 5, 11, 12, 13, 14, 15, 16, 17, 18, 19, 20, 21, 22, 23, 24, 25, 26, 27, 28] (by decide +kernel) (by decide +kernel)
set_option maxRecDepth 20000 in
theorem gX1_stepFrom_X1_nearestWillingPlank : GoodIn wsX1_stepFrom (wsV RX1 254 RX1 yX1_nearestWillingPlank wsX1_nearestWillingPlank) := goodIn_app (goodIn_of _ (by decide +kernel)) ggX1_stepFrom_X1_nearestWillingPlank
set_option maxRecDepth 20000 in
theorem ggX1_stepFrom_X1_cutTo : GoodIn wsX1_stepFrom wsX1_cutTo := goodIn_r _ [11, 12, 13, 14, 15, 16, 17, 18] (by decide +kernel) (by decide +kernel)
set_option maxRecDepth 20000 in
theorem gX1_stepFrom_X1_cutTo : GoodIn wsX1_stepFrom (va_wsS RX1 257 yX1_cutTo wsX1_cutTo) := goodIn_app (goodIn_of _ (by decide +kernel)) ggX1_stepFrom_X1_cutTo
theorem dX1_stepFrom_0 : decode cX1_stepFrom 0 = .ok (.aload_n 0, 1) := by decide +kernel
theorem dX1_stepFrom_1 : decode cX1_stepFrom 1 = .ok (.iload_n 1, 1) := by decide +kernel
theorem dX1_stepFrom_2 : decode cX1_stepFrom 2 = .ok (.iload_n 3, 1) := by decide +kernel
theorem dX1_stepFrom_3 : decode cX1_stepFrom 3 = .ok (.invokevirtual 254, 3) := by decide +kernel
theorem dX1_stepFrom_6 : decode cX1_stepFrom 6 = .ok (.istore 4, 2) := by decide +kernel
theorem dX1_stepFrom_8 : decode cX1_stepFrom 8 = .ok (.iload 4, 2) := by decide +kernel
theorem dX1_stepFrom_10 : decode cX1_stepFrom 10 = .ok (.iload_n 2, 1) := by decide +kernel
theorem dX1_stepFrom_11 : decode cX1_stepFrom 11 = .ok (.aload_n 0, 1) := by decide +kernel
theorem dX1_stepFrom_12 : decode cX1_stepFrom 12 = .ok (.getfield 29, 3) := by decide +kernel
theorem dX1_stepFrom_15 : decode cX1_stepFrom 15 = .ok (.iload_n 1, 1) := by decide +kernel
theorem dX1_stepFrom_16 : decode cX1_stepFrom 16 = .ok (.iaload, 1) := by decide +kernel
theorem dX1_stepFrom_17 : decode cX1_stepFrom 17 = .ok (.isub, 1) := by decide +kernel
theorem dX1_stepFrom_18 : decode cX1_stepFrom 18 = .ok (.iload_n 2, 1) := by decide +kernel
theorem dX1_stepFrom_19 : decode cX1_stepFrom 19 = .ok (.aload_n 0, 1) := by decide +kernel
theorem dX1_stepFrom_20 : decode cX1_stepFrom 20 = .ok (.getfield 29, 3) := by decide +kernel
theorem dX1_stepFrom_23 : decode cX1_stepFrom 23 = .ok (.iload_n 1, 1) := by decide +kernel
theorem dX1_stepFrom_24 : decode cX1_stepFrom 24 = .ok (.iaload, 1) := by decide +kernel
theorem dX1_stepFrom_25 : decode cX1_stepFrom 25 = .ok (.iadd, 1) := by decide +kernel
theorem dX1_stepFrom_26 : decode cX1_stepFrom 26 = .ok (.invokestatic 257, 3) := by decide +kernel
theorem dX1_stepFrom_29 : decode cX1_stepFrom 29 = .ok (.ireturn, 1) := by decide +kernel
set_option maxRecDepth 20000 in
theorem ggX1_nearestWillingPlank_X1_cutTo : GoodIn wsX1_nearestWillingPlank wsX1_cutTo := goodIn_r _ [6, 7, 8, 9, 10, 11, 12, 13] (by decide +kernel) (by decide +kernel)
set_option maxRecDepth 20000 in
theorem gX1_nearestWillingPlank_X1_cutTo : GoodIn wsX1_nearestWillingPlank (va_wsS RX1 257 yX1_cutTo wsX1_cutTo) := goodIn_app (goodIn_of _ (by decide +kernel)) ggX1_nearestWillingPlank_X1_cutTo
theorem dX1_nearestWillingPlank_0 : decode cX1_nearestWillingPlank 0 = .ok (.aload_n 0, 1) := by decide +kernel
theorem dX1_nearestWillingPlank_1 : decode cX1_nearestWillingPlank 1 = .ok (.getfield 23, 3) := by decide +kernel
theorem dX1_nearestWillingPlank_4 : decode cX1_nearestWillingPlank 4 = .ok (.iload_n 1, 1) := by decide +kernel
theorem dX1_nearestWillingPlank_5 : decode cX1_nearestWillingPlank 5 = .ok (.iaload, 1) := by decide +kernel
theorem dX1_nearestWillingPlank_6 : decode cX1_nearestWillingPlank 6 = .ok (.istore_n 3, 1) := by decide +kernel
theorem dX1_nearestWillingPlank_7 : decode cX1_nearestWillingPlank 7 = .ok (.iload_n 2, 1) := by decide +kernel
theorem dX1_nearestWillingPlank_8 : decode cX1_nearestWillingPlank 8 = .ok (.iload_n 3, 1) := by decide +kernel
theorem dX1_nearestWillingPlank_9 : decode cX1_nearestWillingPlank 9 = .ok (.aload_n 0, 1) := by decide +kernel
theorem dX1_nearestWillingPlank_10 : decode cX1_nearestWillingPlank 10 = .ok (.getfield 26, 3) := by decide +kernel
theorem dX1_nearestWillingPlank_13 : decode cX1_nearestWillingPlank 13 = .ok (.iload_n 1, 1) := by decide +kernel
theorem dX1_nearestWillingPlank_14 : decode cX1_nearestWillingPlank 14 = .ok (.iaload, 1) := by decide +kernel
theorem dX1_nearestWillingPlank_15 : decode cX1_nearestWillingPlank 15 = .ok (.isub, 1) := by decide +kernel
theorem dX1_nearestWillingPlank_16 : decode cX1_nearestWillingPlank 16 = .ok (.iload_n 3, 1) := by decide +kernel
theorem dX1_nearestWillingPlank_17 : decode cX1_nearestWillingPlank 17 = .ok (.aload_n 0, 1) := by decide +kernel
theorem dX1_nearestWillingPlank_18 : decode cX1_nearestWillingPlank 18 = .ok (.getfield 26, 3) := by decide +kernel
theorem dX1_nearestWillingPlank_21 : decode cX1_nearestWillingPlank 21 = .ok (.iload_n 1, 1) := by decide +kernel
theorem dX1_nearestWillingPlank_22 : decode cX1_nearestWillingPlank 22 = .ok (.iaload, 1) := by decide +kernel
theorem dX1_nearestWillingPlank_23 : decode cX1_nearestWillingPlank 23 = .ok (.iadd, 1) := by decide +kernel
theorem dX1_nearestWillingPlank_24 : decode cX1_nearestWillingPlank 24 = .ok (.invokestatic 257, 3) := by decide +kernel
theorem dX1_nearestWillingPlank_27 : decode cX1_nearestWillingPlank 27 = .ok (.ireturn, 1) := by decide +kernel
theorem dX1_cutTo_0 : decode cX1_cutTo 0 = .ok (.iload_n 1, 1) := by decide +kernel
theorem dX1_cutTo_1 : decode cX1_cutTo 1 = .ok (.iload_n 0, 1) := by decide +kernel
theorem dX1_cutTo_2 : decode cX1_cutTo 2 = .ok (.iload_n 2, 1) := by decide +kernel
theorem dX1_cutTo_3 : decode cX1_cutTo 3 = .ok (.invokestatic 146, 3) := by decide +kernel
theorem dX1_cutTo_6 : decode cX1_cutTo 6 = .ok (.invokestatic 260, 3) := by decide +kernel
theorem dX1_cutTo_9 : decode cX1_cutTo 9 = .ok (.ireturn, 1) := by decide +kernel
theorem dX1_closeGap_0 : decode cX1_closeGap 0 = .ok (.iload_n 2, 1) := by decide +kernel
theorem dX1_closeGap_1 : decode cX1_closeGap 1 = .ok (.istore_n 3, 1) := by decide +kernel
theorem dX1_closeGap_2 : decode cX1_closeGap 2 = .ok (.iload_n 3, 1) := by decide +kernel
theorem dX1_closeGap_3 : decode cX1_closeGap 3 = .ok (.aload_n 0, 1) := by decide +kernel
theorem dX1_closeGap_4 : decode cX1_closeGap 4 = .ok (.getfield 7, 3) := by decide +kernel
theorem dX1_closeGap_7 : decode cX1_closeGap 7 = .ok (.iconst 1, 1) := by decide +kernel
theorem dX1_closeGap_8 : decode cX1_closeGap 8 = .ok (.isub, 1) := by decide +kernel
theorem dX1_closeGap_9 : decode cX1_closeGap 9 = .ok (.if_icmp .ge 17, 3) := by decide +kernel
theorem dX1_closeGap_12 : decode cX1_closeGap 12 = .ok (.aload_n 1, 1) := by decide +kernel
theorem dX1_closeGap_13 : decode cX1_closeGap 13 = .ok (.iload_n 3, 1) := by decide +kernel
theorem dX1_closeGap_14 : decode cX1_closeGap 14 = .ok (.aload_n 1, 1) := by decide +kernel
theorem dX1_closeGap_15 : decode cX1_closeGap 15 = .ok (.iload_n 3, 1) := by decide +kernel
theorem dX1_closeGap_16 : decode cX1_closeGap 16 = .ok (.iconst 1, 1) := by decide +kernel
theorem dX1_closeGap_17 : decode cX1_closeGap 17 = .ok (.iadd, 1) := by decide +kernel
theorem dX1_closeGap_18 : decode cX1_closeGap 18 = .ok (.iaload, 1) := by decide +kernel
theorem dX1_closeGap_19 : decode cX1_closeGap 19 = .ok (.iastore, 1) := by decide +kernel
theorem dX1_closeGap_20 : decode cX1_closeGap 20 = .ok (.iinc 3 1, 3) := by decide +kernel
theorem dX1_closeGap_23 : decode cX1_closeGap 23 = .ok (.goto (-21), 3) := by decide +kernel
theorem dX1_closeGap_26 : decode cX1_closeGap 26 = .ok (.return_, 1) := by decide +kernel
set_option maxRecDepth 20000 in
theorem ggX1_hasRoom_X1_crowdOn : GoodIn wsX1_hasRoom wsX1_crowdOn := goodIn_r _ [6, 7, 8, 9, 10, 11, 12, 13, 14, 15, 16, 17] (by decide +kernel) (by decide +kernel)
set_option maxRecDepth 20000 in
theorem gX1_hasRoom_X1_crowdOn : GoodIn wsX1_hasRoom (wsV RX1 97 RX1 yX1_crowdOn wsX1_crowdOn) := goodIn_app (goodIn_of _ (by decide +kernel)) ggX1_hasRoom_X1_crowdOn
theorem dX1_hasRoom_0 : decode cX1_hasRoom 0 = .ok (.aload_n 0, 1) := by decide +kernel
theorem dX1_hasRoom_1 : decode cX1_hasRoom 1 = .ok (.aload_n 1, 1) := by decide +kernel
theorem dX1_hasRoom_2 : decode cX1_hasRoom 2 = .ok (.iload_n 2, 1) := by decide +kernel
theorem dX1_hasRoom_3 : decode cX1_hasRoom 3 = .ok (.invokevirtual 97, 3) := by decide +kernel
theorem dX1_hasRoom_6 : decode cX1_hasRoom 6 = .ok (.aload_n 0, 1) := by decide +kernel
theorem dX1_hasRoom_7 : decode cX1_hasRoom 7 = .ok (.getfield 16, 3) := by decide +kernel
theorem dX1_hasRoom_10 : decode cX1_hasRoom 10 = .ok (.if_icmp .ge 7, 3) := by decide +kernel
theorem dX1_hasRoom_13 : decode cX1_hasRoom 13 = .ok (.iconst 1, 1) := by decide +kernel
theorem dX1_hasRoom_14 : decode cX1_hasRoom 14 = .ok (.goto 4, 3) := by decide +kernel
theorem dX1_hasRoom_17 : decode cX1_hasRoom 17 = .ok (.iconst 0, 1) := by decide +kernel
theorem dX1_hasRoom_18 : decode cX1_hasRoom 18 = .ok (.ireturn, 1) := by decide +kernel
theorem dX1_crowdOn_0 : decode cX1_crowdOn 0 = .ok (.iconst 0, 1) := by decide +kernel
theorem dX1_crowdOn_1 : decode cX1_crowdOn 1 = .ok (.istore_n 3, 1) := by decide +kernel
theorem dX1_crowdOn_2 : decode cX1_crowdOn 2 = .ok (.iconst 0, 1) := by decide +kernel
theorem dX1_crowdOn_3 : decode cX1_crowdOn 3 = .ok (.istore 4, 2) := by decide +kernel
theorem dX1_crowdOn_5 : decode cX1_crowdOn 5 = .ok (.iload 4, 2) := by decide +kernel
theorem dX1_crowdOn_7 : decode cX1_crowdOn 7 = .ok (.aload_n 0, 1) := by decide +kernel
theorem dX1_crowdOn_8 : decode cX1_crowdOn 8 = .ok (.getfield 7, 3) := by decide +kernel
theorem dX1_crowdOn_11 : decode cX1_crowdOn 11 = .ok (.if_icmp .ge 20, 3) := by decide +kernel
theorem dX1_crowdOn_14 : decode cX1_crowdOn 14 = .ok (.aload_n 1, 1) := by decide +kernel
theorem dX1_crowdOn_15 : decode cX1_crowdOn 15 = .ok (.iload 4, 2) := by decide +kernel
theorem dX1_crowdOn_17 : decode cX1_crowdOn 17 = .ok (.iaload, 1) := by decide +kernel
theorem dX1_crowdOn_18 : decode cX1_crowdOn 18 = .ok (.iload_n 2, 1) := by decide +kernel
theorem dX1_crowdOn_19 : decode cX1_crowdOn 19 = .ok (.if_icmp .ne 6, 3) := by decide +kernel
theorem dX1_crowdOn_22 : decode cX1_crowdOn 22 = .ok (.iinc 3 1, 3) := by decide +kernel
theorem dX1_crowdOn_25 : decode cX1_crowdOn 25 = .ok (.iinc 4 1, 3) := by decide +kernel
theorem dX1_crowdOn_28 : decode cX1_crowdOn 28 = .ok (.goto (-23), 3) := by decide +kernel
theorem dX1_crowdOn_31 : decode cX1_crowdOn 31 = .ok (.iload_n 3, 1) := by decide +kernel
theorem dX1_crowdOn_32 : decode cX1_crowdOn 32 = .ok (.ireturn, 1) := by decide +kernel
theorem dX1_distanceOfEnds_0 : decode cX1_distanceOfEnds 0 = .ok (.bipush 40, 2) := by decide +kernel
theorem dX1_distanceOfEnds_2 : decode cX1_distanceOfEnds 2 = .ok (.istore_n 2, 1) := by decide +kernel
theorem dX1_distanceOfEnds_3 : decode cX1_distanceOfEnds 3 = .ok (.iconst 0, 1) := by decide +kernel
theorem dX1_distanceOfEnds_4 : decode cX1_distanceOfEnds 4 = .ok (.istore_n 3, 1) := by decide +kernel
theorem dX1_distanceOfEnds_5 : decode cX1_distanceOfEnds 5 = .ok (.iconst 0, 1) := by decide +kernel
theorem dX1_distanceOfEnds_6 : decode cX1_distanceOfEnds 6 = .ok (.istore 4, 2) := by decide +kernel
theorem dX1_distanceOfEnds_8 : decode cX1_distanceOfEnds 8 = .ok (.iload 4, 2) := by decide +kernel
theorem dX1_distanceOfEnds_10 : decode cX1_distanceOfEnds 10 = .ok (.aload_n 0, 1) := by decide +kernel
theorem dX1_distanceOfEnds_11 : decode cX1_distanceOfEnds 11 = .ok (.getfield 7, 3) := by decide +kernel
theorem dX1_distanceOfEnds_14 : decode cX1_distanceOfEnds 14 = .ok (.if_icmp .ge 27, 3) := by decide +kernel
theorem dX1_distanceOfEnds_17 : decode cX1_distanceOfEnds 17 = .ok (.iload_n 2, 1) := by decide +kernel
theorem dX1_distanceOfEnds_18 : decode cX1_distanceOfEnds 18 = .ok (.aload_n 1, 1) := by decide +kernel
theorem dX1_distanceOfEnds_19 : decode cX1_distanceOfEnds 19 = .ok (.iload 4, 2) := by decide +kernel
theorem dX1_distanceOfEnds_21 : decode cX1_distanceOfEnds 21 = .ok (.iaload, 1) := by decide +kernel
theorem dX1_distanceOfEnds_22 : decode cX1_distanceOfEnds 22 = .ok (.invokestatic 146, 3) := by decide +kernel
theorem dX1_distanceOfEnds_25 : decode cX1_distanceOfEnds 25 = .ok (.istore_n 2, 1) := by decide +kernel
theorem dX1_distanceOfEnds_26 : decode cX1_distanceOfEnds 26 = .ok (.iload_n 3, 1) := by decide +kernel
theorem dX1_distanceOfEnds_27 : decode cX1_distanceOfEnds 27 = .ok (.aload_n 1, 1) := by decide +kernel
theorem dX1_distanceOfEnds_28 : decode cX1_distanceOfEnds 28 = .ok (.iload 4, 2) := by decide +kernel
theorem dX1_distanceOfEnds_30 : decode cX1_distanceOfEnds 30 = .ok (.iaload, 1) := by decide +kernel
theorem dX1_distanceOfEnds_31 : decode cX1_distanceOfEnds 31 = .ok (.invokestatic 260, 3) := by decide +kernel
theorem dX1_distanceOfEnds_34 : decode cX1_distanceOfEnds 34 = .ok (.istore_n 3, 1) := by decide +kernel
theorem dX1_distanceOfEnds_35 : decode cX1_distanceOfEnds 35 = .ok (.iinc 4 1, 3) := by decide +kernel
theorem dX1_distanceOfEnds_38 : decode cX1_distanceOfEnds 38 = .ok (.goto (-30), 3) := by decide +kernel
theorem dX1_distanceOfEnds_41 : decode cX1_distanceOfEnds 41 = .ok (.iconst 0, 1) := by decide +kernel
theorem dX1_distanceOfEnds_42 : decode cX1_distanceOfEnds 42 = .ok (.iload_n 3, 1) := by decide +kernel
theorem dX1_distanceOfEnds_43 : decode cX1_distanceOfEnds 43 = .ok (.iload_n 2, 1) := by decide +kernel
theorem dX1_distanceOfEnds_44 : decode cX1_distanceOfEnds 44 = .ok (.isub, 1) := by decide +kernel
theorem dX1_distanceOfEnds_45 : decode cX1_distanceOfEnds 45 = .ok (.invokestatic 260, 3) := by decide +kernel
theorem dX1_distanceOfEnds_48 : decode cX1_distanceOfEnds 48 = .ok (.ireturn, 1) := by decide +kernel
set_option maxRecDepth 20000 in
theorem ggX1_agreesAt_X1_hasTwoVillages : GoodIn wsX1_agreesAt wsX1_hasTwoVillages := goodIn_r _ [5, 6, 7, 19, 20, 21, 22, 23, 24, 25, 26, 27, 28] (by decide +kernel) (by decide +kernel)
set_option maxRecDepth 20000 in
theorem gX1_agreesAt_X1_hasTwoVillages : GoodIn wsX1_agreesAt (wsV RX1 263 RX1 yX1_hasTwoVillages wsX1_hasTwoVillages) := goodIn_app (goodIn_of _ (by decide +kernel)) ggX1_agreesAt_X1_hasTwoVillages
set_option maxRecDepth 20000 in
theorem ggX1_agreesAt_X1_distanceOfEnds : GoodIn wsX1_agreesAt wsX1_distanceOfEnds := goodIn_r _ [11, 6, 12, 13, 14, 15, 16, 17, 18, 19, 20, 21, 22, 23, 24, 25, 26, 27, 28] (by decide +kernel) (by decide +kernel)
set_option maxRecDepth 20000 in
theorem gX1_agreesAt_X1_distanceOfEnds : GoodIn wsX1_agreesAt (wsV RX1 100 RX1 yX1_distanceOfEnds wsX1_distanceOfEnds) := goodIn_app (goodIn_of _ (by decide +kernel)) ggX1_agreesAt_X1_distanceOfEnds
theorem dX1_agreesAt_0 : decode cX1_agreesAt 0 = .ok (.aload_n 0, 1) := by decide +kernel
theorem dX1_agreesAt_1 : decode cX1_agreesAt 1 = .ok (.invokevirtual 263, 3) := by decide +kernel
theorem dX1_agreesAt_4 : decode cX1_agreesAt 4 = .ok (.ifCond .eq 16, 3) := by decide +kernel
theorem dX1_agreesAt_7 : decode cX1_agreesAt 7 = .ok (.aload_n 0, 1) := by decide +kernel
theorem dX1_agreesAt_8 : decode cX1_agreesAt 8 = .ok (.aload_n 1, 1) := by decide +kernel
theorem dX1_agreesAt_9 : decode cX1_agreesAt 9 = .ok (.invokevirtual 100, 3) := by decide +kernel
theorem dX1_agreesAt_12 : decode cX1_agreesAt 12 = .ok (.iconst 2, 1) := by decide +kernel
theorem dX1_agreesAt_13 : decode cX1_agreesAt 13 = .ok (.if_icmp .gt 7, 3) := by decide +kernel
theorem dX1_agreesAt_16 : decode cX1_agreesAt 16 = .ok (.iconst 1, 1) := by decide +kernel
theorem dX1_agreesAt_17 : decode cX1_agreesAt 17 = .ok (.goto 4, 3) := by decide +kernel
theorem dX1_agreesAt_20 : decode cX1_agreesAt 20 = .ok (.iconst 0, 1) := by decide +kernel
theorem dX1_agreesAt_21 : decode cX1_agreesAt 21 = .ok (.ireturn, 1) := by decide +kernel
theorem dX1_hasTwoVillages_0 : decode cX1_hasTwoVillages 0 = .ok (.iconst 1, 1) := by decide +kernel
theorem dX1_hasTwoVillages_1 : decode cX1_hasTwoVillages 1 = .ok (.istore_n 1, 1) := by decide +kernel
theorem dX1_hasTwoVillages_2 : decode cX1_hasTwoVillages 2 = .ok (.iload_n 1, 1) := by decide +kernel
theorem dX1_hasTwoVillages_3 : decode cX1_hasTwoVillages 3 = .ok (.aload_n 0, 1) := by decide +kernel
theorem dX1_hasTwoVillages_4 : decode cX1_hasTwoVillages 4 = .ok (.getfield 7, 3) := by decide +kernel
theorem dX1_hasTwoVillages_7 : decode cX1_hasTwoVillages 7 = .ok (.if_icmp .ge 28, 3) := by decide +kernel
theorem dX1_hasTwoVillages_10 : decode cX1_hasTwoVillages 10 = .ok (.aload_n 0, 1) := by decide +kernel
theorem dX1_hasTwoVillages_11 : decode cX1_hasTwoVillages 11 = .ok (.getfield 19, 3) := by decide +kernel
theorem dX1_hasTwoVillages_14 : decode cX1_hasTwoVillages 14 = .ok (.iload_n 1, 1) := by decide +kernel
theorem dX1_hasTwoVillages_15 : decode cX1_hasTwoVillages 15 = .ok (.iaload, 1) := by decide +kernel
theorem dX1_hasTwoVillages_16 : decode cX1_hasTwoVillages 16 = .ok (.aload_n 0, 1) := by decide +kernel
theorem dX1_hasTwoVillages_17 : decode cX1_hasTwoVillages 17 = .ok (.getfield 19, 3) := by decide +kernel
theorem dX1_hasTwoVillages_20 : decode cX1_hasTwoVillages 20 = .ok (.iload_n 1, 1) := by decide +kernel
theorem dX1_hasTwoVillages_21 : decode cX1_hasTwoVillages 21 = .ok (.iconst 1, 1) := by decide +kernel
theorem dX1_hasTwoVillages_22 : decode cX1_hasTwoVillages 22 = .ok (.isub, 1) := by decide +kernel
theorem dX1_hasTwoVillages_23 : decode cX1_hasTwoVillages 23 = .ok (.iaload, 1) := by decide +kernel
theorem dX1_hasTwoVillages_24 : decode cX1_hasTwoVillages 24 = .ok (.if_icmp .eq 5, 3) := by decide +kernel
theorem dX1_hasTwoVillages_27 : decode cX1_hasTwoVillages 27 = .ok (.iconst 1, 1) := by decide +kernel
theorem dX1_hasTwoVillages_28 : decode cX1_hasTwoVillages 28 = .ok (.ireturn, 1) := by decide +kernel
theorem dX1_hasTwoVillages_29 : decode cX1_hasTwoVillages 29 = .ok (.iinc 1 1, 3) := by decide +kernel
theorem dX1_hasTwoVillages_32 : decode cX1_hasTwoVillages 32 = .ok (.goto (-30), 3) := by decide +kernel
theorem dX1_hasTwoVillages_35 : decode cX1_hasTwoVillages 35 = .ok (.iconst 0, 1) := by decide +kernel
theorem dX1_hasTwoVillages_36 : decode cX1_hasTwoVillages 36 = .ok (.ireturn, 1) := by decide +kernel
set_option maxRecDepth 20000 in
theorem ggX1_discontentOfAll_X1_discontent : GoodIn wsX1_discontentOfAll wsX1_discontent := goodIn_r _ [6, 7, 8, 9, 10, 11, 12, 13, 14, 15, 16, 17, 18, 19, 20, 21] (by decide +kernel) (by decide +kernel)
set_option maxRecDepth 20000 in
theorem gX1_discontentOfAll_X1_discontent : GoodIn wsX1_discontentOfAll (wsV RX1 132 RX1 yX1_discontent wsX1_discontent) := goodIn_app (goodIn_of _ (by decide +kernel)) ggX1_discontentOfAll_X1_discontent
theorem dX1_discontentOfAll_0 : decode cX1_discontentOfAll 0 = .ok (.iconst 0, 1) := by decide +kernel
theorem dX1_discontentOfAll_1 : decode cX1_discontentOfAll 1 = .ok (.istore_n 2, 1) := by decide +kernel
theorem dX1_discontentOfAll_2 : decode cX1_discontentOfAll 2 = .ok (.iconst 0, 1) := by decide +kernel
theorem dX1_discontentOfAll_3 : decode cX1_discontentOfAll 3 = .ok (.istore_n 3, 1) := by decide +kernel
theorem dX1_discontentOfAll_4 : decode cX1_discontentOfAll 4 = .ok (.iload_n 3, 1) := by decide +kernel
theorem dX1_discontentOfAll_5 : decode cX1_discontentOfAll 5 = .ok (.aload_n 0, 1) := by decide +kernel
theorem dX1_discontentOfAll_6 : decode cX1_discontentOfAll 6 = .ok (.getfield 7, 3) := by decide +kernel
theorem dX1_discontentOfAll_9 : decode cX1_discontentOfAll 9 = .ok (.if_icmp .ge 18, 3) := by decide +kernel
theorem dX1_discontentOfAll_12 : decode cX1_discontentOfAll 12 = .ok (.iload_n 2, 1) := by decide +kernel
theorem dX1_discontentOfAll_13 : decode cX1_discontentOfAll 13 = .ok (.aload_n 0, 1) := by decide +kernel
theorem dX1_discontentOfAll_14 : decode cX1_discontentOfAll 14 = .ok (.iload_n 3, 1) := by decide +kernel
theorem dX1_discontentOfAll_15 : decode cX1_discontentOfAll 15 = .ok (.iload_n 1, 1) := by decide +kernel
theorem dX1_discontentOfAll_16 : decode cX1_discontentOfAll 16 = .ok (.invokevirtual 132, 3) := by decide +kernel
theorem dX1_discontentOfAll_19 : decode cX1_discontentOfAll 19 = .ok (.iadd, 1) := by decide +kernel
theorem dX1_discontentOfAll_20 : decode cX1_discontentOfAll 20 = .ok (.istore_n 2, 1) := by decide +kernel
theorem dX1_discontentOfAll_21 : decode cX1_discontentOfAll 21 = .ok (.iinc 3 1, 3) := by decide +kernel
theorem dX1_discontentOfAll_24 : decode cX1_discontentOfAll 24 = .ok (.goto (-20), 3) := by decide +kernel
theorem dX1_discontentOfAll_27 : decode cX1_discontentOfAll 27 = .ok (.iload_n 2, 1) := by decide +kernel
theorem dX1_discontentOfAll_28 : decode cX1_discontentOfAll 28 = .ok (.ireturn, 1) := by decide +kernel
set_option maxRecDepth 20000 in
theorem ggX1_countVotes_X1_discontent : GoodIn wsX1_countVotes wsX1_discontent := goodIn_r _ [6, 7, 8, 9, 10, 11, 12, 13, 14, 15, 16, 17, 18, 19, 20, 21] (by decide +kernel) (by decide +kernel)
set_option maxRecDepth 20000 in
theorem gX1_countVotes_X1_discontent : GoodIn wsX1_countVotes (wsV RX1 132 RX1 yX1_discontent wsX1_discontent) := goodIn_app (goodIn_of _ (by decide +kernel)) ggX1_countVotes_X1_discontent
theorem dX1_countVotes_0 : decode cX1_countVotes 0 = .ok (.iconst 0, 1) := by decide +kernel
theorem dX1_countVotes_1 : decode cX1_countVotes 1 = .ok (.istore_n 3, 1) := by decide +kernel
theorem dX1_countVotes_2 : decode cX1_countVotes 2 = .ok (.iconst 0, 1) := by decide +kernel
theorem dX1_countVotes_3 : decode cX1_countVotes 3 = .ok (.istore 4, 2) := by decide +kernel
theorem dX1_countVotes_5 : decode cX1_countVotes 5 = .ok (.iload 4, 2) := by decide +kernel
theorem dX1_countVotes_7 : decode cX1_countVotes 7 = .ok (.aload_n 0, 1) := by decide +kernel
theorem dX1_countVotes_8 : decode cX1_countVotes 8 = .ok (.getfield 7, 3) := by decide +kernel
theorem dX1_countVotes_11 : decode cX1_countVotes 11 = .ok (.if_icmp .ge 29, 3) := by decide +kernel
theorem dX1_countVotes_14 : decode cX1_countVotes 14 = .ok (.aload_n 0, 1) := by decide +kernel
theorem dX1_countVotes_15 : decode cX1_countVotes 15 = .ok (.iload 4, 2) := by decide +kernel
theorem dX1_countVotes_17 : decode cX1_countVotes 17 = .ok (.iload_n 1, 1) := by decide +kernel
theorem dX1_countVotes_18 : decode cX1_countVotes 18 = .ok (.invokevirtual 132, 3) := by decide +kernel
theorem dX1_countVotes_21 : decode cX1_countVotes 21 = .ok (.aload_n 0, 1) := by decide +kernel
theorem dX1_countVotes_22 : decode cX1_countVotes 22 = .ok (.iload 4, 2) := by decide +kernel
theorem dX1_countVotes_24 : decode cX1_countVotes 24 = .ok (.iload_n 2, 1) := by decide +kernel
theorem dX1_countVotes_25 : decode cX1_countVotes 25 = .ok (.invokevirtual 132, 3) := by decide +kernel
theorem dX1_countVotes_28 : decode cX1_countVotes 28 = .ok (.if_icmp .ge 6, 3) := by decide +kernel
theorem dX1_countVotes_31 : decode cX1_countVotes 31 = .ok (.iinc 3 1, 3) := by decide +kernel
theorem dX1_countVotes_34 : decode cX1_countVotes 34 = .ok (.iinc 4 1, 3) := by decide +kernel
theorem dX1_countVotes_37 : decode cX1_countVotes 37 = .ok (.goto (-32), 3) := by decide +kernel
theorem dX1_countVotes_40 : decode cX1_countVotes 40 = .ok (.iload_n 3, 1) := by decide +kernel
theorem dX1_countVotes_41 : decode cX1_countVotes 41 = .ok (.ireturn, 1) := by decide +kernel
set_option maxRecDepth 20000 in
theorem ggX1_middleOfAll_X0_empty : GoodIn wsX1_middleOfAll wsX0_empty := goodIn_r _ [7, 8, 28, 29] (by decide +kernel) (by decide +kernel)
set_option maxRecDepth 20000 in
theorem gX1_middleOfAll_X0_empty : GoodIn wsX1_middleOfAll (wsV RX1 266 RX0 yX0_empty wsX0_empty) := goodIn_app (goodIn_of _ (by decide +kernel)) ggX1_middleOfAll_X0_empty
set_option maxRecDepth 20000 in
theorem ggX1_middleOfAll_X0_put : GoodIn wsX1_middleOfAll wsX0_put := goodIn_r _ [12, 8, 13, 28, 29] (by decide +kernel) (by decide +kernel)
set_option maxRecDepth 20000 in
theorem gX1_middleOfAll_X0_put : GoodIn wsX1_middleOfAll (wsV RX1 269 RX0 yX0_put wsX0_put) := goodIn_app (goodIn_of _ (by decide +kernel)) ggX1_middleOfAll_X0_put
set_option maxRecDepth 20000 in
theorem ggX1_middleOfAll_X0_middle : GoodIn wsX1_middleOfAll wsX0_middle := goodIn_r _ [17, 8, 13, 28, 29] (by decide +kernel) (by decide +kernel)
set_option maxRecDepth 20000 in
theorem gX1_middleOfAll_X0_middle : GoodIn wsX1_middleOfAll (wsV RX1 123 RX0 yX0_middle wsX0_middle) := goodIn_app (goodIn_of _ (by decide +kernel)) ggX1_middleOfAll_X0_middle
theorem dX1_middleOfAll_0 : decode cX1_middleOfAll 0 = .ok (.aload_n 0, 1) := by decide +kernel
theorem dX1_middleOfAll_1 : decode cX1_middleOfAll 1 = .ok (.getfield 41, 3) := by decide +kernel
theorem dX1_middleOfAll_4 : decode cX1_middleOfAll 4 = .ok (.invokevirtual 266, 3) := by decide +kernel
theorem dX1_middleOfAll_7 : decode cX1_middleOfAll 7 = .ok (.iconst 0, 1) := by decide +kernel
theorem dX1_middleOfAll_8 : decode cX1_middleOfAll 8 = .ok (.istore_n 2, 1) := by decide +kernel
theorem dX1_middleOfAll_9 : decode cX1_middleOfAll 9 = .ok (.iload_n 2, 1) := by decide +kernel
theorem dX1_middleOfAll_10 : decode cX1_middleOfAll 10 = .ok (.aload_n 0, 1) := by decide +kernel
theorem dX1_middleOfAll_11 : decode cX1_middleOfAll 11 = .ok (.getfield 7, 3) := by decide +kernel
theorem dX1_middleOfAll_14 : decode cX1_middleOfAll 14 = .ok (.if_icmp .ge 19, 3) := by decide +kernel
theorem dX1_middleOfAll_17 : decode cX1_middleOfAll 17 = .ok (.aload_n 0, 1) := by decide +kernel
theorem dX1_middleOfAll_18 : decode cX1_middleOfAll 18 = .ok (.getfield 41, 3) := by decide +kernel
theorem dX1_middleOfAll_21 : decode cX1_middleOfAll 21 = .ok (.aload_n 1, 1) := by decide +kernel
theorem dX1_middleOfAll_22 : decode cX1_middleOfAll 22 = .ok (.iload_n 2, 1) := by decide +kernel
theorem dX1_middleOfAll_23 : decode cX1_middleOfAll 23 = .ok (.iaload, 1) := by decide +kernel
theorem dX1_middleOfAll_24 : decode cX1_middleOfAll 24 = .ok (.invokevirtual 269, 3) := by decide +kernel
theorem dX1_middleOfAll_27 : decode cX1_middleOfAll 27 = .ok (.iinc 2 1, 3) := by decide +kernel
theorem dX1_middleOfAll_30 : decode cX1_middleOfAll 30 = .ok (.goto (-21), 3) := by decide +kernel
theorem dX1_middleOfAll_33 : decode cX1_middleOfAll 33 = .ok (.aload_n 0, 1) := by decide +kernel
theorem dX1_middleOfAll_34 : decode cX1_middleOfAll 34 = .ok (.getfield 41, 3) := by decide +kernel
theorem dX1_middleOfAll_37 : decode cX1_middleOfAll 37 = .ok (.invokevirtual 123, 3) := by decide +kernel
theorem dX1_middleOfAll_40 : decode cX1_middleOfAll 40 = .ok (.ireturn, 1) := by decide +kernel
set_option maxRecDepth 20000 in
theorem ggX1_gatherVillage_X0_empty : GoodIn wsX1_gatherVillage wsX0_empty := goodIn_r _ [9, 10, 26, 27] (by decide +kernel) (by decide +kernel)
set_option maxRecDepth 20000 in
theorem gX1_gatherVillage_X0_empty : GoodIn wsX1_gatherVillage (wsV RX1 266 RX0 yX0_empty wsX0_empty) := goodIn_app (goodIn_of _ (by decide +kernel)) ggX1_gatherVillage_X0_empty
set_option maxRecDepth 20000 in
theorem ggX1_gatherVillage_X0_put : GoodIn wsX1_gatherVillage wsX0_put := goodIn_r _ [14, 10, 15, 26, 27] (by decide +kernel) (by decide +kernel)
set_option maxRecDepth 20000 in
theorem gX1_gatherVillage_X0_put : GoodIn wsX1_gatherVillage (wsV RX1 269 RX0 yX0_put wsX0_put) := goodIn_app (goodIn_of _ (by decide +kernel)) ggX1_gatherVillage_X0_put
theorem dX1_gatherVillage_0 : decode cX1_gatherVillage 0 = .ok (.aload_n 0, 1) := by decide +kernel
theorem dX1_gatherVillage_1 : decode cX1_gatherVillage 1 = .ok (.getfield 41, 3) := by decide +kernel
theorem dX1_gatherVillage_4 : decode cX1_gatherVillage 4 = .ok (.invokevirtual 266, 3) := by decide +kernel
theorem dX1_gatherVillage_7 : decode cX1_gatherVillage 7 = .ok (.iconst 0, 1) := by decide +kernel
theorem dX1_gatherVillage_8 : decode cX1_gatherVillage 8 = .ok (.istore_n 2, 1) := by decide +kernel
theorem dX1_gatherVillage_9 : decode cX1_gatherVillage 9 = .ok (.iload_n 2, 1) := by decide +kernel
theorem dX1_gatherVillage_10 : decode cX1_gatherVillage 10 = .ok (.aload_n 0, 1) := by decide +kernel
theorem dX1_gatherVillage_11 : decode cX1_gatherVillage 11 = .ok (.getfield 7, 3) := by decide +kernel
theorem dX1_gatherVillage_14 : decode cX1_gatherVillage 14 = .ok (.if_icmp .ge 32, 3) := by decide +kernel
theorem dX1_gatherVillage_17 : decode cX1_gatherVillage 17 = .ok (.aload_n 0, 1) := by decide +kernel
theorem dX1_gatherVillage_18 : decode cX1_gatherVillage 18 = .ok (.getfield 19, 3) := by decide +kernel
theorem dX1_gatherVillage_21 : decode cX1_gatherVillage 21 = .ok (.iload_n 2, 1) := by decide +kernel
theorem dX1_gatherVillage_22 : decode cX1_gatherVillage 22 = .ok (.iaload, 1) := by decide +kernel
theorem dX1_gatherVillage_23 : decode cX1_gatherVillage 23 = .ok (.iload_n 1, 1) := by decide +kernel
theorem dX1_gatherVillage_24 : decode cX1_gatherVillage 24 = .ok (.if_icmp .ne 16, 3) := by decide +kernel
theorem dX1_gatherVillage_27 : decode cX1_gatherVillage 27 = .ok (.aload_n 0, 1) := by decide +kernel
theorem dX1_gatherVillage_28 : decode cX1_gatherVillage 28 = .ok (.getfield 41, 3) := by decide +kernel
theorem dX1_gatherVillage_31 : decode cX1_gatherVillage 31 = .ok (.aload_n 0, 1) := by decide +kernel
theorem dX1_gatherVillage_32 : decode cX1_gatherVillage 32 = .ok (.getfield 32, 3) := by decide +kernel
theorem dX1_gatherVillage_35 : decode cX1_gatherVillage 35 = .ok (.iload_n 2, 1) := by decide +kernel
theorem dX1_gatherVillage_36 : decode cX1_gatherVillage 36 = .ok (.iaload, 1) := by decide +kernel
theorem dX1_gatherVillage_37 : decode cX1_gatherVillage 37 = .ok (.invokevirtual 269, 3) := by decide +kernel
theorem dX1_gatherVillage_40 : decode cX1_gatherVillage 40 = .ok (.iinc 2 1, 3) := by decide +kernel
theorem dX1_gatherVillage_43 : decode cX1_gatherVillage 43 = .ok (.goto (-34), 3) := by decide +kernel
theorem dX1_gatherVillage_46 : decode cX1_gatherVillage 46 = .ok (.return_, 1) := by decide +kernel
set_option maxRecDepth 20000 in
theorem ggX1_gatherOthers_X0_empty : GoodIn wsX1_gatherOthers wsX0_empty := goodIn_r _ [8, 9, 25, 26] (by decide +kernel) (by decide +kernel)
set_option maxRecDepth 20000 in
theorem gX1_gatherOthers_X0_empty : GoodIn wsX1_gatherOthers (wsV RX1 266 RX0 yX0_empty wsX0_empty) := goodIn_app (goodIn_of _ (by decide +kernel)) ggX1_gatherOthers_X0_empty
set_option maxRecDepth 20000 in
theorem ggX1_gatherOthers_X0_put : GoodIn wsX1_gatherOthers wsX0_put := goodIn_r _ [13, 9, 14, 25, 26] (by decide +kernel) (by decide +kernel)
set_option maxRecDepth 20000 in
theorem gX1_gatherOthers_X0_put : GoodIn wsX1_gatherOthers (wsV RX1 269 RX0 yX0_put wsX0_put) := goodIn_app (goodIn_of _ (by decide +kernel)) ggX1_gatherOthers_X0_put
theorem dX1_gatherOthers_0 : decode cX1_gatherOthers 0 = .ok (.aload_n 0, 1) := by decide +kernel
theorem dX1_gatherOthers_1 : decode cX1_gatherOthers 1 = .ok (.getfield 41, 3) := by decide +kernel
theorem dX1_gatherOthers_4 : decode cX1_gatherOthers 4 = .ok (.invokevirtual 266, 3) := by decide +kernel
theorem dX1_gatherOthers_7 : decode cX1_gatherOthers 7 = .ok (.iconst 0, 1) := by decide +kernel
theorem dX1_gatherOthers_8 : decode cX1_gatherOthers 8 = .ok (.istore_n 2, 1) := by decide +kernel
theorem dX1_gatherOthers_9 : decode cX1_gatherOthers 9 = .ok (.iload_n 2, 1) := by decide +kernel
theorem dX1_gatherOthers_10 : decode cX1_gatherOthers 10 = .ok (.aload_n 0, 1) := by decide +kernel
theorem dX1_gatherOthers_11 : decode cX1_gatherOthers 11 = .ok (.getfield 7, 3) := by decide +kernel
theorem dX1_gatherOthers_14 : decode cX1_gatherOthers 14 = .ok (.if_icmp .ge 27, 3) := by decide +kernel
theorem dX1_gatherOthers_17 : decode cX1_gatherOthers 17 = .ok (.iload_n 2, 1) := by decide +kernel
theorem dX1_gatherOthers_18 : decode cX1_gatherOthers 18 = .ok (.iload_n 1, 1) := by decide +kernel
theorem dX1_gatherOthers_19 : decode cX1_gatherOthers 19 = .ok (.if_icmp .eq 16, 3) := by decide +kernel
theorem dX1_gatherOthers_22 : decode cX1_gatherOthers 22 = .ok (.aload_n 0, 1) := by decide +kernel
theorem dX1_gatherOthers_23 : decode cX1_gatherOthers 23 = .ok (.getfield 41, 3) := by decide +kernel
theorem dX1_gatherOthers_26 : decode cX1_gatherOthers 26 = .ok (.aload_n 0, 1) := by decide +kernel
theorem dX1_gatherOthers_27 : decode cX1_gatherOthers 27 = .ok (.getfield 32, 3) := by decide +kernel
theorem dX1_gatherOthers_30 : decode cX1_gatherOthers 30 = .ok (.iload_n 2, 1) := by decide +kernel
theorem dX1_gatherOthers_31 : decode cX1_gatherOthers 31 = .ok (.iaload, 1) := by decide +kernel
theorem dX1_gatherOthers_32 : decode cX1_gatherOthers 32 = .ok (.invokevirtual 269, 3) := by decide +kernel
theorem dX1_gatherOthers_35 : decode cX1_gatherOthers 35 = .ok (.iinc 2 1, 3) := by decide +kernel
theorem dX1_gatherOthers_38 : decode cX1_gatherOthers 38 = .ok (.goto (-29), 3) := by decide +kernel
theorem dX1_gatherOthers_41 : decode cX1_gatherOthers 41 = .ok (.return_, 1) := by decide +kernel
theorem dX1_copyPlanksToLater_0 : decode cX1_copyPlanksToLater 0 = .ok (.iconst 0, 1) := by decide +kernel
theorem dX1_copyPlanksToLater_1 : decode cX1_copyPlanksToLater 1 = .ok (.istore_n 1, 1) := by decide +kernel
theorem dX1_copyPlanksToLater_2 : decode cX1_copyPlanksToLater 2 = .ok (.iload_n 1, 1) := by decide +kernel
theorem dX1_copyPlanksToLater_3 : decode cX1_copyPlanksToLater 3 = .ok (.aload_n 0, 1) := by decide +kernel
theorem dX1_copyPlanksToLater_4 : decode cX1_copyPlanksToLater 4 = .ok (.getfield 7, 3) := by decide +kernel
theorem dX1_copyPlanksToLater_7 : decode cX1_copyPlanksToLater 7 = .ok (.if_icmp .ge 21, 3) := by decide +kernel
theorem dX1_copyPlanksToLater_10 : decode cX1_copyPlanksToLater 10 = .ok (.aload_n 0, 1) := by decide +kernel
theorem dX1_copyPlanksToLater_11 : decode cX1_copyPlanksToLater 11 = .ok (.getfield 35, 3) := by decide +kernel
theorem dX1_copyPlanksToLater_14 : decode cX1_copyPlanksToLater 14 = .ok (.iload_n 1, 1) := by decide +kernel
theorem dX1_copyPlanksToLater_15 : decode cX1_copyPlanksToLater 15 = .ok (.aload_n 0, 1) := by decide +kernel
theorem dX1_copyPlanksToLater_16 : decode cX1_copyPlanksToLater 16 = .ok (.getfield 32, 3) := by decide +kernel
theorem dX1_copyPlanksToLater_19 : decode cX1_copyPlanksToLater 19 = .ok (.iload_n 1, 1) := by decide +kernel
theorem dX1_copyPlanksToLater_20 : decode cX1_copyPlanksToLater 20 = .ok (.iaload, 1) := by decide +kernel
theorem dX1_copyPlanksToLater_21 : decode cX1_copyPlanksToLater 21 = .ok (.iastore, 1) := by decide +kernel
theorem dX1_copyPlanksToLater_22 : decode cX1_copyPlanksToLater 22 = .ok (.iinc 1 1, 3) := by decide +kernel
theorem dX1_copyPlanksToLater_25 : decode cX1_copyPlanksToLater 25 = .ok (.goto (-23), 3) := by decide +kernel
theorem dX1_copyPlanksToLater_28 : decode cX1_copyPlanksToLater 28 = .ok (.return_, 1) := by decide +kernel
set_option maxRecDepth 20000 in
theorem ggX1_goRounds_X1_goRound : GoodIn wsX1_goRounds wsX1_goRound := goodIn_r _ [5, 6, 7, 8, 9, 4, 10, 11, 12, 13, 14, 15, 16, 17, 18, 19, 20, 21, 22, 23, 24, 25, 26, 27, 28, 29, 30, 31, 32, 33, 34, 35, 36, 37, 38, 39, 40, 41, 42, 43, 44, 45, 46, 47, 48, 49, 50, 51, 52, 53, 54, 55, 56, 57, 58, 59, 60, 61, 62, 63, 64, 65, 66, 67, 68] (by decide +kernel) (by decide +kernel)
set_option maxRecDepth 20000 in
theorem gX1_goRounds_X1_goRound : GoodIn wsX1_goRounds (wsV RX1 158 RX1 yX1_goRound wsX1_goRound) := goodIn_app (goodIn_of _ (by decide +kernel)) ggX1_goRounds_X1_goRound
theorem dX1_goRounds_0 : decode cX1_goRounds 0 = .ok (.iconst 0, 1) := by decide +kernel
theorem dX1_goRounds_1 : decode cX1_goRounds 1 = .ok (.istore_n 3, 1) := by decide +kernel
theorem dX1_goRounds_2 : decode cX1_goRounds 2 = .ok (.iconst 0, 1) := by decide +kernel
theorem dX1_goRounds_3 : decode cX1_goRounds 3 = .ok (.istore 4, 2) := by decide +kernel
theorem dX1_goRounds_5 : decode cX1_goRounds 5 = .ok (.iload 4, 2) := by decide +kernel
theorem dX1_goRounds_7 : decode cX1_goRounds 7 = .ok (.iload_n 2, 1) := by decide +kernel
theorem dX1_goRounds_8 : decode cX1_goRounds 8 = .ok (.if_icmp .ge 17, 3) := by decide +kernel
theorem dX1_goRounds_11 : decode cX1_goRounds 11 = .ok (.iload_n 3, 1) := by decide +kernel
theorem dX1_goRounds_12 : decode cX1_goRounds 12 = .ok (.aload_n 0, 1) := by decide +kernel
theorem dX1_goRounds_13 : decode cX1_goRounds 13 = .ok (.aload_n 1, 1) := by decide +kernel
theorem dX1_goRounds_14 : decode cX1_goRounds 14 = .ok (.invokevirtual 158, 3) := by decide +kernel
theorem dX1_goRounds_17 : decode cX1_goRounds 17 = .ok (.iadd, 1) := by decide +kernel
theorem dX1_goRounds_18 : decode cX1_goRounds 18 = .ok (.istore_n 3, 1) := by decide +kernel
theorem dX1_goRounds_19 : decode cX1_goRounds 19 = .ok (.iinc 4 1, 3) := by decide +kernel
theorem dX1_goRounds_22 : decode cX1_goRounds 22 = .ok (.goto (-17), 3) := by decide +kernel
theorem dX1_goRounds_25 : decode cX1_goRounds 25 = .ok (.iload_n 3, 1) := by decide +kernel
theorem dX1_goRounds_26 : decode cX1_goRounds 26 = .ok (.ireturn, 1) := by decide +kernel
set_option maxRecDepth 20000 in
theorem ggX1_goRound_X1_middleOfAll : GoodIn wsX1_goRound wsX1_middleOfAll := goodIn_r _ [6, 7, 1, 8, 9, 10, 11, 12, 13, 14, 15, 16, 17, 18, 19, 20, 21, 22, 53, 54, 55, 56, 57, 58, 59, 60, 61, 62, 63, 64] (by decide +kernel) (by decide +kernel)
set_option maxRecDepth 20000 in
theorem gX1_goRound_X1_middleOfAll : GoodIn wsX1_goRound (wsV RX1 111 RX1 yX1_middleOfAll wsX1_middleOfAll) := goodIn_app (goodIn_of _ (by decide +kernel)) ggX1_goRound_X1_middleOfAll
set_option maxRecDepth 20000 in
theorem ggX1_goRound_X1_stepFrom : GoodIn wsX1_goRound wsX1_stepFrom := goodIn_r _ [26, 27, 28, 29, 30, 5, 31, 32, 33, 34, 35, 36, 37, 38, 39, 40, 41, 42, 43, 53, 54, 55, 56, 57, 58, 59, 60, 61, 62] (by decide +kernel) (by decide +kernel)
set_option maxRecDepth 20000 in
theorem gX1_goRound_X1_stepFrom : GoodIn wsX1_goRound (wsV RX1 151 RX1 yX1_stepFrom wsX1_stepFrom) := goodIn_app (goodIn_of _ (by decide +kernel)) ggX1_goRound_X1_stepFrom
set_option maxRecDepth 20000 in
theorem ggX1_goRound_X1_hasRoom : GoodIn wsX1_goRound wsX1_hasRoom := goodIn_r _ [47, 48, 49, 50, 51, 5, 52, 1, 53, 54, 55, 56, 57, 58, 59, 60, 61, 62] (by decide +kernel) (by decide +kernel)
set_option maxRecDepth 20000 in
theorem gX1_goRound_X1_hasRoom : GoodIn wsX1_goRound (wsV RX1 63 RX1 yX1_hasRoom wsX1_hasRoom) := goodIn_app (goodIn_of _ (by decide +kernel)) ggX1_goRound_X1_hasRoom
theorem dX1_goRound_0 : decode cX1_goRound 0 = .ok (.aload_n 0, 1) := by decide +kernel
theorem dX1_goRound_1 : decode cX1_goRound 1 = .ok (.aload_n 1, 1) := by decide +kernel
theorem dX1_goRound_2 : decode cX1_goRound 2 = .ok (.invokevirtual 111, 3) := by decide +kernel
theorem dX1_goRound_5 : decode cX1_goRound 5 = .ok (.istore_n 2, 1) := by decide +kernel
theorem dX1_goRound_6 : decode cX1_goRound 6 = .ok (.iconst 0, 1) := by decide +kernel
theorem dX1_goRound_7 : decode cX1_goRound 7 = .ok (.istore_n 3, 1) := by decide +kernel
theorem dX1_goRound_8 : decode cX1_goRound 8 = .ok (.iconst 0, 1) := by decide +kernel
theorem dX1_goRound_9 : decode cX1_goRound 9 = .ok (.istore 4, 2) := by decide +kernel
theorem dX1_goRound_11 : decode cX1_goRound 11 = .ok (.iload 4, 2) := by decide +kernel
theorem dX1_goRound_13 : decode cX1_goRound 13 = .ok (.aload_n 0, 1) := by decide +kernel
theorem dX1_goRound_14 : decode cX1_goRound 14 = .ok (.getfield 7, 3) := by decide +kernel
theorem dX1_goRound_17 : decode cX1_goRound 17 = .ok (.if_icmp .ge 50, 3) := by decide +kernel
theorem dX1_goRound_20 : decode cX1_goRound 20 = .ok (.aload_n 0, 1) := by decide +kernel
theorem dX1_goRound_21 : decode cX1_goRound 21 = .ok (.iload 4, 2) := by decide +kernel
theorem dX1_goRound_23 : decode cX1_goRound 23 = .ok (.aload_n 1, 1) := by decide +kernel
theorem dX1_goRound_24 : decode cX1_goRound 24 = .ok (.iload 4, 2) := by decide +kernel
theorem dX1_goRound_26 : decode cX1_goRound 26 = .ok (.iaload, 1) := by decide +kernel
theorem dX1_goRound_27 : decode cX1_goRound 27 = .ok (.iload_n 2, 1) := by decide +kernel
theorem dX1_goRound_28 : decode cX1_goRound 28 = .ok (.invokevirtual 151, 3) := by decide +kernel
theorem dX1_goRound_31 : decode cX1_goRound 31 = .ok (.istore 5, 2) := by decide +kernel
theorem dX1_goRound_33 : decode cX1_goRound 33 = .ok (.iload 5, 2) := by decide +kernel
theorem dX1_goRound_35 : decode cX1_goRound 35 = .ok (.aload_n 1, 1) := by decide +kernel
theorem dX1_goRound_36 : decode cX1_goRound 36 = .ok (.iload 4, 2) := by decide +kernel
theorem dX1_goRound_38 : decode cX1_goRound 38 = .ok (.iaload, 1) := by decide +kernel
theorem dX1_goRound_39 : decode cX1_goRound 39 = .ok (.if_icmp .eq 22, 3) := by decide +kernel
theorem dX1_goRound_42 : decode cX1_goRound 42 = .ok (.aload_n 0, 1) := by decide +kernel
theorem dX1_goRound_43 : decode cX1_goRound 43 = .ok (.aload_n 1, 1) := by decide +kernel
theorem dX1_goRound_44 : decode cX1_goRound 44 = .ok (.iload 5, 2) := by decide +kernel
theorem dX1_goRound_46 : decode cX1_goRound 46 = .ok (.invokevirtual 63, 3) := by decide +kernel
theorem dX1_goRound_49 : decode cX1_goRound 49 = .ok (.ifCond .eq 12, 3) := by decide +kernel
theorem dX1_goRound_52 : decode cX1_goRound 52 = .ok (.aload_n 1, 1) := by decide +kernel
theorem dX1_goRound_53 : decode cX1_goRound 53 = .ok (.iload 4, 2) := by decide +kernel
theorem dX1_goRound_55 : decode cX1_goRound 55 = .ok (.iload 5, 2) := by decide +kernel
theorem dX1_goRound_57 : decode cX1_goRound 57 = .ok (.iastore, 1) := by decide +kernel
theorem dX1_goRound_58 : decode cX1_goRound 58 = .ok (.iinc 3 1, 3) := by decide +kernel
theorem dX1_goRound_61 : decode cX1_goRound 61 = .ok (.iinc 4 1, 3) := by decide +kernel
theorem dX1_goRound_64 : decode cX1_goRound 64 = .ok (.goto (-53), 3) := by decide +kernel
theorem dX1_goRound_67 : decode cX1_goRound 67 = .ok (.iload_n 3, 1) := by decide +kernel
theorem dX1_goRound_68 : decode cX1_goRound 68 = .ok (.ireturn, 1) := by decide +kernel
theorem dX2_init_0 : decode cX2_init 0 = .ok (.aload_n 0, 1) := by decide +kernel
theorem dX2_init_1 : decode cX2_init 1 = .ok (.invokespecial 1, 3) := by decide +kernel
theorem dX2_init_4 : decode cX2_init 4 = .ok (.aload_n 0, 1) := by decide +kernel
theorem dX2_init_5 : decode cX2_init 5 = .ok (.bipush 12, 2) := by decide +kernel
theorem dX2_init_7 : decode cX2_init 7 = .ok (.putfield 7, 3) := by decide +kernel
theorem dX2_init_10 : decode cX2_init 10 = .ok (.aload_n 0, 1) := by decide +kernel
theorem dX2_init_11 : decode cX2_init 11 = .ok (.bipush 12, 2) := by decide +kernel
theorem dX2_init_13 : decode cX2_init 13 = .ok (.newarray .int, 2) := by decide +kernel
theorem dX2_init_15 : decode cX2_init 15 = .ok (.putfield 13, 3) := by decide +kernel
theorem dX2_init_18 : decode cX2_init 18 = .ok (.aload_n 0, 1) := by decide +kernel
theorem dX2_init_19 : decode cX2_init 19 = .ok (.bipush 12, 2) := by decide +kernel
theorem dX2_init_21 : decode cX2_init 21 = .ok (.newarray .int, 2) := by decide +kernel
theorem dX2_init_23 : decode cX2_init 23 = .ok (.putfield 17, 3) := by decide +kernel
theorem dX2_init_26 : decode cX2_init 26 = .ok (.aload_n 0, 1) := by decide +kernel
theorem dX2_init_27 : decode cX2_init 27 = .ok (.bipush 12, 2) := by decide +kernel
theorem dX2_init_29 : decode cX2_init 29 = .ok (.newarray .int, 2) := by decide +kernel
theorem dX2_init_31 : decode cX2_init 31 = .ok (.putfield 20, 3) := by decide +kernel
theorem dX2_init_34 : decode cX2_init 34 = .ok (.aload_n 0, 1) := by decide +kernel
theorem dX2_init_35 : decode cX2_init 35 = .ok (.bipush 12, 2) := by decide +kernel
theorem dX2_init_37 : decode cX2_init 37 = .ok (.newarray .int, 2) := by decide +kernel
theorem dX2_init_39 : decode cX2_init 39 = .ok (.putfield 23, 3) := by decide +kernel
theorem dX2_init_42 : decode cX2_init 42 = .ok (.aload_n 0, 1) := by decide +kernel
theorem dX2_init_43 : decode cX2_init 43 = .ok (.bipush 12, 2) := by decide +kernel
theorem dX2_init_45 : decode cX2_init 45 = .ok (.newarray .int, 2) := by decide +kernel
theorem dX2_init_47 : decode cX2_init 47 = .ok (.putfield 26, 3) := by decide +kernel
theorem dX2_init_50 : decode cX2_init 50 = .ok (.aload_n 0, 1) := by decide +kernel
theorem dX2_init_51 : decode cX2_init 51 = .ok (.bipush 12, 2) := by decide +kernel
theorem dX2_init_53 : decode cX2_init 53 = .ok (.newarray .int, 2) := by decide +kernel
theorem dX2_init_55 : decode cX2_init 55 = .ok (.putfield 29, 3) := by decide +kernel
theorem dX2_init_58 : decode cX2_init 58 = .ok (.aload_n 0, 1) := by decide +kernel
theorem dX2_init_59 : decode cX2_init 59 = .ok (.bipush 41, 2) := by decide +kernel
theorem dX2_init_61 : decode cX2_init 61 = .ok (.newarray .int, 2) := by decide +kernel
theorem dX2_init_63 : decode cX2_init 63 = .ok (.putfield 32, 3) := by decide +kernel
theorem dX2_init_66 : decode cX2_init 66 = .ok (.return_, 1) := by decide +kernel
theorem dX2_thrown_0 : decode cX2_thrown 0 = .ok (.aload_n 0, 1) := by decide +kernel
theorem dX2_thrown_1 : decode cX2_thrown 1 = .ok (.getfield 35, 3) := by decide +kernel
theorem dX2_thrown_4 : decode cX2_thrown 4 = .ok (.ireturn, 1) := by decide +kernel
theorem dX2_fail_0 : decode cX2_fail 0 = .ok (.aload_n 0, 1) := by decide +kernel
theorem dX2_fail_1 : decode cX2_fail 1 = .ok (.iload_n 1, 1) := by decide +kernel
theorem dX2_fail_2 : decode cX2_fail 2 = .ok (.putfield 35, 3) := by decide +kernel
theorem dX2_fail_5 : decode cX2_fail 5 = .ok (.iconst 0, 1) := by decide +kernel
theorem dX2_fail_6 : decode cX2_fail 6 = .ok (.ireturn, 1) := by decide +kernel
theorem dX2_told_0 : decode cX2_told 0 = .ok (.aload_n 0, 1) := by decide +kernel
theorem dX2_told_1 : decode cX2_told 1 = .ok (.iconst 0, 1) := by decide +kernel
theorem dX2_told_2 : decode cX2_told 2 = .ok (.putfield 35, 3) := by decide +kernel
theorem dX2_told_5 : decode cX2_told 5 = .ok (.iload_n 1, 1) := by decide +kernel
theorem dX2_told_6 : decode cX2_told 6 = .ok (.ireturn, 1) := by decide +kernel
theorem dX2_isIn_0 : decode cX2_isIn 0 = .ok (.iload_n 0, 1) := by decide +kernel
theorem dX2_isIn_1 : decode cX2_isIn 1 = .ok (.iload_n 1, 1) := by decide +kernel
theorem dX2_isIn_2 : decode cX2_isIn 2 = .ok (.if_icmp .lt 12, 3) := by decide +kernel
theorem dX2_isIn_5 : decode cX2_isIn 5 = .ok (.iload_n 0, 1) := by decide +kernel
theorem dX2_isIn_6 : decode cX2_isIn 6 = .ok (.iload_n 2, 1) := by decide +kernel
theorem dX2_isIn_7 : decode cX2_isIn 7 = .ok (.if_icmp .gt 7, 3) := by decide +kernel
theorem dX2_isIn_10 : decode cX2_isIn 10 = .ok (.iconst 1, 1) := by decide +kernel
theorem dX2_isIn_11 : decode cX2_isIn 11 = .ok (.goto 4, 3) := by decide +kernel
theorem dX2_isIn_14 : decode cX2_isIn 14 = .ok (.iconst 0, 1) := by decide +kernel
theorem dX2_isIn_15 : decode cX2_isIn 15 = .ok (.ireturn, 1) := by decide +kernel
set_option maxRecDepth 20000 in
theorem ggX2_isDelegate_X2_isIn : GoodIn wsX2_isDelegate wsX2_isIn := goodIn_r _ [5] (by decide +kernel) (by decide +kernel)
set_option maxRecDepth 20000 in
theorem gX2_isDelegate_X2_isIn : GoodIn wsX2_isDelegate (va_wsS RX2 41 yX2_isIn wsX2_isIn) := goodIn_app (goodIn_of _ (by decide +kernel)) ggX2_isDelegate_X2_isIn
theorem dX2_isDelegate_0 : decode cX2_isDelegate 0 = .ok (.iload_n 1, 1) := by decide +kernel
theorem dX2_isDelegate_1 : decode cX2_isDelegate 1 = .ok (.iconst 0, 1) := by decide +kernel
theorem dX2_isDelegate_2 : decode cX2_isDelegate 2 = .ok (.aload_n 0, 1) := by decide +kernel
theorem dX2_isDelegate_3 : decode cX2_isDelegate 3 = .ok (.getfield 38, 3) := by decide +kernel
theorem dX2_isDelegate_6 : decode cX2_isDelegate 6 = .ok (.iconst 1, 1) := by decide +kernel
theorem dX2_isDelegate_7 : decode cX2_isDelegate 7 = .ok (.isub, 1) := by decide +kernel
theorem dX2_isDelegate_8 : decode cX2_isDelegate 8 = .ok (.invokestatic 41, 3) := by decide +kernel
theorem dX2_isDelegate_11 : decode cX2_isDelegate 11 = .ok (.ireturn, 1) := by decide +kernel
set_option maxRecDepth 20000 in
theorem ggX2_isPlank_X2_isIn : GoodIn wsX2_isPlank wsX2_isIn := goodIn_r _ [4] (by decide +kernel) (by decide +kernel)
set_option maxRecDepth 20000 in
theorem gX2_isPlank_X2_isIn : GoodIn wsX2_isPlank (va_wsS RX2 41 yX2_isIn wsX2_isIn) := goodIn_app (goodIn_of _ (by decide +kernel)) ggX2_isPlank_X2_isIn
theorem dX2_isPlank_0 : decode cX2_isPlank 0 = .ok (.iload_n 0, 1) := by decide +kernel
theorem dX2_isPlank_1 : decode cX2_isPlank 1 = .ok (.iconst 0, 1) := by decide +kernel
theorem dX2_isPlank_2 : decode cX2_isPlank 2 = .ok (.bipush 40, 2) := by decide +kernel
theorem dX2_isPlank_4 : decode cX2_isPlank 4 = .ok (.invokestatic 41, 3) := by decide +kernel
theorem dX2_isPlank_7 : decode cX2_isPlank 7 = .ok (.ireturn, 1) := by decide +kernel
set_option maxRecDepth 20000 in
theorem ggX2_isVillage_X2_isIn : GoodIn wsX2_isVillage wsX2_isIn := goodIn_r _ [4] (by decide +kernel) (by decide +kernel)
set_option maxRecDepth 20000 in
theorem gX2_isVillage_X2_isIn : GoodIn wsX2_isVillage (va_wsS RX2 41 yX2_isIn wsX2_isIn) := goodIn_app (goodIn_of _ (by decide +kernel)) ggX2_isVillage_X2_isIn
theorem dX2_isVillage_0 : decode cX2_isVillage 0 = .ok (.iload_n 0, 1) := by decide +kernel
theorem dX2_isVillage_1 : decode cX2_isVillage 1 = .ok (.iconst 0, 1) := by decide +kernel
theorem dX2_isVillage_2 : decode cX2_isVillage 2 = .ok (.iconst 4, 1) := by decide +kernel
theorem dX2_isVillage_3 : decode cX2_isVillage 3 = .ok (.invokestatic 41, 3) := by decide +kernel
theorem dX2_isVillage_6 : decode cX2_isVillage 6 = .ok (.ireturn, 1) := by decide +kernel
theorem dX2_keep_0 : decode cX2_keep 0 = .ok (.aload_n 0, 1) := by decide +kernel
theorem dX2_keep_1 : decode cX2_keep 1 = .ok (.getfield 26, 3) := by decide +kernel
theorem dX2_keep_4 : decode cX2_keep 4 = .ok (.iconst 0, 1) := by decide +kernel
theorem dX2_keep_5 : decode cX2_keep 5 = .ok (.aload_n 0, 1) := by decide +kernel
theorem dX2_keep_6 : decode cX2_keep 6 = .ok (.getfield 29, 3) := by decide +kernel
theorem dX2_keep_9 : decode cX2_keep 9 = .ok (.iconst 0, 1) := by decide +kernel
theorem dX2_keep_10 : decode cX2_keep 10 = .ok (.bipush 12, 2) := by decide +kernel
theorem dX2_keep_12 : decode cX2_keep 12 = .ok (.invokestatic 45, 3) := by decide +kernel
theorem dX2_keep_15 : decode cX2_keep 15 = .ok (.return_, 1) := by decide +kernel
theorem dX2_bringBack_0 : decode cX2_bringBack 0 = .ok (.aload_n 0, 1) := by decide +kernel
theorem dX2_bringBack_1 : decode cX2_bringBack 1 = .ok (.getfield 29, 3) := by decide +kernel
theorem dX2_bringBack_4 : decode cX2_bringBack 4 = .ok (.iconst 0, 1) := by decide +kernel
theorem dX2_bringBack_5 : decode cX2_bringBack 5 = .ok (.aload_n 0, 1) := by decide +kernel
theorem dX2_bringBack_6 : decode cX2_bringBack 6 = .ok (.getfield 26, 3) := by decide +kernel
theorem dX2_bringBack_9 : decode cX2_bringBack 9 = .ok (.iconst 0, 1) := by decide +kernel
theorem dX2_bringBack_10 : decode cX2_bringBack 10 = .ok (.bipush 12, 2) := by decide +kernel
theorem dX2_bringBack_12 : decode cX2_bringBack 12 = .ok (.invokestatic 45, 3) := by decide +kernel
theorem dX2_bringBack_15 : decode cX2_bringBack 15 = .ok (.return_, 1) := by decide +kernel
theorem dX2_standing_0 : decode cX2_standing 0 = .ok (.iconst 0, 1) := by decide +kernel
theorem dX2_standing_1 : decode cX2_standing 1 = .ok (.istore_n 2, 1) := by decide +kernel
theorem dX2_standing_2 : decode cX2_standing 2 = .ok (.iconst 0, 1) := by decide +kernel
theorem dX2_standing_3 : decode cX2_standing 3 = .ok (.istore_n 3, 1) := by decide +kernel
theorem dX2_standing_4 : decode cX2_standing 4 = .ok (.iload_n 3, 1) := by decide +kernel
theorem dX2_standing_5 : decode cX2_standing 5 = .ok (.aload_n 0, 1) := by decide +kernel
theorem dX2_standing_6 : decode cX2_standing 6 = .ok (.getfield 38, 3) := by decide +kernel
theorem dX2_standing_9 : decode cX2_standing 9 = .ok (.if_icmp .ge 27, 3) := by decide +kernel
theorem dX2_standing_12 : decode cX2_standing 12 = .ok (.iload_n 2, 1) := by decide +kernel
theorem dX2_standing_13 : decode cX2_standing 13 = .ok (.aload_n 0, 1) := by decide +kernel
theorem dX2_standing_14 : decode cX2_standing 14 = .ok (.getfield 26, 3) := by decide +kernel
theorem dX2_standing_17 : decode cX2_standing 17 = .ok (.iload_n 3, 1) := by decide +kernel
theorem dX2_standing_18 : decode cX2_standing 18 = .ok (.iaload, 1) := by decide +kernel
theorem dX2_standing_19 : decode cX2_standing 19 = .ok (.iload_n 1, 1) := by decide +kernel
theorem dX2_standing_20 : decode cX2_standing 20 = .ok (.if_icmp .ne 7, 3) := by decide +kernel
theorem dX2_standing_23 : decode cX2_standing 23 = .ok (.iconst 1, 1) := by decide +kernel
theorem dX2_standing_24 : decode cX2_standing 24 = .ok (.goto 4, 3) := by decide +kernel
theorem dX2_standing_27 : decode cX2_standing 27 = .ok (.iconst 0, 1) := by decide +kernel
theorem dX2_standing_28 : decode cX2_standing 28 = .ok (.iadd, 1) := by decide +kernel
theorem dX2_standing_29 : decode cX2_standing 29 = .ok (.istore_n 2, 1) := by decide +kernel
theorem dX2_standing_30 : decode cX2_standing 30 = .ok (.iinc 3 1, 3) := by decide +kernel
theorem dX2_standing_33 : decode cX2_standing 33 = .ok (.goto (-29), 3) := by decide +kernel
theorem dX2_standing_36 : decode cX2_standing 36 = .ok (.iload_n 2, 1) := by decide +kernel
theorem dX2_standing_37 : decode cX2_standing 37 = .ok (.ireturn, 1) := by decide +kernel
set_option maxRecDepth 20000 in
theorem ggX2_hasRoom_X2_standing : GoodIn wsX2_hasRoom wsX2_standing := goodIn_r _ [6, 7, 8, 9, 10, 11, 12, 13, 14, 15, 16, 17, 18, 19] (by decide +kernel) (by decide +kernel)
set_option maxRecDepth 20000 in
theorem gX2_hasRoom_X2_standing : GoodIn wsX2_hasRoom (wsV RX2 51 RX2 yX2_standing wsX2_standing) := goodIn_app (goodIn_of _ (by decide +kernel)) ggX2_hasRoom_X2_standing
theorem dX2_hasRoom_0 : decode cX2_hasRoom 0 = .ok (.aload_n 0, 1) := by decide +kernel
theorem dX2_hasRoom_1 : decode cX2_hasRoom 1 = .ok (.iload_n 1, 1) := by decide +kernel
theorem dX2_hasRoom_2 : decode cX2_hasRoom 2 = .ok (.invokevirtual 51, 3) := by decide +kernel
theorem dX2_hasRoom_5 : decode cX2_hasRoom 5 = .ok (.aload_n 0, 1) := by decide +kernel
theorem dX2_hasRoom_6 : decode cX2_hasRoom 6 = .ok (.getfield 7, 3) := by decide +kernel
theorem dX2_hasRoom_9 : decode cX2_hasRoom 9 = .ok (.if_icmp .ge 7, 3) := by decide +kernel
theorem dX2_hasRoom_12 : decode cX2_hasRoom 12 = .ok (.iconst 1, 1) := by decide +kernel
theorem dX2_hasRoom_13 : decode cX2_hasRoom 13 = .ok (.goto 4, 3) := by decide +kernel
theorem dX2_hasRoom_16 : decode cX2_hasRoom 16 = .ok (.iconst 0, 1) := by decide +kernel
theorem dX2_hasRoom_17 : decode cX2_hasRoom 17 = .ok (.ireturn, 1) := by decide +kernel
theorem dX2_isWilling_0 : decode cX2_isWilling 0 = .ok (.iload_n 2, 1) := by decide +kernel
theorem dX2_isWilling_1 : decode cX2_isWilling 1 = .ok (.aload_n 0, 1) := by decide +kernel
theorem dX2_isWilling_2 : decode cX2_isWilling 2 = .ok (.getfield 17, 3) := by decide +kernel
theorem dX2_isWilling_5 : decode cX2_isWilling 5 = .ok (.iload_n 1, 1) := by decide +kernel
theorem dX2_isWilling_6 : decode cX2_isWilling 6 = .ok (.iaload, 1) := by decide +kernel
theorem dX2_isWilling_7 : decode cX2_isWilling 7 = .ok (.isub, 1) := by decide +kernel
theorem dX2_isWilling_8 : decode cX2_isWilling 8 = .ok (.invokestatic 55, 3) := by decide +kernel
theorem dX2_isWilling_11 : decode cX2_isWilling 11 = .ok (.aload_n 0, 1) := by decide +kernel
theorem dX2_isWilling_12 : decode cX2_isWilling 12 = .ok (.getfield 20, 3) := by decide +kernel
theorem dX2_isWilling_15 : decode cX2_isWilling 15 = .ok (.iload_n 1, 1) := by decide +kernel
theorem dX2_isWilling_16 : decode cX2_isWilling 16 = .ok (.iaload, 1) := by decide +kernel
theorem dX2_isWilling_17 : decode cX2_isWilling 17 = .ok (.if_icmp .gt 7, 3) := by decide +kernel
theorem dX2_isWilling_20 : decode cX2_isWilling 20 = .ok (.iconst 1, 1) := by decide +kernel
theorem dX2_isWilling_21 : decode cX2_isWilling 21 = .ok (.goto 4, 3) := by decide +kernel
theorem dX2_isWilling_24 : decode cX2_isWilling 24 = .ok (.iconst 0, 1) := by decide +kernel
theorem dX2_isWilling_25 : decode cX2_isWilling 25 = .ok (.ireturn, 1) := by decide +kernel
theorem dX2_median_0 : decode cX2_median 0 = .ok (.iconst 0, 1) := by decide +kernel
theorem dX2_median_1 : decode cX2_median 1 = .ok (.istore_n 3, 1) := by decide +kernel
theorem dX2_median_2 : decode cX2_median 2 = .ok (.iload_n 3, 1) := by decide +kernel
theorem dX2_median_3 : decode cX2_median 3 = .ok (.bipush 41, 2) := by decide +kernel
theorem dX2_median_5 : decode cX2_median 5 = .ok (.if_icmp .ge 16, 3) := by decide +kernel
theorem dX2_median_8 : decode cX2_median 8 = .ok (.aload_n 0, 1) := by decide +kernel
theorem dX2_median_9 : decode cX2_median 9 = .ok (.getfield 32, 3) := by decide +kernel
theorem dX2_median_12 : decode cX2_median 12 = .ok (.iload_n 3, 1) := by decide +kernel
theorem dX2_median_13 : decode cX2_median 13 = .ok (.iconst 0, 1) := by decide +kernel
theorem dX2_median_14 : decode cX2_median 14 = .ok (.iastore, 1) := by decide +kernel
theorem dX2_median_15 : decode cX2_median 15 = .ok (.iinc 3 1, 3) := by decide +kernel
theorem dX2_median_18 : decode cX2_median 18 = .ok (.goto (-16), 3) := by decide +kernel
theorem dX2_median_21 : decode cX2_median 21 = .ok (.iconst 0, 1) := by decide +kernel
theorem dX2_median_22 : decode cX2_median 22 = .ok (.istore_n 3, 1) := by decide +kernel
theorem dX2_median_23 : decode cX2_median 23 = .ok (.iconst 0, 1) := by decide +kernel
theorem dX2_median_24 : decode cX2_median 24 = .ok (.istore 4, 2) := by decide +kernel
theorem dX2_median_26 : decode cX2_median 26 = .ok (.iload 4, 2) := by decide +kernel
theorem dX2_median_28 : decode cX2_median 28 = .ok (.aload_n 0, 1) := by decide +kernel
theorem dX2_median_29 : decode cX2_median 29 = .ok (.getfield 38, 3) := by decide +kernel
theorem dX2_median_32 : decode cX2_median 32 = .ok (.if_icmp .ge 53, 3) := by decide +kernel
theorem dX2_median_35 : decode cX2_median 35 = .ok (.iload 4, 2) := by decide +kernel
theorem dX2_median_37 : decode cX2_median 37 = .ok (.iload_n 2, 1) := by decide +kernel
theorem dX2_median_38 : decode cX2_median 38 = .ok (.if_icmp .eq 41, 3) := by decide +kernel
theorem dX2_median_41 : decode cX2_median 41 = .ok (.iload_n 1, 1) := by decide +kernel
theorem dX2_median_42 : decode cX2_median 42 = .ok (.iconst (-1), 1) := by decide +kernel
theorem dX2_median_43 : decode cX2_median 43 = .ok (.if_icmp .eq 17, 3) := by decide +kernel
theorem dX2_median_46 : decode cX2_median 46 = .ok (.aload_n 0, 1) := by decide +kernel
theorem dX2_median_47 : decode cX2_median 47 = .ok (.getfield 13, 3) := by decide +kernel
theorem dX2_median_50 : decode cX2_median 50 = .ok (.iload 4, 2) := by decide +kernel
theorem dX2_median_52 : decode cX2_median 52 = .ok (.iaload, 1) := by decide +kernel
theorem dX2_median_53 : decode cX2_median 53 = .ok (.iload_n 1, 1) := by decide +kernel
theorem dX2_median_54 : decode cX2_median 54 = .ok (.if_icmp .eq 6, 3) := by decide +kernel
theorem dX2_median_57 : decode cX2_median 57 = .ok (.goto 22, 3) := by decide +kernel
theorem dX2_median_60 : decode cX2_median 60 = .ok (.aload_n 0, 1) := by decide +kernel
theorem dX2_median_61 : decode cX2_median 61 = .ok (.getfield 32, 3) := by decide +kernel
theorem dX2_median_64 : decode cX2_median 64 = .ok (.aload_n 0, 1) := by decide +kernel
theorem dX2_median_65 : decode cX2_median 65 = .ok (.getfield 26, 3) := by decide +kernel
theorem dX2_median_68 : decode cX2_median 68 = .ok (.iload 4, 2) := by decide +kernel
theorem dX2_median_70 : decode cX2_median 70 = .ok (.iaload, 1) := by decide +kernel
theorem dX2_median_71 : decode cX2_median 71 = .ok (.dup2, 1) := by decide +kernel
theorem dX2_median_72 : decode cX2_median 72 = .ok (.iaload, 1) := by decide +kernel
theorem dX2_median_73 : decode cX2_median 73 = .ok (.iconst 1, 1) := by decide +kernel
theorem dX2_median_74 : decode cX2_median 74 = .ok (.iadd, 1) := by decide +kernel
theorem dX2_median_75 : decode cX2_median 75 = .ok (.iastore, 1) := by decide +kernel
theorem dX2_median_76 : decode cX2_median 76 = .ok (.iinc 3 1, 3) := by decide +kernel
theorem dX2_median_79 : decode cX2_median 79 = .ok (.iinc 4 1, 3) := by decide +kernel
theorem dX2_median_82 : decode cX2_median 82 = .ok (.goto (-56), 3) := by decide +kernel
theorem dX2_median_85 : decode cX2_median 85 = .ok (.iload_n 3, 1) := by decide +kernel
theorem dX2_median_86 : decode cX2_median 86 = .ok (.iconst 1, 1) := by decide +kernel
theorem dX2_median_87 : decode cX2_median 87 = .ok (.isub, 1) := by decide +kernel
theorem dX2_median_88 : decode cX2_median 88 = .ok (.iconst 2, 1) := by decide +kernel
theorem dX2_median_89 : decode cX2_median 89 = .ok (.idiv, 1) := by decide +kernel
theorem dX2_median_90 : decode cX2_median 90 = .ok (.istore 4, 2) := by decide +kernel
theorem dX2_median_92 : decode cX2_median 92 = .ok (.iconst 0, 1) := by decide +kernel
theorem dX2_median_93 : decode cX2_median 93 = .ok (.istore 5, 2) := by decide +kernel
theorem dX2_median_95 : decode cX2_median 95 = .ok (.iload 5, 2) := by decide +kernel
theorem dX2_median_97 : decode cX2_median 97 = .ok (.bipush 41, 2) := by decide +kernel
theorem dX2_median_99 : decode cX2_median 99 = .ok (.if_icmp .ge 33, 3) := by decide +kernel
theorem dX2_median_102 : decode cX2_median 102 = .ok (.iload_n 3, 1) := by decide +kernel
theorem dX2_median_103 : decode cX2_median 103 = .ok (.ifCond .le 29, 3) := by decide +kernel
theorem dX2_median_106 : decode cX2_median 106 = .ok (.iload 4, 2) := by decide +kernel
theorem dX2_median_108 : decode cX2_median 108 = .ok (.aload_n 0, 1) := by decide +kernel
theorem dX2_median_109 : decode cX2_median 109 = .ok (.getfield 32, 3) := by decide +kernel
theorem dX2_median_112 : decode cX2_median 112 = .ok (.iload 5, 2) := by decide +kernel
theorem dX2_median_114 : decode cX2_median 114 = .ok (.iaload, 1) := by decide +kernel
theorem dX2_median_115 : decode cX2_median 115 = .ok (.isub, 1) := by decide +kernel
theorem dX2_median_116 : decode cX2_median 116 = .ok (.istore 4, 2) := by decide +kernel
theorem dX2_median_118 : decode cX2_median 118 = .ok (.iload 4, 2) := by decide +kernel
theorem dX2_median_120 : decode cX2_median 120 = .ok (.ifCond .ge 6, 3) := by decide +kernel
theorem dX2_median_123 : decode cX2_median 123 = .ok (.iload 5, 2) := by decide +kernel
theorem dX2_median_125 : decode cX2_median 125 = .ok (.ireturn, 1) := by decide +kernel
theorem dX2_median_126 : decode cX2_median 126 = .ok (.iinc 5 1, 3) := by decide +kernel
theorem dX2_median_129 : decode cX2_median 129 = .ok (.goto (-34), 3) := by decide +kernel
theorem dX2_median_132 : decode cX2_median 132 = .ok (.iconst (-1), 1) := by decide +kernel
theorem dX2_median_133 : decode cX2_median 133 = .ok (.ireturn, 1) := by decide +kernel
set_option maxRecDepth 20000 in
theorem ggX2_middle_X2_median : GoodIn wsX2_middle wsX2_median := goodIn_r _ [5, 6, 7, 8, 9, 10, 11, 12, 13, 14, 15, 16, 17, 18, 19, 20] (by decide +kernel) (by decide +kernel)
set_option maxRecDepth 20000 in
theorem gX2_middle_X2_median : GoodIn wsX2_middle (wsV RX2 60 RX2 yX2_median wsX2_median) := goodIn_app (goodIn_of _ (by decide +kernel)) ggX2_middle_X2_median
theorem dX2_middle_0 : decode cX2_middle 0 = .ok (.aload_n 0, 1) := by decide +kernel
theorem dX2_middle_1 : decode cX2_middle 1 = .ok (.iconst (-1), 1) := by decide +kernel
theorem dX2_middle_2 : decode cX2_middle 2 = .ok (.iconst (-1), 1) := by decide +kernel
theorem dX2_middle_3 : decode cX2_middle 3 = .ok (.invokevirtual 60, 3) := by decide +kernel
theorem dX2_middle_6 : decode cX2_middle 6 = .ok (.ireturn, 1) := by decide +kernel
theorem dX2_step_0 : decode cX2_step 0 = .ok (.aload_n 0, 1) := by decide +kernel
theorem dX2_step_1 : decode cX2_step 1 = .ok (.getfield 17, 3) := by decide +kernel
theorem dX2_step_4 : decode cX2_step 4 = .ok (.iload_n 1, 1) := by decide +kernel
theorem dX2_step_5 : decode cX2_step 5 = .ok (.iaload, 1) := by decide +kernel
theorem dX2_step_6 : decode cX2_step 6 = .ok (.aload_n 0, 1) := by decide +kernel
theorem dX2_step_7 : decode cX2_step 7 = .ok (.getfield 20, 3) := by decide +kernel
theorem dX2_step_10 : decode cX2_step 10 = .ok (.iload_n 1, 1) := by decide +kernel
theorem dX2_step_11 : decode cX2_step 11 = .ok (.iaload, 1) := by decide +kernel
theorem dX2_step_12 : decode cX2_step 12 = .ok (.isub, 1) := by decide +kernel
theorem dX2_step_13 : decode cX2_step 13 = .ok (.aload_n 0, 1) := by decide +kernel
theorem dX2_step_14 : decode cX2_step 14 = .ok (.getfield 17, 3) := by decide +kernel
theorem dX2_step_17 : decode cX2_step 17 = .ok (.iload_n 1, 1) := by decide +kernel
theorem dX2_step_18 : decode cX2_step 18 = .ok (.iaload, 1) := by decide +kernel
theorem dX2_step_19 : decode cX2_step 19 = .ok (.aload_n 0, 1) := by decide +kernel
theorem dX2_step_20 : decode cX2_step 20 = .ok (.getfield 20, 3) := by decide +kernel
theorem dX2_step_23 : decode cX2_step 23 = .ok (.iload_n 1, 1) := by decide +kernel
theorem dX2_step_24 : decode cX2_step 24 = .ok (.iaload, 1) := by decide +kernel
theorem dX2_step_25 : decode cX2_step 25 = .ok (.iadd, 1) := by decide +kernel
theorem dX2_step_26 : decode cX2_step 26 = .ok (.iload_n 2, 1) := by decide +kernel
theorem dX2_step_27 : decode cX2_step 27 = .ok (.invokestatic 64, 3) := by decide +kernel
theorem dX2_step_30 : decode cX2_step 30 = .ok (.invokestatic 67, 3) := by decide +kernel
theorem dX2_step_33 : decode cX2_step 33 = .ok (.istore_n 3, 1) := by decide +kernel
theorem dX2_step_34 : decode cX2_step 34 = .ok (.aload_n 0, 1) := by decide +kernel
theorem dX2_step_35 : decode cX2_step 35 = .ok (.getfield 26, 3) := by decide +kernel
theorem dX2_step_38 : decode cX2_step 38 = .ok (.iload_n 1, 1) := by decide +kernel
theorem dX2_step_39 : decode cX2_step 39 = .ok (.iaload, 1) := by decide +kernel
theorem dX2_step_40 : decode cX2_step 40 = .ok (.aload_n 0, 1) := by decide +kernel
theorem dX2_step_41 : decode cX2_step 41 = .ok (.getfield 23, 3) := by decide +kernel
theorem dX2_step_44 : decode cX2_step 44 = .ok (.iload_n 1, 1) := by decide +kernel
theorem dX2_step_45 : decode cX2_step 45 = .ok (.iaload, 1) := by decide +kernel
theorem dX2_step_46 : decode cX2_step 46 = .ok (.ineg, 1) := by decide +kernel
theorem dX2_step_47 : decode cX2_step 47 = .ok (.aload_n 0, 1) := by decide +kernel
theorem dX2_step_48 : decode cX2_step 48 = .ok (.getfield 23, 3) := by decide +kernel
theorem dX2_step_51 : decode cX2_step 51 = .ok (.iload_n 1, 1) := by decide +kernel
theorem dX2_step_52 : decode cX2_step 52 = .ok (.iaload, 1) := by decide +kernel
theorem dX2_step_53 : decode cX2_step 53 = .ok (.iload_n 3, 1) := by decide +kernel
theorem dX2_step_54 : decode cX2_step 54 = .ok (.aload_n 0, 1) := by decide +kernel
theorem dX2_step_55 : decode cX2_step 55 = .ok (.getfield 26, 3) := by decide +kernel
theorem dX2_step_58 : decode cX2_step 58 = .ok (.iload_n 1, 1) := by decide +kernel
theorem dX2_step_59 : decode cX2_step 59 = .ok (.iaload, 1) := by decide +kernel
theorem dX2_step_60 : decode cX2_step 60 = .ok (.isub, 1) := by decide +kernel
theorem dX2_step_61 : decode cX2_step 61 = .ok (.invokestatic 64, 3) := by decide +kernel
theorem dX2_step_64 : decode cX2_step 64 = .ok (.invokestatic 67, 3) := by decide +kernel
theorem dX2_step_67 : decode cX2_step 67 = .ok (.iadd, 1) := by decide +kernel
theorem dX2_step_68 : decode cX2_step 68 = .ok (.ireturn, 1) := by decide +kernel
set_option maxRecDepth 20000 in
theorem ggX2_roundOn_X2_middle : GoodIn wsX2_roundOn wsX2_middle := goodIn_r _ [7, 8, 9, 10, 6, 11, 12, 1, 13, 2, 37, 38, 39, 40, 41, 42, 43, 44, 45, 46, 47] (by decide +kernel) (by decide +kernel)
set_option maxRecDepth 20000 in
theorem gX2_roundOn_X2_middle : GoodIn wsX2_roundOn (wsV RX2 70 RX2 yX2_middle wsX2_middle) := goodIn_app (goodIn_of _ (by decide +kernel)) ggX2_roundOn_X2_middle
set_option maxRecDepth 20000 in
theorem ggX2_roundOn_X2_step : GoodIn wsX2_roundOn wsX2_step := goodIn_r _ [17, 18, 19, 20, 21, 22, 23, 24, 25, 26, 2, 27, 37, 38, 39, 40, 41, 42, 43, 44, 45, 46, 47] (by decide +kernel) (by decide +kernel)
set_option maxRecDepth 20000 in
theorem gX2_roundOn_X2_step : GoodIn wsX2_roundOn (wsV RX2 74 RX2 yX2_step wsX2_step) := goodIn_app (goodIn_of _ (by decide +kernel)) ggX2_roundOn_X2_step
set_option maxRecDepth 20000 in
theorem ggX2_roundOn_X2_hasRoom : GoodIn wsX2_roundOn wsX2_hasRoom := goodIn_r _ [31, 32, 33, 34, 35, 6, 36, 1, 2, 37, 38, 39, 40, 41, 42, 43, 44, 45, 46, 47] (by decide +kernel) (by decide +kernel)
set_option maxRecDepth 20000 in
theorem gX2_roundOn_X2_hasRoom : GoodIn wsX2_roundOn (wsV RX2 77 RX2 yX2_hasRoom wsX2_hasRoom) := goodIn_app (goodIn_of _ (by decide +kernel)) ggX2_roundOn_X2_hasRoom
theorem dX2_roundOn_0 : decode cX2_roundOn 0 = .ok (.aload_n 0, 1) := by decide +kernel
theorem dX2_roundOn_1 : decode cX2_roundOn 1 = .ok (.invokevirtual 70, 3) := by decide +kernel
theorem dX2_roundOn_4 : decode cX2_roundOn 4 = .ok (.istore_n 1, 1) := by decide +kernel
theorem dX2_roundOn_5 : decode cX2_roundOn 5 = .ok (.iconst 0, 1) := by decide +kernel
theorem dX2_roundOn_6 : decode cX2_roundOn 6 = .ok (.istore_n 2, 1) := by decide +kernel
theorem dX2_roundOn_7 : decode cX2_roundOn 7 = .ok (.iconst 0, 1) := by decide +kernel
theorem dX2_roundOn_8 : decode cX2_roundOn 8 = .ok (.istore_n 3, 1) := by decide +kernel
theorem dX2_roundOn_9 : decode cX2_roundOn 9 = .ok (.iload_n 3, 1) := by decide +kernel
theorem dX2_roundOn_10 : decode cX2_roundOn 10 = .ok (.aload_n 0, 1) := by decide +kernel
theorem dX2_roundOn_11 : decode cX2_roundOn 11 = .ok (.getfield 38, 3) := by decide +kernel
theorem dX2_roundOn_14 : decode cX2_roundOn 14 = .ok (.if_icmp .ge 51, 3) := by decide +kernel
theorem dX2_roundOn_17 : decode cX2_roundOn 17 = .ok (.aload_n 0, 1) := by decide +kernel
theorem dX2_roundOn_18 : decode cX2_roundOn 18 = .ok (.iload_n 3, 1) := by decide +kernel
theorem dX2_roundOn_19 : decode cX2_roundOn 19 = .ok (.iload_n 1, 1) := by decide +kernel
theorem dX2_roundOn_20 : decode cX2_roundOn 20 = .ok (.invokevirtual 74, 3) := by decide +kernel
theorem dX2_roundOn_23 : decode cX2_roundOn 23 = .ok (.istore 4, 2) := by decide +kernel
theorem dX2_roundOn_25 : decode cX2_roundOn 25 = .ok (.iload 4, 2) := by decide +kernel
theorem dX2_roundOn_27 : decode cX2_roundOn 27 = .ok (.aload_n 0, 1) := by decide +kernel
theorem dX2_roundOn_28 : decode cX2_roundOn 28 = .ok (.getfield 26, 3) := by decide +kernel
theorem dX2_roundOn_31 : decode cX2_roundOn 31 = .ok (.iload_n 3, 1) := by decide +kernel
theorem dX2_roundOn_32 : decode cX2_roundOn 32 = .ok (.iaload, 1) := by decide +kernel
theorem dX2_roundOn_33 : decode cX2_roundOn 33 = .ok (.if_icmp .eq 26, 3) := by decide +kernel
theorem dX2_roundOn_36 : decode cX2_roundOn 36 = .ok (.aload_n 0, 1) := by decide +kernel
theorem dX2_roundOn_37 : decode cX2_roundOn 37 = .ok (.iload 4, 2) := by decide +kernel
theorem dX2_roundOn_39 : decode cX2_roundOn 39 = .ok (.invokevirtual 77, 3) := by decide +kernel
theorem dX2_roundOn_42 : decode cX2_roundOn 42 = .ok (.ifCond .ne 6, 3) := by decide +kernel
theorem dX2_roundOn_45 : decode cX2_roundOn 45 = .ok (.goto 14, 3) := by decide +kernel
theorem dX2_roundOn_48 : decode cX2_roundOn 48 = .ok (.aload_n 0, 1) := by decide +kernel
theorem dX2_roundOn_49 : decode cX2_roundOn 49 = .ok (.getfield 26, 3) := by decide +kernel
theorem dX2_roundOn_52 : decode cX2_roundOn 52 = .ok (.iload_n 3, 1) := by decide +kernel
theorem dX2_roundOn_53 : decode cX2_roundOn 53 = .ok (.iload 4, 2) := by decide +kernel
theorem dX2_roundOn_55 : decode cX2_roundOn 55 = .ok (.iastore, 1) := by decide +kernel
theorem dX2_roundOn_56 : decode cX2_roundOn 56 = .ok (.iinc 2 1, 3) := by decide +kernel
theorem dX2_roundOn_59 : decode cX2_roundOn 59 = .ok (.iinc 3 1, 3) := by decide +kernel
theorem dX2_roundOn_62 : decode cX2_roundOn 62 = .ok (.goto (-53), 3) := by decide +kernel
theorem dX2_roundOn_65 : decode cX2_roundOn 65 = .ok (.iload_n 2, 1) := by decide +kernel
theorem dX2_roundOn_66 : decode cX2_roundOn 66 = .ok (.ireturn, 1) := by decide +kernel
theorem dX2_wide_0 : decode cX2_wide 0 = .ok (.bipush 41, 2) := by decide +kernel
theorem dX2_wide_2 : decode cX2_wide 2 = .ok (.istore_n 1, 1) := by decide +kernel
theorem dX2_wide_3 : decode cX2_wide 3 = .ok (.iconst 0, 1) := by decide +kernel
theorem dX2_wide_4 : decode cX2_wide 4 = .ok (.istore_n 2, 1) := by decide +kernel
theorem dX2_wide_5 : decode cX2_wide 5 = .ok (.iconst 0, 1) := by decide +kernel
theorem dX2_wide_6 : decode cX2_wide 6 = .ok (.istore_n 3, 1) := by decide +kernel
theorem dX2_wide_7 : decode cX2_wide 7 = .ok (.iload_n 3, 1) := by decide +kernel
theorem dX2_wide_8 : decode cX2_wide 8 = .ok (.aload_n 0, 1) := by decide +kernel
theorem dX2_wide_9 : decode cX2_wide 9 = .ok (.getfield 38, 3) := by decide +kernel
theorem dX2_wide_12 : decode cX2_wide 12 = .ok (.if_icmp .ge 31, 3) := by decide +kernel
theorem dX2_wide_15 : decode cX2_wide 15 = .ok (.iload_n 1, 1) := by decide +kernel
theorem dX2_wide_16 : decode cX2_wide 16 = .ok (.aload_n 0, 1) := by decide +kernel
theorem dX2_wide_17 : decode cX2_wide 17 = .ok (.getfield 26, 3) := by decide +kernel
theorem dX2_wide_20 : decode cX2_wide 20 = .ok (.iload_n 3, 1) := by decide +kernel
theorem dX2_wide_21 : decode cX2_wide 21 = .ok (.iaload, 1) := by decide +kernel
theorem dX2_wide_22 : decode cX2_wide 22 = .ok (.invokestatic 64, 3) := by decide +kernel
theorem dX2_wide_25 : decode cX2_wide 25 = .ok (.istore_n 1, 1) := by decide +kernel
theorem dX2_wide_26 : decode cX2_wide 26 = .ok (.iload_n 2, 1) := by decide +kernel
theorem dX2_wide_27 : decode cX2_wide 27 = .ok (.aload_n 0, 1) := by decide +kernel
theorem dX2_wide_28 : decode cX2_wide 28 = .ok (.getfield 26, 3) := by decide +kernel
theorem dX2_wide_31 : decode cX2_wide 31 = .ok (.iload_n 3, 1) := by decide +kernel
theorem dX2_wide_32 : decode cX2_wide 32 = .ok (.iaload, 1) := by decide +kernel
theorem dX2_wide_33 : decode cX2_wide 33 = .ok (.invokestatic 67, 3) := by decide +kernel
theorem dX2_wide_36 : decode cX2_wide 36 = .ok (.istore_n 2, 1) := by decide +kernel
theorem dX2_wide_37 : decode cX2_wide 37 = .ok (.iinc 3 1, 3) := by decide +kernel
theorem dX2_wide_40 : decode cX2_wide 40 = .ok (.goto (-33), 3) := by decide +kernel
theorem dX2_wide_43 : decode cX2_wide 43 = .ok (.aload_n 0, 1) := by decide +kernel
theorem dX2_wide_44 : decode cX2_wide 44 = .ok (.getfield 38, 3) := by decide +kernel
theorem dX2_wide_47 : decode cX2_wide 47 = .ok (.iconst 2, 1) := by decide +kernel
theorem dX2_wide_48 : decode cX2_wide 48 = .ok (.if_icmp .ge 7, 3) := by decide +kernel
theorem dX2_wide_51 : decode cX2_wide 51 = .ok (.iconst 0, 1) := by decide +kernel
theorem dX2_wide_52 : decode cX2_wide 52 = .ok (.goto 6, 3) := by decide +kernel
theorem dX2_wide_55 : decode cX2_wide 55 = .ok (.iload_n 2, 1) := by decide +kernel
theorem dX2_wide_56 : decode cX2_wide 56 = .ok (.iload_n 1, 1) := by decide +kernel
theorem dX2_wide_57 : decode cX2_wide 57 = .ok (.isub, 1) := by decide +kernel
theorem dX2_wide_58 : decode cX2_wide 58 = .ok (.ireturn, 1) := by decide +kernel
set_option maxRecDepth 20000 in
theorem ggX2_agree_X2_wide : GoodIn wsX2_agree wsX2_wide := goodIn_r _ [7, 1, 8, 9, 10, 11, 12, 13, 14, 15, 16, 17, 18, 19, 20, 21, 22, 23, 24, 25, 26] (by decide +kernel) (by decide +kernel)
set_option maxRecDepth 20000 in
theorem gX2_agree_X2_wide : GoodIn wsX2_agree (wsV RX2 81 RX2 yX2_wide wsX2_wide) := goodIn_app (goodIn_of _ (by decide +kernel)) ggX2_agree_X2_wide
theorem dX2_agree_0 : decode cX2_agree 0 = .ok (.iconst 0, 1) := by decide +kernel
theorem dX2_agree_1 : decode cX2_agree 1 = .ok (.istore_n 1, 1) := by decide +kernel
theorem dX2_agree_2 : decode cX2_agree 2 = .ok (.iconst 1, 1) := by decide +kernel
theorem dX2_agree_3 : decode cX2_agree 3 = .ok (.istore_n 2, 1) := by decide +kernel
theorem dX2_agree_4 : decode cX2_agree 4 = .ok (.iload_n 2, 1) := by decide +kernel
theorem dX2_agree_5 : decode cX2_agree 5 = .ok (.aload_n 0, 1) := by decide +kernel
theorem dX2_agree_6 : decode cX2_agree 6 = .ok (.getfield 38, 3) := by decide +kernel
theorem dX2_agree_9 : decode cX2_agree 9 = .ok (.if_icmp .ge 32, 3) := by decide +kernel
theorem dX2_agree_12 : decode cX2_agree 12 = .ok (.iload_n 1, 1) := by decide +kernel
theorem dX2_agree_13 : decode cX2_agree 13 = .ok (.aload_n 0, 1) := by decide +kernel
theorem dX2_agree_14 : decode cX2_agree 14 = .ok (.getfield 13, 3) := by decide +kernel
theorem dX2_agree_17 : decode cX2_agree 17 = .ok (.iload_n 2, 1) := by decide +kernel
theorem dX2_agree_18 : decode cX2_agree 18 = .ok (.iaload, 1) := by decide +kernel
theorem dX2_agree_19 : decode cX2_agree 19 = .ok (.aload_n 0, 1) := by decide +kernel
theorem dX2_agree_20 : decode cX2_agree 20 = .ok (.getfield 13, 3) := by decide +kernel
theorem dX2_agree_23 : decode cX2_agree 23 = .ok (.iconst 0, 1) := by decide +kernel
theorem dX2_agree_24 : decode cX2_agree 24 = .ok (.iaload, 1) := by decide +kernel
theorem dX2_agree_25 : decode cX2_agree 25 = .ok (.if_icmp .eq 7, 3) := by decide +kernel
theorem dX2_agree_28 : decode cX2_agree 28 = .ok (.iconst 1, 1) := by decide +kernel
theorem dX2_agree_29 : decode cX2_agree 29 = .ok (.goto 4, 3) := by decide +kernel
theorem dX2_agree_32 : decode cX2_agree 32 = .ok (.iconst 0, 1) := by decide +kernel
theorem dX2_agree_33 : decode cX2_agree 33 = .ok (.ior, 1) := by decide +kernel
theorem dX2_agree_34 : decode cX2_agree 34 = .ok (.istore_n 1, 1) := by decide +kernel
theorem dX2_agree_35 : decode cX2_agree 35 = .ok (.iinc 2 1, 3) := by decide +kernel
theorem dX2_agree_38 : decode cX2_agree 38 = .ok (.goto (-34), 3) := by decide +kernel
theorem dX2_agree_41 : decode cX2_agree 41 = .ok (.iload_n 1, 1) := by decide +kernel
theorem dX2_agree_42 : decode cX2_agree 42 = .ok (.ifCond .eq 15, 3) := by decide +kernel
theorem dX2_agree_45 : decode cX2_agree 45 = .ok (.aload_n 0, 1) := by decide +kernel
theorem dX2_agree_46 : decode cX2_agree 46 = .ok (.invokevirtual 81, 3) := by decide +kernel
theorem dX2_agree_49 : decode cX2_agree 49 = .ok (.iconst 2, 1) := by decide +kernel
theorem dX2_agree_50 : decode cX2_agree 50 = .ok (.if_icmp .gt 7, 3) := by decide +kernel
theorem dX2_agree_53 : decode cX2_agree 53 = .ok (.iconst 1, 1) := by decide +kernel
theorem dX2_agree_54 : decode cX2_agree 54 = .ok (.goto 4, 3) := by decide +kernel
theorem dX2_agree_57 : decode cX2_agree 57 = .ok (.iconst 0, 1) := by decide +kernel
theorem dX2_agree_58 : decode cX2_agree 58 = .ok (.ireturn, 1) := by decide +kernel
set_option maxRecDepth 20000 in
theorem ggX2_still_X2_roundOn : GoodIn wsX2_still wsX2_roundOn := goodIn_r _ [11, 12, 2, 13, 14, 15, 10, 16, 17, 18, 19, 20, 21, 22, 23, 24, 25, 26, 27, 28, 29, 30, 31, 32, 33, 34, 35, 36, 37, 38, 39, 40, 41, 42, 43, 44, 45, 46, 47, 48, 49, 50, 51, 52, 53, 54, 55, 56] (by decide +kernel) (by decide +kernel)
set_option maxRecDepth 20000 in
theorem gX2_still_X2_roundOn : GoodIn wsX2_still (wsV RX2 84 RX2 yX2_roundOn wsX2_roundOn) := goodIn_app (goodIn_of _ (by decide +kernel)) ggX2_still_X2_roundOn
theorem dX2_still_0 : decode cX2_still 0 = .ok (.bipush 12, 2) := by decide +kernel
theorem dX2_still_2 : decode cX2_still 2 = .ok (.newarray .int, 2) := by decide +kernel
theorem dX2_still_4 : decode cX2_still 4 = .ok (.astore_n 1, 1) := by decide +kernel
theorem dX2_still_5 : decode cX2_still 5 = .ok (.aload_n 0, 1) := by decide +kernel
theorem dX2_still_6 : decode cX2_still 6 = .ok (.getfield 26, 3) := by decide +kernel
theorem dX2_still_9 : decode cX2_still 9 = .ok (.iconst 0, 1) := by decide +kernel
theorem dX2_still_10 : decode cX2_still 10 = .ok (.aload_n 1, 1) := by decide +kernel
theorem dX2_still_11 : decode cX2_still 11 = .ok (.iconst 0, 1) := by decide +kernel
theorem dX2_still_12 : decode cX2_still 12 = .ok (.bipush 12, 2) := by decide +kernel
theorem dX2_still_14 : decode cX2_still 14 = .ok (.invokestatic 45, 3) := by decide +kernel
theorem dX2_still_17 : decode cX2_still 17 = .ok (.aload_n 0, 1) := by decide +kernel
theorem dX2_still_18 : decode cX2_still 18 = .ok (.invokevirtual 84, 3) := by decide +kernel
theorem dX2_still_21 : decode cX2_still 21 = .ok (.ifCond .ne 7, 3) := by decide +kernel
theorem dX2_still_24 : decode cX2_still 24 = .ok (.iconst 1, 1) := by decide +kernel
theorem dX2_still_25 : decode cX2_still 25 = .ok (.goto 4, 3) := by decide +kernel
theorem dX2_still_28 : decode cX2_still 28 = .ok (.iconst 0, 1) := by decide +kernel
theorem dX2_still_29 : decode cX2_still 29 = .ok (.istore_n 2, 1) := by decide +kernel
theorem dX2_still_30 : decode cX2_still 30 = .ok (.aload_n 1, 1) := by decide +kernel
theorem dX2_still_31 : decode cX2_still 31 = .ok (.iconst 0, 1) := by decide +kernel
theorem dX2_still_32 : decode cX2_still 32 = .ok (.aload_n 0, 1) := by decide +kernel
theorem dX2_still_33 : decode cX2_still 33 = .ok (.getfield 26, 3) := by decide +kernel
theorem dX2_still_36 : decode cX2_still 36 = .ok (.iconst 0, 1) := by decide +kernel
theorem dX2_still_37 : decode cX2_still 37 = .ok (.bipush 12, 2) := by decide +kernel
theorem dX2_still_39 : decode cX2_still 39 = .ok (.invokestatic 45, 3) := by decide +kernel
theorem dX2_still_42 : decode cX2_still 42 = .ok (.iload_n 2, 1) := by decide +kernel
theorem dX2_still_43 : decode cX2_still 43 = .ok (.ireturn, 1) := by decide +kernel
set_option maxRecDepth 20000 in
theorem ggX2_send_X2_isVillage : GoodIn wsX2_send wsX2_isVillage := goodIn_r _ [11, 12, 13, 10, 14] (by decide +kernel) (by decide +kernel)
set_option maxRecDepth 20000 in
theorem gX2_send_X2_isVillage : GoodIn wsX2_send (va_wsS RX2 87 yX2_isVillage wsX2_isVillage) := goodIn_app (goodIn_of _ (by decide +kernel)) ggX2_send_X2_isVillage
set_option maxRecDepth 20000 in
theorem ggX2_send_X2_isPlank : GoodIn wsX2_send wsX2_isPlank := goodIn_r _ [17, 12, 13, 10, 14] (by decide +kernel) (by decide +kernel)
set_option maxRecDepth 20000 in
theorem gX2_send_X2_isPlank : GoodIn wsX2_send (va_wsS RX2 90 yX2_isPlank wsX2_isPlank) := goodIn_app (goodIn_of _ (by decide +kernel)) ggX2_send_X2_isPlank
set_option maxRecDepth 20000 in
theorem ggX2_send_X2_fail : GoodIn wsX2_send wsX2_fail := goodIn_r _ [21, 1, 31, 32, 33, 34, 35, 36, 37, 38, 39, 40, 41] (by decide +kernel) (by decide +kernel)
set_option maxRecDepth 20000 in
theorem gX2_send_X2_fail : GoodIn wsX2_send (wsV RX2 93 RX2 yX2_fail wsX2_fail) := goodIn_app (goodIn_of _ (by decide +kernel)) ggX2_send_X2_fail
set_option maxRecDepth 20000 in
theorem ggX2_send_X2_isIn : GoodIn wsX2_send wsX2_isIn := goodIn_r _ [14] (by decide +kernel) (by decide +kernel)
set_option maxRecDepth 20000 in
theorem gX2_send_X2_isIn : GoodIn wsX2_send (va_wsS RX2 41 yX2_isIn wsX2_isIn) := goodIn_app (goodIn_of _ (by decide +kernel)) ggX2_send_X2_isIn
set_option maxRecDepth 20000 in
theorem ggX2_send_X2_hasRoom : GoodIn wsX2_send wsX2_hasRoom := goodIn_r _ [25, 26, 27, 28, 29, 10, 30, 2, 7, 31, 32, 33, 34, 35, 36, 37, 38, 39, 40, 41] (by decide +kernel) (by decide +kernel)
set_option maxRecDepth 20000 in
theorem gX2_send_X2_hasRoom : GoodIn wsX2_send (wsV RX2 77 RX2 yX2_hasRoom wsX2_hasRoom) := goodIn_app (goodIn_of _ (by decide +kernel)) ggX2_send_X2_hasRoom
theorem dX2_send_0 : decode cX2_send 0 = .ok (.aload_n 0, 1) := by decide +kernel
theorem dX2_send_1 : decode cX2_send 1 = .ok (.iconst 0, 1) := by decide +kernel
theorem dX2_send_2 : decode cX2_send 2 = .ok (.putfield 35, 3) := by decide +kernel
theorem dX2_send_5 : decode cX2_send 5 = .ok (.iload_n 1, 1) := by decide +kernel
theorem dX2_send_6 : decode cX2_send 6 = .ok (.invokestatic 87, 3) := by decide +kernel
theorem dX2_send_9 : decode cX2_send 9 = .ok (.ifCond .eq 10, 3) := by decide +kernel
theorem dX2_send_12 : decode cX2_send 12 = .ok (.iload_n 2, 1) := by decide +kernel
theorem dX2_send_13 : decode cX2_send 13 = .ok (.invokestatic 90, 3) := by decide +kernel
theorem dX2_send_16 : decode cX2_send 16 = .ok (.ifCond .ne 9, 3) := by decide +kernel
theorem dX2_send_19 : decode cX2_send 19 = .ok (.aload_n 0, 1) := by decide +kernel
theorem dX2_send_20 : decode cX2_send 20 = .ok (.iconst 1, 1) := by decide +kernel
theorem dX2_send_21 : decode cX2_send 21 = .ok (.invokevirtual 93, 3) := by decide +kernel
theorem dX2_send_24 : decode cX2_send 24 = .ok (.ireturn, 1) := by decide +kernel
theorem dX2_send_25 : decode cX2_send 25 = .ok (.iload_n 3, 1) := by decide +kernel
theorem dX2_send_26 : decode cX2_send 26 = .ok (.iconst 0, 1) := by decide +kernel
theorem dX2_send_27 : decode cX2_send 27 = .ok (.bipush 20, 2) := by decide +kernel
theorem dX2_send_29 : decode cX2_send 29 = .ok (.invokestatic 41, 3) := by decide +kernel
theorem dX2_send_32 : decode cX2_send 32 = .ok (.ifCond .eq 13, 3) := by decide +kernel
theorem dX2_send_35 : decode cX2_send 35 = .ok (.iload 4, 2) := by decide +kernel
theorem dX2_send_37 : decode cX2_send 37 = .ok (.iconst 1, 1) := by decide +kernel
theorem dX2_send_38 : decode cX2_send 38 = .ok (.iconst 5, 1) := by decide +kernel
theorem dX2_send_39 : decode cX2_send 39 = .ok (.invokestatic 41, 3) := by decide +kernel
theorem dX2_send_42 : decode cX2_send 42 = .ok (.ifCond .ne 9, 3) := by decide +kernel
theorem dX2_send_45 : decode cX2_send 45 = .ok (.aload_n 0, 1) := by decide +kernel
theorem dX2_send_46 : decode cX2_send 46 = .ok (.iconst 2, 1) := by decide +kernel
theorem dX2_send_47 : decode cX2_send 47 = .ok (.invokevirtual 93, 3) := by decide +kernel
theorem dX2_send_50 : decode cX2_send 50 = .ok (.ireturn, 1) := by decide +kernel
theorem dX2_send_51 : decode cX2_send 51 = .ok (.aload_n 0, 1) := by decide +kernel
theorem dX2_send_52 : decode cX2_send 52 = .ok (.getfield 38, 3) := by decide +kernel
theorem dX2_send_55 : decode cX2_send 55 = .ok (.bipush 12, 2) := by decide +kernel
theorem dX2_send_57 : decode cX2_send 57 = .ok (.if_icmp .eq 11, 3) := by decide +kernel
theorem dX2_send_60 : decode cX2_send 60 = .ok (.aload_n 0, 1) := by decide +kernel
theorem dX2_send_61 : decode cX2_send 61 = .ok (.iload_n 2, 1) := by decide +kernel
theorem dX2_send_62 : decode cX2_send 62 = .ok (.invokevirtual 77, 3) := by decide +kernel
theorem dX2_send_65 : decode cX2_send 65 = .ok (.ifCond .ne 9, 3) := by decide +kernel
theorem dX2_send_68 : decode cX2_send 68 = .ok (.aload_n 0, 1) := by decide +kernel
theorem dX2_send_69 : decode cX2_send 69 = .ok (.iconst 3, 1) := by decide +kernel
theorem dX2_send_70 : decode cX2_send 70 = .ok (.invokevirtual 93, 3) := by decide +kernel
theorem dX2_send_73 : decode cX2_send 73 = .ok (.ireturn, 1) := by decide +kernel
theorem dX2_send_74 : decode cX2_send 74 = .ok (.aload_n 0, 1) := by decide +kernel
theorem dX2_send_75 : decode cX2_send 75 = .ok (.getfield 13, 3) := by decide +kernel
theorem dX2_send_78 : decode cX2_send 78 = .ok (.aload_n 0, 1) := by decide +kernel
theorem dX2_send_79 : decode cX2_send 79 = .ok (.getfield 38, 3) := by decide +kernel
theorem dX2_send_82 : decode cX2_send 82 = .ok (.iload_n 1, 1) := by decide +kernel
theorem dX2_send_83 : decode cX2_send 83 = .ok (.iastore, 1) := by decide +kernel
theorem dX2_send_84 : decode cX2_send 84 = .ok (.aload_n 0, 1) := by decide +kernel
theorem dX2_send_85 : decode cX2_send 85 = .ok (.getfield 17, 3) := by decide +kernel
theorem dX2_send_88 : decode cX2_send 88 = .ok (.aload_n 0, 1) := by decide +kernel
theorem dX2_send_89 : decode cX2_send 89 = .ok (.getfield 38, 3) := by decide +kernel
theorem dX2_send_92 : decode cX2_send 92 = .ok (.iload_n 2, 1) := by decide +kernel
theorem dX2_send_93 : decode cX2_send 93 = .ok (.iastore, 1) := by decide +kernel
theorem dX2_send_94 : decode cX2_send 94 = .ok (.aload_n 0, 1) := by decide +kernel
theorem dX2_send_95 : decode cX2_send 95 = .ok (.getfield 20, 3) := by decide +kernel
theorem dX2_send_98 : decode cX2_send 98 = .ok (.aload_n 0, 1) := by decide +kernel
theorem dX2_send_99 : decode cX2_send 99 = .ok (.getfield 38, 3) := by decide +kernel
theorem dX2_send_102 : decode cX2_send 102 = .ok (.iload_n 3, 1) := by decide +kernel
theorem dX2_send_103 : decode cX2_send 103 = .ok (.iastore, 1) := by decide +kernel
theorem dX2_send_104 : decode cX2_send 104 = .ok (.aload_n 0, 1) := by decide +kernel
theorem dX2_send_105 : decode cX2_send 105 = .ok (.getfield 23, 3) := by decide +kernel
theorem dX2_send_108 : decode cX2_send 108 = .ok (.aload_n 0, 1) := by decide +kernel
theorem dX2_send_109 : decode cX2_send 109 = .ok (.getfield 38, 3) := by decide +kernel
theorem dX2_send_112 : decode cX2_send 112 = .ok (.iload 4, 2) := by decide +kernel
theorem dX2_send_114 : decode cX2_send 114 = .ok (.iastore, 1) := by decide +kernel
theorem dX2_send_115 : decode cX2_send 115 = .ok (.aload_n 0, 1) := by decide +kernel
theorem dX2_send_116 : decode cX2_send 116 = .ok (.getfield 26, 3) := by decide +kernel
theorem dX2_send_119 : decode cX2_send 119 = .ok (.aload_n 0, 1) := by decide +kernel
theorem dX2_send_120 : decode cX2_send 120 = .ok (.getfield 38, 3) := by decide +kernel
theorem dX2_send_123 : decode cX2_send 123 = .ok (.iload_n 2, 1) := by decide +kernel
theorem dX2_send_124 : decode cX2_send 124 = .ok (.iastore, 1) := by decide +kernel
theorem dX2_send_125 : decode cX2_send 125 = .ok (.aload_n 0, 1) := by decide +kernel
theorem dX2_send_126 : decode cX2_send 126 = .ok (.dup, 1) := by decide +kernel
theorem dX2_send_127 : decode cX2_send 127 = .ok (.getfield 38, 3) := by decide +kernel
theorem dX2_send_130 : decode cX2_send 130 = .ok (.iconst 1, 1) := by decide +kernel
theorem dX2_send_131 : decode cX2_send 131 = .ok (.iadd, 1) := by decide +kernel
theorem dX2_send_132 : decode cX2_send 132 = .ok (.putfield 38, 3) := by decide +kernel
theorem dX2_send_135 : decode cX2_send 135 = .ok (.aload_n 0, 1) := by decide +kernel
theorem dX2_send_136 : decode cX2_send 136 = .ok (.getfield 38, 3) := by decide +kernel
theorem dX2_send_139 : decode cX2_send 139 = .ok (.iconst 1, 1) := by decide +kernel
theorem dX2_send_140 : decode cX2_send 140 = .ok (.isub, 1) := by decide +kernel
theorem dX2_send_141 : decode cX2_send 141 = .ok (.ireturn, 1) := by decide +kernel
theorem dX2_close_0 : decode cX2_close 0 = .ok (.iload_n 1, 1) := by decide +kernel
theorem dX2_close_1 : decode cX2_close 1 = .ok (.istore_n 3, 1) := by decide +kernel
theorem dX2_close_2 : decode cX2_close 2 = .ok (.iload_n 3, 1) := by decide +kernel
theorem dX2_close_3 : decode cX2_close 3 = .ok (.iload_n 2, 1) := by decide +kernel
theorem dX2_close_4 : decode cX2_close 4 = .ok (.iconst 1, 1) := by decide +kernel
theorem dX2_close_5 : decode cX2_close 5 = .ok (.isub, 1) := by decide +kernel
theorem dX2_close_6 : decode cX2_close 6 = .ok (.if_icmp .ge 17, 3) := by decide +kernel
theorem dX2_close_9 : decode cX2_close 9 = .ok (.aload_n 0, 1) := by decide +kernel
theorem dX2_close_10 : decode cX2_close 10 = .ok (.iload_n 3, 1) := by decide +kernel
theorem dX2_close_11 : decode cX2_close 11 = .ok (.aload_n 0, 1) := by decide +kernel
theorem dX2_close_12 : decode cX2_close 12 = .ok (.iload_n 3, 1) := by decide +kernel
theorem dX2_close_13 : decode cX2_close 13 = .ok (.iconst 1, 1) := by decide +kernel
theorem dX2_close_14 : decode cX2_close 14 = .ok (.iadd, 1) := by decide +kernel
theorem dX2_close_15 : decode cX2_close 15 = .ok (.iaload, 1) := by decide +kernel
theorem dX2_close_16 : decode cX2_close 16 = .ok (.iastore, 1) := by decide +kernel
theorem dX2_close_17 : decode cX2_close 17 = .ok (.iinc 3 1, 3) := by decide +kernel
theorem dX2_close_20 : decode cX2_close 20 = .ok (.goto (-18), 3) := by decide +kernel
theorem dX2_close_23 : decode cX2_close 23 = .ok (.return_, 1) := by decide +kernel
set_option maxRecDepth 20000 in
theorem ggX2_recall_X2_isDelegate : GoodIn wsX2_recall wsX2_isDelegate := goodIn_r _ [12, 4, 13, 14, 11, 15, 23, 24, 25, 26, 27, 28, 29, 30, 31, 32, 33] (by decide +kernel) (by decide +kernel)
set_option maxRecDepth 20000 in
theorem gX2_recall_X2_isDelegate : GoodIn wsX2_recall (wsV RX2 96 RX2 yX2_isDelegate wsX2_isDelegate) := goodIn_app (goodIn_of _ (by decide +kernel)) ggX2_recall_X2_isDelegate
set_option maxRecDepth 20000 in
theorem ggX2_recall_X2_fail : GoodIn wsX2_recall wsX2_fail := goodIn_r _ [19, 1, 23, 24, 25, 26, 27, 28, 29, 30, 31, 32, 33] (by decide +kernel) (by decide +kernel)
set_option maxRecDepth 20000 in
theorem gX2_recall_X2_fail : GoodIn wsX2_recall (wsV RX2 93 RX2 yX2_fail wsX2_fail) := goodIn_app (goodIn_of _ (by decide +kernel)) ggX2_recall_X2_fail
set_option maxRecDepth 20000 in
theorem ggX2_recall_X2_close : GoodIn wsX2_recall wsX2_close := goodIn_r _ [22] (by decide +kernel) (by decide +kernel)
set_option maxRecDepth 20000 in
theorem gX2_recall_X2_close : GoodIn wsX2_recall (va_wsS RX2 99 yX2_close wsX2_close) := goodIn_app (goodIn_of _ (by decide +kernel)) ggX2_recall_X2_close
theorem dX2_recall_0 : decode cX2_recall 0 = .ok (.aload_n 0, 1) := by decide +kernel
theorem dX2_recall_1 : decode cX2_recall 1 = .ok (.iconst 0, 1) := by decide +kernel
theorem dX2_recall_2 : decode cX2_recall 2 = .ok (.putfield 35, 3) := by decide +kernel
theorem dX2_recall_5 : decode cX2_recall 5 = .ok (.aload_n 0, 1) := by decide +kernel
theorem dX2_recall_6 : decode cX2_recall 6 = .ok (.iload_n 1, 1) := by decide +kernel
theorem dX2_recall_7 : decode cX2_recall 7 = .ok (.invokevirtual 96, 3) := by decide +kernel
theorem dX2_recall_10 : decode cX2_recall 10 = .ok (.ifCond .ne 9, 3) := by decide +kernel
theorem dX2_recall_13 : decode cX2_recall 13 = .ok (.aload_n 0, 1) := by decide +kernel
theorem dX2_recall_14 : decode cX2_recall 14 = .ok (.iconst 1, 1) := by decide +kernel
theorem dX2_recall_15 : decode cX2_recall 15 = .ok (.invokevirtual 93, 3) := by decide +kernel
theorem dX2_recall_18 : decode cX2_recall 18 = .ok (.ireturn, 1) := by decide +kernel
theorem dX2_recall_19 : decode cX2_recall 19 = .ok (.aload_n 0, 1) := by decide +kernel
theorem dX2_recall_20 : decode cX2_recall 20 = .ok (.getfield 26, 3) := by decide +kernel
theorem dX2_recall_23 : decode cX2_recall 23 = .ok (.iload_n 1, 1) := by decide +kernel
theorem dX2_recall_24 : decode cX2_recall 24 = .ok (.iaload, 1) := by decide +kernel
theorem dX2_recall_25 : decode cX2_recall 25 = .ok (.istore_n 2, 1) := by decide +kernel
theorem dX2_recall_26 : decode cX2_recall 26 = .ok (.aload_n 0, 1) := by decide +kernel
theorem dX2_recall_27 : decode cX2_recall 27 = .ok (.getfield 13, 3) := by decide +kernel
theorem dX2_recall_30 : decode cX2_recall 30 = .ok (.iload_n 1, 1) := by decide +kernel
theorem dX2_recall_31 : decode cX2_recall 31 = .ok (.aload_n 0, 1) := by decide +kernel
theorem dX2_recall_32 : decode cX2_recall 32 = .ok (.getfield 38, 3) := by decide +kernel
theorem dX2_recall_35 : decode cX2_recall 35 = .ok (.invokestatic 99, 3) := by decide +kernel
theorem dX2_recall_38 : decode cX2_recall 38 = .ok (.aload_n 0, 1) := by decide +kernel
theorem dX2_recall_39 : decode cX2_recall 39 = .ok (.getfield 17, 3) := by decide +kernel
theorem dX2_recall_42 : decode cX2_recall 42 = .ok (.iload_n 1, 1) := by decide +kernel
theorem dX2_recall_43 : decode cX2_recall 43 = .ok (.aload_n 0, 1) := by decide +kernel
theorem dX2_recall_44 : decode cX2_recall 44 = .ok (.getfield 38, 3) := by decide +kernel
theorem dX2_recall_47 : decode cX2_recall 47 = .ok (.invokestatic 99, 3) := by decide +kernel
theorem dX2_recall_50 : decode cX2_recall 50 = .ok (.aload_n 0, 1) := by decide +kernel
theorem dX2_recall_51 : decode cX2_recall 51 = .ok (.getfield 20, 3) := by decide +kernel
theorem dX2_recall_54 : decode cX2_recall 54 = .ok (.iload_n 1, 1) := by decide +kernel
theorem dX2_recall_55 : decode cX2_recall 55 = .ok (.aload_n 0, 1) := by decide +kernel
theorem dX2_recall_56 : decode cX2_recall 56 = .ok (.getfield 38, 3) := by decide +kernel
theorem dX2_recall_59 : decode cX2_recall 59 = .ok (.invokestatic 99, 3) := by decide +kernel
theorem dX2_recall_62 : decode cX2_recall 62 = .ok (.aload_n 0, 1) := by decide +kernel
theorem dX2_recall_63 : decode cX2_recall 63 = .ok (.getfield 23, 3) := by decide +kernel
theorem dX2_recall_66 : decode cX2_recall 66 = .ok (.iload_n 1, 1) := by decide +kernel
theorem dX2_recall_67 : decode cX2_recall 67 = .ok (.aload_n 0, 1) := by decide +kernel
theorem dX2_recall_68 : decode cX2_recall 68 = .ok (.getfield 38, 3) := by decide +kernel
theorem dX2_recall_71 : decode cX2_recall 71 = .ok (.invokestatic 99, 3) := by decide +kernel
theorem dX2_recall_74 : decode cX2_recall 74 = .ok (.aload_n 0, 1) := by decide +kernel
theorem dX2_recall_75 : decode cX2_recall 75 = .ok (.getfield 26, 3) := by decide +kernel
theorem dX2_recall_78 : decode cX2_recall 78 = .ok (.iload_n 1, 1) := by decide +kernel
theorem dX2_recall_79 : decode cX2_recall 79 = .ok (.aload_n 0, 1) := by decide +kernel
theorem dX2_recall_80 : decode cX2_recall 80 = .ok (.getfield 38, 3) := by decide +kernel
theorem dX2_recall_83 : decode cX2_recall 83 = .ok (.invokestatic 99, 3) := by decide +kernel
theorem dX2_recall_86 : decode cX2_recall 86 = .ok (.aload_n 0, 1) := by decide +kernel
theorem dX2_recall_87 : decode cX2_recall 87 = .ok (.dup, 1) := by decide +kernel
theorem dX2_recall_88 : decode cX2_recall 88 = .ok (.getfield 38, 3) := by decide +kernel
theorem dX2_recall_91 : decode cX2_recall 91 = .ok (.iconst 1, 1) := by decide +kernel
theorem dX2_recall_92 : decode cX2_recall 92 = .ok (.isub, 1) := by decide +kernel
theorem dX2_recall_93 : decode cX2_recall 93 = .ok (.putfield 38, 3) := by decide +kernel
theorem dX2_recall_96 : decode cX2_recall 96 = .ok (.iload_n 2, 1) := by decide +kernel
theorem dX2_recall_97 : decode cX2_recall 97 = .ok (.ireturn, 1) := by decide +kernel
set_option maxRecDepth 20000 in
theorem ggX2_persuade_X2_isDelegate : GoodIn wsX2_persuade wsX2_isDelegate := goodIn_r _ [7, 8, 9, 10, 6, 11, 19, 20, 21, 22, 23, 24, 25, 26, 27, 28, 29] (by decide +kernel) (by decide +kernel)
set_option maxRecDepth 20000 in
theorem gX2_persuade_X2_isDelegate : GoodIn wsX2_persuade (wsV RX2 96 RX2 yX2_isDelegate wsX2_isDelegate) := goodIn_app (goodIn_of _ (by decide +kernel)) ggX2_persuade_X2_isDelegate
set_option maxRecDepth 20000 in
theorem ggX2_persuade_X2_isPlank : GoodIn wsX2_persuade wsX2_isPlank := goodIn_r _ [14, 9, 10, 6, 11] (by decide +kernel) (by decide +kernel)
set_option maxRecDepth 20000 in
theorem gX2_persuade_X2_isPlank : GoodIn wsX2_persuade (va_wsS RX2 90 yX2_isPlank wsX2_isPlank) := goodIn_app (goodIn_of _ (by decide +kernel)) ggX2_persuade_X2_isPlank
set_option maxRecDepth 20000 in
theorem ggX2_persuade_X2_fail : GoodIn wsX2_persuade wsX2_fail := goodIn_r _ [18, 1, 19, 20, 21, 22, 23, 24, 25, 26, 27, 28, 29] (by decide +kernel) (by decide +kernel)
set_option maxRecDepth 20000 in
theorem gX2_persuade_X2_fail : GoodIn wsX2_persuade (wsV RX2 93 RX2 yX2_fail wsX2_fail) := goodIn_app (goodIn_of _ (by decide +kernel)) ggX2_persuade_X2_fail
theorem dX2_persuade_0 : decode cX2_persuade 0 = .ok (.aload_n 0, 1) := by decide +kernel
theorem dX2_persuade_1 : decode cX2_persuade 1 = .ok (.iconst 0, 1) := by decide +kernel
theorem dX2_persuade_2 : decode cX2_persuade 2 = .ok (.putfield 35, 3) := by decide +kernel
theorem dX2_persuade_5 : decode cX2_persuade 5 = .ok (.aload_n 0, 1) := by decide +kernel
theorem dX2_persuade_6 : decode cX2_persuade 6 = .ok (.iload_n 1, 1) := by decide +kernel
theorem dX2_persuade_7 : decode cX2_persuade 7 = .ok (.invokevirtual 96, 3) := by decide +kernel
theorem dX2_persuade_10 : decode cX2_persuade 10 = .ok (.ifCond .eq 10, 3) := by decide +kernel
theorem dX2_persuade_13 : decode cX2_persuade 13 = .ok (.iload_n 2, 1) := by decide +kernel
theorem dX2_persuade_14 : decode cX2_persuade 14 = .ok (.invokestatic 90, 3) := by decide +kernel
theorem dX2_persuade_17 : decode cX2_persuade 17 = .ok (.ifCond .ne 9, 3) := by decide +kernel
theorem dX2_persuade_20 : decode cX2_persuade 20 = .ok (.aload_n 0, 1) := by decide +kernel
theorem dX2_persuade_21 : decode cX2_persuade 21 = .ok (.iconst 1, 1) := by decide +kernel
theorem dX2_persuade_22 : decode cX2_persuade 22 = .ok (.invokevirtual 93, 3) := by decide +kernel
theorem dX2_persuade_25 : decode cX2_persuade 25 = .ok (.ireturn, 1) := by decide +kernel
theorem dX2_persuade_26 : decode cX2_persuade 26 = .ok (.aload_n 0, 1) := by decide +kernel
theorem dX2_persuade_27 : decode cX2_persuade 27 = .ok (.getfield 17, 3) := by decide +kernel
theorem dX2_persuade_30 : decode cX2_persuade 30 = .ok (.iload_n 1, 1) := by decide +kernel
theorem dX2_persuade_31 : decode cX2_persuade 31 = .ok (.iaload, 1) := by decide +kernel
theorem dX2_persuade_32 : decode cX2_persuade 32 = .ok (.istore_n 3, 1) := by decide +kernel
theorem dX2_persuade_33 : decode cX2_persuade 33 = .ok (.aload_n 0, 1) := by decide +kernel
theorem dX2_persuade_34 : decode cX2_persuade 34 = .ok (.getfield 17, 3) := by decide +kernel
theorem dX2_persuade_37 : decode cX2_persuade 37 = .ok (.iload_n 1, 1) := by decide +kernel
theorem dX2_persuade_38 : decode cX2_persuade 38 = .ok (.iload_n 2, 1) := by decide +kernel
theorem dX2_persuade_39 : decode cX2_persuade 39 = .ok (.iastore, 1) := by decide +kernel
theorem dX2_persuade_40 : decode cX2_persuade 40 = .ok (.iload_n 3, 1) := by decide +kernel
theorem dX2_persuade_41 : decode cX2_persuade 41 = .ok (.ireturn, 1) := by decide +kernel
set_option maxRecDepth 20000 in
theorem ggX2_can_X2_isWilling : GoodIn wsX2_can wsX2_isWilling := goodIn_r _ [6, 7, 8, 9, 10, 11, 12, 23, 24, 25, 26, 27, 28, 29, 30, 31, 32, 33] (by decide +kernel) (by decide +kernel)
set_option maxRecDepth 20000 in
theorem gX2_can_X2_isWilling : GoodIn wsX2_can (wsV RX2 103 RX2 yX2_isWilling wsX2_isWilling) := goodIn_app (goodIn_of _ (by decide +kernel)) ggX2_can_X2_isWilling
set_option maxRecDepth 20000 in
theorem ggX2_can_X2_hasRoom : GoodIn wsX2_can wsX2_hasRoom := goodIn_r _ [16, 17, 18, 19, 20, 5, 21, 22, 1, 23, 24, 25, 26, 27, 28, 29, 30, 31, 32, 33] (by decide +kernel) (by decide +kernel)
set_option maxRecDepth 20000 in
theorem gX2_can_X2_hasRoom : GoodIn wsX2_can (wsV RX2 77 RX2 yX2_hasRoom wsX2_hasRoom) := goodIn_app (goodIn_of _ (by decide +kernel)) ggX2_can_X2_hasRoom
theorem dX2_can_0 : decode cX2_can 0 = .ok (.aload_n 0, 1) := by decide +kernel
theorem dX2_can_1 : decode cX2_can 1 = .ok (.iload_n 1, 1) := by decide +kernel
theorem dX2_can_2 : decode cX2_can 2 = .ok (.iload_n 2, 1) := by decide +kernel
theorem dX2_can_3 : decode cX2_can 3 = .ok (.invokevirtual 103, 3) := by decide +kernel
theorem dX2_can_6 : decode cX2_can 6 = .ok (.ifCond .eq 25, 3) := by decide +kernel
theorem dX2_can_9 : decode cX2_can 9 = .ok (.aload_n 0, 1) := by decide +kernel
theorem dX2_can_10 : decode cX2_can 10 = .ok (.getfield 26, 3) := by decide +kernel
theorem dX2_can_13 : decode cX2_can 13 = .ok (.iload_n 1, 1) := by decide +kernel
theorem dX2_can_14 : decode cX2_can 14 = .ok (.iaload, 1) := by decide +kernel
theorem dX2_can_15 : decode cX2_can 15 = .ok (.iload_n 2, 1) := by decide +kernel
theorem dX2_can_16 : decode cX2_can 16 = .ok (.if_icmp .eq 11, 3) := by decide +kernel
theorem dX2_can_19 : decode cX2_can 19 = .ok (.aload_n 0, 1) := by decide +kernel
theorem dX2_can_20 : decode cX2_can 20 = .ok (.iload_n 2, 1) := by decide +kernel
theorem dX2_can_21 : decode cX2_can 21 = .ok (.invokevirtual 77, 3) := by decide +kernel
theorem dX2_can_24 : decode cX2_can 24 = .ok (.ifCond .eq 7, 3) := by decide +kernel
theorem dX2_can_27 : decode cX2_can 27 = .ok (.iconst 1, 1) := by decide +kernel
theorem dX2_can_28 : decode cX2_can 28 = .ok (.goto 4, 3) := by decide +kernel
theorem dX2_can_31 : decode cX2_can 31 = .ok (.iconst 0, 1) := by decide +kernel
theorem dX2_can_32 : decode cX2_can 32 = .ok (.ireturn, 1) := by decide +kernel
set_option maxRecDepth 20000 in
theorem ggX2_lead_X2_isDelegate : GoodIn wsX2_lead wsX2_isDelegate := goodIn_r _ [7, 8, 9, 10, 6, 11, 42, 43, 44, 45, 46, 47, 48, 49, 50, 51, 52] (by decide +kernel) (by decide +kernel)
set_option maxRecDepth 20000 in
theorem gX2_lead_X2_isDelegate : GoodIn wsX2_lead (wsV RX2 96 RX2 yX2_isDelegate wsX2_isDelegate) := goodIn_app (goodIn_of _ (by decide +kernel)) ggX2_lead_X2_isDelegate
set_option maxRecDepth 20000 in
theorem ggX2_lead_X2_isPlank : GoodIn wsX2_lead wsX2_isPlank := goodIn_r _ [14, 9, 10, 6, 11] (by decide +kernel) (by decide +kernel)
set_option maxRecDepth 20000 in
theorem gX2_lead_X2_isPlank : GoodIn wsX2_lead (va_wsS RX2 90 yX2_isPlank wsX2_isPlank) := goodIn_app (goodIn_of _ (by decide +kernel)) ggX2_lead_X2_isPlank
set_option maxRecDepth 20000 in
theorem ggX2_lead_X2_fail : GoodIn wsX2_lead wsX2_fail := goodIn_r _ [18, 1, 42, 43, 44, 45, 46, 47, 48, 49, 50, 51, 52] (by decide +kernel) (by decide +kernel)
set_option maxRecDepth 20000 in
theorem gX2_lead_X2_fail : GoodIn wsX2_lead (wsV RX2 93 RX2 yX2_fail wsX2_fail) := goodIn_app (goodIn_of _ (by decide +kernel)) ggX2_lead_X2_fail
set_option maxRecDepth 20000 in
theorem ggX2_lead_X2_can : GoodIn wsX2_lead wsX2_can := goodIn_r _ [22, 2, 23, 24, 25, 6, 26, 27, 28, 29, 30, 31, 32, 33, 34, 35, 36, 37, 38, 39, 40, 41, 8, 42, 43, 44, 45, 46, 47, 48, 49, 50, 51, 52] (by decide +kernel) (by decide +kernel)
set_option maxRecDepth 20000 in
theorem gX2_lead_X2_can : GoodIn wsX2_lead (wsV RX2 107 RX2 yX2_can wsX2_can) := goodIn_app (goodIn_of _ (by decide +kernel)) ggX2_lead_X2_can
theorem dX2_lead_0 : decode cX2_lead 0 = .ok (.aload_n 0, 1) := by decide +kernel
theorem dX2_lead_1 : decode cX2_lead 1 = .ok (.iconst 0, 1) := by decide +kernel
theorem dX2_lead_2 : decode cX2_lead 2 = .ok (.putfield 35, 3) := by decide +kernel
theorem dX2_lead_5 : decode cX2_lead 5 = .ok (.aload_n 0, 1) := by decide +kernel
theorem dX2_lead_6 : decode cX2_lead 6 = .ok (.iload_n 1, 1) := by decide +kernel
theorem dX2_lead_7 : decode cX2_lead 7 = .ok (.invokevirtual 96, 3) := by decide +kernel
theorem dX2_lead_10 : decode cX2_lead 10 = .ok (.ifCond .eq 10, 3) := by decide +kernel
theorem dX2_lead_13 : decode cX2_lead 13 = .ok (.iload_n 2, 1) := by decide +kernel
theorem dX2_lead_14 : decode cX2_lead 14 = .ok (.invokestatic 90, 3) := by decide +kernel
theorem dX2_lead_17 : decode cX2_lead 17 = .ok (.ifCond .ne 9, 3) := by decide +kernel
theorem dX2_lead_20 : decode cX2_lead 20 = .ok (.aload_n 0, 1) := by decide +kernel
theorem dX2_lead_21 : decode cX2_lead 21 = .ok (.iconst 1, 1) := by decide +kernel
theorem dX2_lead_22 : decode cX2_lead 22 = .ok (.invokevirtual 93, 3) := by decide +kernel
theorem dX2_lead_25 : decode cX2_lead 25 = .ok (.ireturn, 1) := by decide +kernel
theorem dX2_lead_26 : decode cX2_lead 26 = .ok (.aload_n 0, 1) := by decide +kernel
theorem dX2_lead_27 : decode cX2_lead 27 = .ok (.iload_n 1, 1) := by decide +kernel
theorem dX2_lead_28 : decode cX2_lead 28 = .ok (.iload_n 2, 1) := by decide +kernel
theorem dX2_lead_29 : decode cX2_lead 29 = .ok (.invokevirtual 107, 3) := by decide +kernel
theorem dX2_lead_32 : decode cX2_lead 32 = .ok (.ifCond .ne 9, 3) := by decide +kernel
theorem dX2_lead_35 : decode cX2_lead 35 = .ok (.aload_n 0, 1) := by decide +kernel
theorem dX2_lead_36 : decode cX2_lead 36 = .ok (.iconst 2, 1) := by decide +kernel
theorem dX2_lead_37 : decode cX2_lead 37 = .ok (.invokevirtual 93, 3) := by decide +kernel
theorem dX2_lead_40 : decode cX2_lead 40 = .ok (.ireturn, 1) := by decide +kernel
theorem dX2_lead_41 : decode cX2_lead 41 = .ok (.aload_n 0, 1) := by decide +kernel
theorem dX2_lead_42 : decode cX2_lead 42 = .ok (.getfield 26, 3) := by decide +kernel
theorem dX2_lead_45 : decode cX2_lead 45 = .ok (.iload_n 1, 1) := by decide +kernel
theorem dX2_lead_46 : decode cX2_lead 46 = .ok (.iaload, 1) := by decide +kernel
theorem dX2_lead_47 : decode cX2_lead 47 = .ok (.istore_n 3, 1) := by decide +kernel
theorem dX2_lead_48 : decode cX2_lead 48 = .ok (.aload_n 0, 1) := by decide +kernel
theorem dX2_lead_49 : decode cX2_lead 49 = .ok (.getfield 26, 3) := by decide +kernel
theorem dX2_lead_52 : decode cX2_lead 52 = .ok (.iload_n 1, 1) := by decide +kernel
theorem dX2_lead_53 : decode cX2_lead 53 = .ok (.iload_n 2, 1) := by decide +kernel
theorem dX2_lead_54 : decode cX2_lead 54 = .ok (.iastore, 1) := by decide +kernel
theorem dX2_lead_55 : decode cX2_lead 55 = .ok (.iload_n 3, 1) := by decide +kernel
theorem dX2_lead_56 : decode cX2_lead 56 = .ok (.ireturn, 1) := by decide +kernel
set_option maxRecDepth 20000 in
theorem ggX2_setStrength_X2_isIn : GoodIn wsX2_setStrength wsX2_isIn := goodIn_r _ [6] (by decide +kernel) (by decide +kernel)
set_option maxRecDepth 20000 in
theorem gX2_setStrength_X2_isIn : GoodIn wsX2_setStrength (va_wsS RX2 41 yX2_isIn wsX2_isIn) := goodIn_app (goodIn_of _ (by decide +kernel)) ggX2_setStrength_X2_isIn
set_option maxRecDepth 20000 in
theorem ggX2_setStrength_X2_fail : GoodIn wsX2_setStrength wsX2_fail := goodIn_r _ [10, 1, 11, 12, 13, 14, 15, 16, 17, 18, 19, 20, 21] (by decide +kernel) (by decide +kernel)
set_option maxRecDepth 20000 in
theorem gX2_setStrength_X2_fail : GoodIn wsX2_setStrength (wsV RX2 93 RX2 yX2_fail wsX2_fail) := goodIn_app (goodIn_of _ (by decide +kernel)) ggX2_setStrength_X2_fail
theorem dX2_setStrength_0 : decode cX2_setStrength 0 = .ok (.aload_n 0, 1) := by decide +kernel
theorem dX2_setStrength_1 : decode cX2_setStrength 1 = .ok (.iconst 0, 1) := by decide +kernel
theorem dX2_setStrength_2 : decode cX2_setStrength 2 = .ok (.putfield 35, 3) := by decide +kernel
theorem dX2_setStrength_5 : decode cX2_setStrength 5 = .ok (.iload_n 1, 1) := by decide +kernel
theorem dX2_setStrength_6 : decode cX2_setStrength 6 = .ok (.iconst 1, 1) := by decide +kernel
theorem dX2_setStrength_7 : decode cX2_setStrength 7 = .ok (.bipush 12, 2) := by decide +kernel
theorem dX2_setStrength_9 : decode cX2_setStrength 9 = .ok (.invokestatic 41, 3) := by decide +kernel
theorem dX2_setStrength_12 : decode cX2_setStrength 12 = .ok (.ifCond .ne 9, 3) := by decide +kernel
theorem dX2_setStrength_15 : decode cX2_setStrength 15 = .ok (.aload_n 0, 1) := by decide +kernel
theorem dX2_setStrength_16 : decode cX2_setStrength 16 = .ok (.iconst 1, 1) := by decide +kernel
theorem dX2_setStrength_17 : decode cX2_setStrength 17 = .ok (.invokevirtual 93, 3) := by decide +kernel
theorem dX2_setStrength_20 : decode cX2_setStrength 20 = .ok (.ireturn, 1) := by decide +kernel
theorem dX2_setStrength_21 : decode cX2_setStrength 21 = .ok (.aload_n 0, 1) := by decide +kernel
theorem dX2_setStrength_22 : decode cX2_setStrength 22 = .ok (.getfield 7, 3) := by decide +kernel
theorem dX2_setStrength_25 : decode cX2_setStrength 25 = .ok (.istore_n 2, 1) := by decide +kernel
theorem dX2_setStrength_26 : decode cX2_setStrength 26 = .ok (.aload_n 0, 1) := by decide +kernel
theorem dX2_setStrength_27 : decode cX2_setStrength 27 = .ok (.iload_n 1, 1) := by decide +kernel
theorem dX2_setStrength_28 : decode cX2_setStrength 28 = .ok (.putfield 7, 3) := by decide +kernel
theorem dX2_setStrength_31 : decode cX2_setStrength 31 = .ok (.iload_n 2, 1) := by decide +kernel
theorem dX2_setStrength_32 : decode cX2_setStrength 32 = .ok (.ireturn, 1) := by decide +kernel
set_option maxRecDepth 20000 in
theorem ggX2_passRounds_X2_isIn : GoodIn wsX2_passRounds wsX2_isIn := goodIn_r _ [6] (by decide +kernel) (by decide +kernel)
set_option maxRecDepth 20000 in
theorem gX2_passRounds_X2_isIn : GoodIn wsX2_passRounds (va_wsS RX2 41 yX2_isIn wsX2_isIn) := goodIn_app (goodIn_of _ (by decide +kernel)) ggX2_passRounds_X2_isIn
set_option maxRecDepth 20000 in
theorem ggX2_passRounds_X2_fail : GoodIn wsX2_passRounds wsX2_fail := goodIn_r _ [10, 1, 50, 51, 52, 53, 54, 55, 56, 57, 58, 59, 60] (by decide +kernel) (by decide +kernel)
set_option maxRecDepth 20000 in
theorem gX2_passRounds_X2_fail : GoodIn wsX2_passRounds (wsV RX2 93 RX2 yX2_fail wsX2_fail) := goodIn_app (goodIn_of _ (by decide +kernel)) ggX2_passRounds_X2_fail
set_option maxRecDepth 20000 in
theorem ggX2_passRounds_X2_roundOn : GoodIn wsX2_passRounds wsX2_roundOn := goodIn_r _ [14, 15, 16, 17, 18, 19, 5, 20, 21, 22, 23, 24, 25, 26, 27, 28, 29, 30, 31, 32, 33, 34, 35, 36, 37, 38, 39, 40, 41, 42, 43, 44, 45, 46, 47, 48, 49, 50, 51, 52, 53, 54, 55, 56, 57, 58, 59, 60] (by decide +kernel) (by decide +kernel)
set_option maxRecDepth 20000 in
theorem gX2_passRounds_X2_roundOn : GoodIn wsX2_passRounds (wsV RX2 84 RX2 yX2_roundOn wsX2_roundOn) := goodIn_app (goodIn_of _ (by decide +kernel)) ggX2_passRounds_X2_roundOn
theorem dX2_passRounds_0 : decode cX2_passRounds 0 = .ok (.aload_n 0, 1) := by decide +kernel
theorem dX2_passRounds_1 : decode cX2_passRounds 1 = .ok (.iconst 0, 1) := by decide +kernel
theorem dX2_passRounds_2 : decode cX2_passRounds 2 = .ok (.putfield 35, 3) := by decide +kernel
theorem dX2_passRounds_5 : decode cX2_passRounds 5 = .ok (.iload_n 1, 1) := by decide +kernel
theorem dX2_passRounds_6 : decode cX2_passRounds 6 = .ok (.iconst 1, 1) := by decide +kernel
theorem dX2_passRounds_7 : decode cX2_passRounds 7 = .ok (.bipush 50, 2) := by decide +kernel
theorem dX2_passRounds_9 : decode cX2_passRounds 9 = .ok (.invokestatic 41, 3) := by decide +kernel
theorem dX2_passRounds_12 : decode cX2_passRounds 12 = .ok (.ifCond .ne 9, 3) := by decide +kernel
theorem dX2_passRounds_15 : decode cX2_passRounds 15 = .ok (.aload_n 0, 1) := by decide +kernel
theorem dX2_passRounds_16 : decode cX2_passRounds 16 = .ok (.iconst 1, 1) := by decide +kernel
theorem dX2_passRounds_17 : decode cX2_passRounds 17 = .ok (.invokevirtual 93, 3) := by decide +kernel
theorem dX2_passRounds_20 : decode cX2_passRounds 20 = .ok (.ireturn, 1) := by decide +kernel
theorem dX2_passRounds_21 : decode cX2_passRounds 21 = .ok (.iconst 0, 1) := by decide +kernel
theorem dX2_passRounds_22 : decode cX2_passRounds 22 = .ok (.istore_n 2, 1) := by decide +kernel
theorem dX2_passRounds_23 : decode cX2_passRounds 23 = .ok (.iconst 0, 1) := by decide +kernel
theorem dX2_passRounds_24 : decode cX2_passRounds 24 = .ok (.istore_n 3, 1) := by decide +kernel
theorem dX2_passRounds_25 : decode cX2_passRounds 25 = .ok (.iload_n 3, 1) := by decide +kernel
theorem dX2_passRounds_26 : decode cX2_passRounds 26 = .ok (.iload_n 1, 1) := by decide +kernel
theorem dX2_passRounds_27 : decode cX2_passRounds 27 = .ok (.if_icmp .ge 16, 3) := by decide +kernel
theorem dX2_passRounds_30 : decode cX2_passRounds 30 = .ok (.iload_n 2, 1) := by decide +kernel
theorem dX2_passRounds_31 : decode cX2_passRounds 31 = .ok (.aload_n 0, 1) := by decide +kernel
theorem dX2_passRounds_32 : decode cX2_passRounds 32 = .ok (.invokevirtual 84, 3) := by decide +kernel
theorem dX2_passRounds_35 : decode cX2_passRounds 35 = .ok (.iadd, 1) := by decide +kernel
theorem dX2_passRounds_36 : decode cX2_passRounds 36 = .ok (.istore_n 2, 1) := by decide +kernel
theorem dX2_passRounds_37 : decode cX2_passRounds 37 = .ok (.iinc 3 1, 3) := by decide +kernel
theorem dX2_passRounds_40 : decode cX2_passRounds 40 = .ok (.goto (-15), 3) := by decide +kernel
theorem dX2_passRounds_43 : decode cX2_passRounds 43 = .ok (.aload_n 0, 1) := by decide +kernel
theorem dX2_passRounds_44 : decode cX2_passRounds 44 = .ok (.dup, 1) := by decide +kernel
theorem dX2_passRounds_45 : decode cX2_passRounds 45 = .ok (.getfield 110, 3) := by decide +kernel
theorem dX2_passRounds_48 : decode cX2_passRounds 48 = .ok (.iload_n 1, 1) := by decide +kernel
theorem dX2_passRounds_49 : decode cX2_passRounds 49 = .ok (.iadd, 1) := by decide +kernel
theorem dX2_passRounds_50 : decode cX2_passRounds 50 = .ok (.putfield 110, 3) := by decide +kernel
theorem dX2_passRounds_53 : decode cX2_passRounds 53 = .ok (.iload_n 2, 1) := by decide +kernel
theorem dX2_passRounds_54 : decode cX2_passRounds 54 = .ok (.ireturn, 1) := by decide +kernel
set_option maxRecDepth 20000 in
theorem ggX2_delegates_X2_told : GoodIn wsX2_delegates wsX2_told := goodIn_r _ [6, 7, 8, 9, 10, 11, 12, 13, 14, 15, 16, 17, 18] (by decide +kernel) (by decide +kernel)
set_option maxRecDepth 20000 in
theorem gX2_delegates_X2_told : GoodIn wsX2_delegates (wsV RX2 113 RX2 yX2_told wsX2_told) := goodIn_app (goodIn_of _ (by decide +kernel)) ggX2_delegates_X2_told
theorem dX2_delegates_0 : decode cX2_delegates 0 = .ok (.aload_n 0, 1) := by decide +kernel
theorem dX2_delegates_1 : decode cX2_delegates 1 = .ok (.aload_n 0, 1) := by decide +kernel
theorem dX2_delegates_2 : decode cX2_delegates 2 = .ok (.getfield 38, 3) := by decide +kernel
theorem dX2_delegates_5 : decode cX2_delegates 5 = .ok (.invokevirtual 113, 3) := by decide +kernel
theorem dX2_delegates_8 : decode cX2_delegates 8 = .ok (.ireturn, 1) := by decide +kernel
set_option maxRecDepth 20000 in
theorem ggX2_rounds_X2_told : GoodIn wsX2_rounds wsX2_told := goodIn_r _ [6, 7, 8, 9, 10, 11, 12, 13, 14, 15, 16, 17, 18] (by decide +kernel) (by decide +kernel)
set_option maxRecDepth 20000 in
theorem gX2_rounds_X2_told : GoodIn wsX2_rounds (wsV RX2 113 RX2 yX2_told wsX2_told) := goodIn_app (goodIn_of _ (by decide +kernel)) ggX2_rounds_X2_told
theorem dX2_rounds_0 : decode cX2_rounds 0 = .ok (.aload_n 0, 1) := by decide +kernel
theorem dX2_rounds_1 : decode cX2_rounds 1 = .ok (.aload_n 0, 1) := by decide +kernel
theorem dX2_rounds_2 : decode cX2_rounds 2 = .ok (.getfield 110, 3) := by decide +kernel
theorem dX2_rounds_5 : decode cX2_rounds 5 = .ok (.invokevirtual 113, 3) := by decide +kernel
theorem dX2_rounds_8 : decode cX2_rounds 8 = .ok (.ireturn, 1) := by decide +kernel
set_option maxRecDepth 20000 in
theorem ggX2_strength_X2_told : GoodIn wsX2_strength wsX2_told := goodIn_r _ [6, 7, 8, 9, 10, 11, 12, 13, 14, 15, 16, 17, 18] (by decide +kernel) (by decide +kernel)
set_option maxRecDepth 20000 in
theorem gX2_strength_X2_told : GoodIn wsX2_strength (wsV RX2 113 RX2 yX2_told wsX2_told) := goodIn_app (goodIn_of _ (by decide +kernel)) ggX2_strength_X2_told
theorem dX2_strength_0 : decode cX2_strength 0 = .ok (.aload_n 0, 1) := by decide +kernel
theorem dX2_strength_1 : decode cX2_strength 1 = .ok (.aload_n 0, 1) := by decide +kernel
theorem dX2_strength_2 : decode cX2_strength 2 = .ok (.getfield 7, 3) := by decide +kernel
theorem dX2_strength_5 : decode cX2_strength 5 = .ok (.invokevirtual 113, 3) := by decide +kernel
theorem dX2_strength_8 : decode cX2_strength 8 = .ok (.ireturn, 1) := by decide +kernel
set_option maxRecDepth 20000 in
theorem ggX2_of_X2_isDelegate : GoodIn wsX2_of wsX2_isDelegate := goodIn_r _ [6, 7, 8, 9, 5, 10, 15, 16, 17, 18, 19, 20, 21, 22, 23, 24, 25] (by decide +kernel) (by decide +kernel)
set_option maxRecDepth 20000 in
theorem gX2_of_X2_isDelegate : GoodIn wsX2_of (wsV RX2 96 RX2 yX2_isDelegate wsX2_isDelegate) := goodIn_app (goodIn_of _ (by decide +kernel)) ggX2_of_X2_isDelegate
set_option maxRecDepth 20000 in
theorem ggX2_of_X2_fail : GoodIn wsX2_of wsX2_fail := goodIn_r _ [14, 1, 15, 16, 17, 18, 19, 20, 21, 22, 23, 24, 25] (by decide +kernel) (by decide +kernel)
set_option maxRecDepth 20000 in
theorem gX2_of_X2_fail : GoodIn wsX2_of (wsV RX2 93 RX2 yX2_fail wsX2_fail) := goodIn_app (goodIn_of _ (by decide +kernel)) ggX2_of_X2_fail
theorem dX2_of_0 : decode cX2_of 0 = .ok (.aload_n 0, 1) := by decide +kernel
theorem dX2_of_1 : decode cX2_of 1 = .ok (.iconst 0, 1) := by decide +kernel
theorem dX2_of_2 : decode cX2_of 2 = .ok (.putfield 35, 3) := by decide +kernel
theorem dX2_of_5 : decode cX2_of 5 = .ok (.aload_n 0, 1) := by decide +kernel
theorem dX2_of_6 : decode cX2_of 6 = .ok (.iload_n 1, 1) := by decide +kernel
theorem dX2_of_7 : decode cX2_of 7 = .ok (.invokevirtual 96, 3) := by decide +kernel
theorem dX2_of_10 : decode cX2_of 10 = .ok (.ifCond .eq 9, 3) := by decide +kernel
theorem dX2_of_13 : decode cX2_of 13 = .ok (.aload_n 2, 1) := by decide +kernel
theorem dX2_of_14 : decode cX2_of 14 = .ok (.iload_n 1, 1) := by decide +kernel
theorem dX2_of_15 : decode cX2_of 15 = .ok (.iaload, 1) := by decide +kernel
theorem dX2_of_16 : decode cX2_of 16 = .ok (.goto 8, 3) := by decide +kernel
theorem dX2_of_19 : decode cX2_of 19 = .ok (.aload_n 0, 1) := by decide +kernel
theorem dX2_of_20 : decode cX2_of 20 = .ok (.iconst 1, 1) := by decide +kernel
theorem dX2_of_21 : decode cX2_of 21 = .ok (.invokevirtual 93, 3) := by decide +kernel
theorem dX2_of_24 : decode cX2_of 24 = .ok (.ireturn, 1) := by decide +kernel
set_option maxRecDepth 20000 in
theorem ggX2_villageOf_X2_of : GoodIn wsX2_villageOf wsX2_of := goodIn_r _ [6, 7, 8, 9, 10, 5, 11, 12, 13, 14, 15, 16, 17, 18, 19, 20, 21, 22, 23, 24, 25, 26, 27, 28, 29, 30] (by decide +kernel) (by decide +kernel)
set_option maxRecDepth 20000 in
theorem gX2_villageOf_X2_of : GoodIn wsX2_villageOf (wsV RX2 116 RX2 yX2_of wsX2_of) := goodIn_app (goodIn_of _ (by decide +kernel)) ggX2_villageOf_X2_of
theorem dX2_villageOf_0 : decode cX2_villageOf 0 = .ok (.aload_n 0, 1) := by decide +kernel
theorem dX2_villageOf_1 : decode cX2_villageOf 1 = .ok (.iload_n 1, 1) := by decide +kernel
theorem dX2_villageOf_2 : decode cX2_villageOf 2 = .ok (.aload_n 0, 1) := by decide +kernel
theorem dX2_villageOf_3 : decode cX2_villageOf 3 = .ok (.getfield 13, 3) := by decide +kernel
theorem dX2_villageOf_6 : decode cX2_villageOf 6 = .ok (.invokevirtual 116, 3) := by decide +kernel
theorem dX2_villageOf_9 : decode cX2_villageOf 9 = .ok (.ireturn, 1) := by decide +kernel
set_option maxRecDepth 20000 in
theorem ggX2_wishOf_X2_of : GoodIn wsX2_wishOf wsX2_of := goodIn_r _ [6, 7, 8, 9, 10, 5, 11, 12, 13, 14, 15, 16, 17, 18, 19, 20, 21, 22, 23, 24, 25, 26, 27, 28, 29, 30] (by decide +kernel) (by decide +kernel)
set_option maxRecDepth 20000 in
theorem gX2_wishOf_X2_of : GoodIn wsX2_wishOf (wsV RX2 116 RX2 yX2_of wsX2_of) := goodIn_app (goodIn_of _ (by decide +kernel)) ggX2_wishOf_X2_of
theorem dX2_wishOf_0 : decode cX2_wishOf 0 = .ok (.aload_n 0, 1) := by decide +kernel
theorem dX2_wishOf_1 : decode cX2_wishOf 1 = .ok (.iload_n 1, 1) := by decide +kernel
theorem dX2_wishOf_2 : decode cX2_wishOf 2 = .ok (.aload_n 0, 1) := by decide +kernel
theorem dX2_wishOf_3 : decode cX2_wishOf 3 = .ok (.getfield 17, 3) := by decide +kernel
theorem dX2_wishOf_6 : decode cX2_wishOf 6 = .ok (.invokevirtual 116, 3) := by decide +kernel
theorem dX2_wishOf_9 : decode cX2_wishOf 9 = .ok (.ireturn, 1) := by decide +kernel
set_option maxRecDepth 20000 in
theorem ggX2_reachOf_X2_of : GoodIn wsX2_reachOf wsX2_of := goodIn_r _ [6, 7, 8, 9, 10, 5, 11, 12, 13, 14, 15, 16, 17, 18, 19, 20, 21, 22, 23, 24, 25, 26, 27, 28, 29, 30] (by decide +kernel) (by decide +kernel)
set_option maxRecDepth 20000 in
theorem gX2_reachOf_X2_of : GoodIn wsX2_reachOf (wsV RX2 116 RX2 yX2_of wsX2_of) := goodIn_app (goodIn_of _ (by decide +kernel)) ggX2_reachOf_X2_of
theorem dX2_reachOf_0 : decode cX2_reachOf 0 = .ok (.aload_n 0, 1) := by decide +kernel
theorem dX2_reachOf_1 : decode cX2_reachOf 1 = .ok (.iload_n 1, 1) := by decide +kernel
theorem dX2_reachOf_2 : decode cX2_reachOf 2 = .ok (.aload_n 0, 1) := by decide +kernel
theorem dX2_reachOf_3 : decode cX2_reachOf 3 = .ok (.getfield 20, 3) := by decide +kernel
theorem dX2_reachOf_6 : decode cX2_reachOf 6 = .ok (.invokevirtual 116, 3) := by decide +kernel
theorem dX2_reachOf_9 : decode cX2_reachOf 9 = .ok (.ireturn, 1) := by decide +kernel
set_option maxRecDepth 20000 in
theorem ggX2_paceOf_X2_of : GoodIn wsX2_paceOf wsX2_of := goodIn_r _ [6, 7, 8, 9, 10, 5, 11, 12, 13, 14, 15, 16, 17, 18, 19, 20, 21, 22, 23, 24, 25, 26, 27, 28, 29, 30] (by decide +kernel) (by decide +kernel)
set_option maxRecDepth 20000 in
theorem gX2_paceOf_X2_of : GoodIn wsX2_paceOf (wsV RX2 116 RX2 yX2_of wsX2_of) := goodIn_app (goodIn_of _ (by decide +kernel)) ggX2_paceOf_X2_of
theorem dX2_paceOf_0 : decode cX2_paceOf 0 = .ok (.aload_n 0, 1) := by decide +kernel
theorem dX2_paceOf_1 : decode cX2_paceOf 1 = .ok (.iload_n 1, 1) := by decide +kernel
theorem dX2_paceOf_2 : decode cX2_paceOf 2 = .ok (.aload_n 0, 1) := by decide +kernel
theorem dX2_paceOf_3 : decode cX2_paceOf 3 = .ok (.getfield 23, 3) := by decide +kernel
theorem dX2_paceOf_6 : decode cX2_paceOf 6 = .ok (.invokevirtual 116, 3) := by decide +kernel
theorem dX2_paceOf_9 : decode cX2_paceOf 9 = .ok (.ireturn, 1) := by decide +kernel
set_option maxRecDepth 20000 in
theorem ggX2_plankOf_X2_of : GoodIn wsX2_plankOf wsX2_of := goodIn_r _ [6, 7, 8, 9, 10, 5, 11, 12, 13, 14, 15, 16, 17, 18, 19, 20, 21, 22, 23, 24, 25, 26, 27, 28, 29, 30] (by decide +kernel) (by decide +kernel)
set_option maxRecDepth 20000 in
theorem gX2_plankOf_X2_of : GoodIn wsX2_plankOf (wsV RX2 116 RX2 yX2_of wsX2_of) := goodIn_app (goodIn_of _ (by decide +kernel)) ggX2_plankOf_X2_of
theorem dX2_plankOf_0 : decode cX2_plankOf 0 = .ok (.aload_n 0, 1) := by decide +kernel
theorem dX2_plankOf_1 : decode cX2_plankOf 1 = .ok (.iload_n 1, 1) := by decide +kernel
theorem dX2_plankOf_2 : decode cX2_plankOf 2 = .ok (.aload_n 0, 1) := by decide +kernel
theorem dX2_plankOf_3 : decode cX2_plankOf 3 = .ok (.getfield 26, 3) := by decide +kernel
theorem dX2_plankOf_6 : decode cX2_plankOf 6 = .ok (.invokevirtual 116, 3) := by decide +kernel
theorem dX2_plankOf_9 : decode cX2_plankOf 9 = .ok (.ireturn, 1) := by decide +kernel
set_option maxRecDepth 20000 in
theorem ggX2_standingOn_X2_isPlank : GoodIn wsX2_standingOn wsX2_isPlank := goodIn_r _ [5, 6, 7, 4, 8] (by decide +kernel) (by decide +kernel)
set_option maxRecDepth 20000 in
theorem gX2_standingOn_X2_isPlank : GoodIn wsX2_standingOn (va_wsS RX2 90 yX2_isPlank wsX2_isPlank) := goodIn_app (goodIn_of _ (by decide +kernel)) ggX2_standingOn_X2_isPlank
set_option maxRecDepth 20000 in
theorem ggX2_standingOn_X2_standing : GoodIn wsX2_standingOn wsX2_standing := goodIn_r _ [12, 13, 14, 19, 20, 21, 22, 23, 24, 25, 26, 27, 28, 29] (by decide +kernel) (by decide +kernel)
set_option maxRecDepth 20000 in
theorem gX2_standingOn_X2_standing : GoodIn wsX2_standingOn (wsV RX2 51 RX2 yX2_standing wsX2_standing) := goodIn_app (goodIn_of _ (by decide +kernel)) ggX2_standingOn_X2_standing
set_option maxRecDepth 20000 in
theorem ggX2_standingOn_X2_fail : GoodIn wsX2_standingOn wsX2_fail := goodIn_r _ [18, 1, 19, 20, 21, 22, 23, 24, 25, 26, 27, 28, 29] (by decide +kernel) (by decide +kernel)
set_option maxRecDepth 20000 in
theorem gX2_standingOn_X2_fail : GoodIn wsX2_standingOn (wsV RX2 93 RX2 yX2_fail wsX2_fail) := goodIn_app (goodIn_of _ (by decide +kernel)) ggX2_standingOn_X2_fail
theorem dX2_standingOn_0 : decode cX2_standingOn 0 = .ok (.aload_n 0, 1) := by decide +kernel
theorem dX2_standingOn_1 : decode cX2_standingOn 1 = .ok (.iconst 0, 1) := by decide +kernel
theorem dX2_standingOn_2 : decode cX2_standingOn 2 = .ok (.putfield 35, 3) := by decide +kernel
theorem dX2_standingOn_5 : decode cX2_standingOn 5 = .ok (.iload_n 1, 1) := by decide +kernel
theorem dX2_standingOn_6 : decode cX2_standingOn 6 = .ok (.invokestatic 90, 3) := by decide +kernel
theorem dX2_standingOn_9 : decode cX2_standingOn 9 = .ok (.ifCond .eq 11, 3) := by decide +kernel
theorem dX2_standingOn_12 : decode cX2_standingOn 12 = .ok (.aload_n 0, 1) := by decide +kernel
theorem dX2_standingOn_13 : decode cX2_standingOn 13 = .ok (.iload_n 1, 1) := by decide +kernel
theorem dX2_standingOn_14 : decode cX2_standingOn 14 = .ok (.invokevirtual 51, 3) := by decide +kernel
theorem dX2_standingOn_17 : decode cX2_standingOn 17 = .ok (.goto 8, 3) := by decide +kernel
theorem dX2_standingOn_20 : decode cX2_standingOn 20 = .ok (.aload_n 0, 1) := by decide +kernel
theorem dX2_standingOn_21 : decode cX2_standingOn 21 = .ok (.iconst 1, 1) := by decide +kernel
theorem dX2_standingOn_22 : decode cX2_standingOn 22 = .ok (.invokevirtual 93, 3) := by decide +kernel
theorem dX2_standingOn_25 : decode cX2_standingOn 25 = .ok (.ireturn, 1) := by decide +kernel
set_option maxRecDepth 20000 in
theorem ggX2_spread_X2_wide : GoodIn wsX2_spread wsX2_wide := goodIn_r _ [5, 6, 7, 8, 9, 10, 11, 12, 13, 14, 20, 21, 22, 23, 24, 25, 26, 27, 28, 29, 30] (by decide +kernel) (by decide +kernel)
set_option maxRecDepth 20000 in
theorem gX2_spread_X2_wide : GoodIn wsX2_spread (wsV RX2 81 RX2 yX2_wide wsX2_wide) := goodIn_app (goodIn_of _ (by decide +kernel)) ggX2_spread_X2_wide
set_option maxRecDepth 20000 in
theorem ggX2_spread_X2_told : GoodIn wsX2_spread wsX2_told := goodIn_r _ [18, 19, 20, 21, 22, 23, 24, 25, 26, 27, 28, 29, 30] (by decide +kernel) (by decide +kernel)
set_option maxRecDepth 20000 in
theorem gX2_spread_X2_told : GoodIn wsX2_spread (wsV RX2 113 RX2 yX2_told wsX2_told) := goodIn_app (goodIn_of _ (by decide +kernel)) ggX2_spread_X2_told
theorem dX2_spread_0 : decode cX2_spread 0 = .ok (.aload_n 0, 1) := by decide +kernel
theorem dX2_spread_1 : decode cX2_spread 1 = .ok (.aload_n 0, 1) := by decide +kernel
theorem dX2_spread_2 : decode cX2_spread 2 = .ok (.invokevirtual 81, 3) := by decide +kernel
theorem dX2_spread_5 : decode cX2_spread 5 = .ok (.invokevirtual 113, 3) := by decide +kernel
theorem dX2_spread_8 : decode cX2_spread 8 = .ok (.ireturn, 1) := by decide +kernel
set_option maxRecDepth 20000 in
theorem ggX2_isTreaty_X2_agree : GoodIn wsX2_isTreaty wsX2_agree := goodIn_r _ [6, 7, 8, 9, 10, 11, 5, 12, 13, 14, 15, 16, 17, 18, 19, 20, 21, 22, 23, 24, 25, 26, 27, 28, 29, 30, 31] (by decide +kernel) (by decide +kernel)
set_option maxRecDepth 20000 in
theorem gX2_isTreaty_X2_agree : GoodIn wsX2_isTreaty (wsV RX2 120 RX2 yX2_agree wsX2_agree) := goodIn_app (goodIn_of _ (by decide +kernel)) ggX2_isTreaty_X2_agree
theorem dX2_isTreaty_0 : decode cX2_isTreaty 0 = .ok (.aload_n 0, 1) := by decide +kernel
theorem dX2_isTreaty_1 : decode cX2_isTreaty 1 = .ok (.iconst 0, 1) := by decide +kernel
theorem dX2_isTreaty_2 : decode cX2_isTreaty 2 = .ok (.putfield 35, 3) := by decide +kernel
theorem dX2_isTreaty_5 : decode cX2_isTreaty 5 = .ok (.aload_n 0, 1) := by decide +kernel
theorem dX2_isTreaty_6 : decode cX2_isTreaty 6 = .ok (.invokevirtual 120, 3) := by decide +kernel
theorem dX2_isTreaty_9 : decode cX2_isTreaty 9 = .ok (.ireturn, 1) := by decide +kernel
set_option maxRecDepth 20000 in
theorem ggX2_compromise_X2_fail : GoodIn wsX2_compromise wsX2_fail := goodIn_r _ [7, 1, 19, 20, 21, 22, 23, 24, 25, 26, 27, 28, 29] (by decide +kernel) (by decide +kernel)
set_option maxRecDepth 20000 in
theorem gX2_compromise_X2_fail : GoodIn wsX2_compromise (wsV RX2 93 RX2 yX2_fail wsX2_fail) := goodIn_app (goodIn_of _ (by decide +kernel)) ggX2_compromise_X2_fail
set_option maxRecDepth 20000 in
theorem ggX2_compromise_X2_middle : GoodIn wsX2_compromise wsX2_middle := goodIn_r _ [11, 12, 13, 14, 6, 15, 16, 2, 17, 18, 19, 20, 21, 22, 23, 24, 25, 26, 27, 28, 29] (by decide +kernel) (by decide +kernel)
set_option maxRecDepth 20000 in
theorem gX2_compromise_X2_middle : GoodIn wsX2_compromise (wsV RX2 70 RX2 yX2_middle wsX2_middle) := goodIn_app (goodIn_of _ (by decide +kernel)) ggX2_compromise_X2_middle
theorem dX2_compromise_0 : decode cX2_compromise 0 = .ok (.aload_n 0, 1) := by decide +kernel
theorem dX2_compromise_1 : decode cX2_compromise 1 = .ok (.iconst 0, 1) := by decide +kernel
theorem dX2_compromise_2 : decode cX2_compromise 2 = .ok (.putfield 35, 3) := by decide +kernel
theorem dX2_compromise_5 : decode cX2_compromise 5 = .ok (.aload_n 0, 1) := by decide +kernel
theorem dX2_compromise_6 : decode cX2_compromise 6 = .ok (.getfield 38, 3) := by decide +kernel
theorem dX2_compromise_9 : decode cX2_compromise 9 = .ok (.ifCond .ne 11, 3) := by decide +kernel
theorem dX2_compromise_12 : decode cX2_compromise 12 = .ok (.aload_n 0, 1) := by decide +kernel
theorem dX2_compromise_13 : decode cX2_compromise 13 = .ok (.iconst 1, 1) := by decide +kernel
theorem dX2_compromise_14 : decode cX2_compromise 14 = .ok (.invokevirtual 93, 3) := by decide +kernel
theorem dX2_compromise_17 : decode cX2_compromise 17 = .ok (.goto 7, 3) := by decide +kernel
theorem dX2_compromise_20 : decode cX2_compromise 20 = .ok (.aload_n 0, 1) := by decide +kernel
theorem dX2_compromise_21 : decode cX2_compromise 21 = .ok (.invokevirtual 70, 3) := by decide +kernel
theorem dX2_compromise_24 : decode cX2_compromise 24 = .ok (.ireturn, 1) := by decide +kernel
set_option maxRecDepth 20000 in
theorem ggX2_compromiseOf_X2_isVillage : GoodIn wsX2_compromiseOf wsX2_isVillage := goodIn_r _ [5, 6, 7, 4, 8] (by decide +kernel) (by decide +kernel)
set_option maxRecDepth 20000 in
theorem gX2_compromiseOf_X2_isVillage : GoodIn wsX2_compromiseOf (va_wsS RX2 87 yX2_isVillage wsX2_isVillage) := goodIn_app (goodIn_of _ (by decide +kernel)) ggX2_compromiseOf_X2_isVillage
set_option maxRecDepth 20000 in
theorem ggX2_compromiseOf_X2_fail : GoodIn wsX2_compromiseOf wsX2_fail := goodIn_r _ [12, 1, 21, 22, 23, 24, 25, 26, 27, 28, 29, 30, 31] (by decide +kernel) (by decide +kernel)
set_option maxRecDepth 20000 in
theorem gX2_compromiseOf_X2_fail : GoodIn wsX2_compromiseOf (wsV RX2 93 RX2 yX2_fail wsX2_fail) := goodIn_app (goodIn_of _ (by decide +kernel)) ggX2_compromiseOf_X2_fail
set_option maxRecDepth 20000 in
theorem ggX2_compromiseOf_X2_median : GoodIn wsX2_compromiseOf wsX2_median := goodIn_r _ [16, 17, 18, 19, 20, 21, 22, 23, 24, 25, 26, 27, 28, 29, 30, 31] (by decide +kernel) (by decide +kernel)
set_option maxRecDepth 20000 in
theorem gX2_compromiseOf_X2_median : GoodIn wsX2_compromiseOf (wsV RX2 60 RX2 yX2_median wsX2_median) := goodIn_app (goodIn_of _ (by decide +kernel)) ggX2_compromiseOf_X2_median
theorem dX2_compromiseOf_0 : decode cX2_compromiseOf 0 = .ok (.aload_n 0, 1) := by decide +kernel
theorem dX2_compromiseOf_1 : decode cX2_compromiseOf 1 = .ok (.iconst 0, 1) := by decide +kernel
theorem dX2_compromiseOf_2 : decode cX2_compromiseOf 2 = .ok (.putfield 35, 3) := by decide +kernel
theorem dX2_compromiseOf_5 : decode cX2_compromiseOf 5 = .ok (.iload_n 1, 1) := by decide +kernel
theorem dX2_compromiseOf_6 : decode cX2_compromiseOf 6 = .ok (.invokestatic 87, 3) := by decide +kernel
theorem dX2_compromiseOf_9 : decode cX2_compromiseOf 9 = .ok (.ifCond .ne 9, 3) := by decide +kernel
theorem dX2_compromiseOf_12 : decode cX2_compromiseOf 12 = .ok (.aload_n 0, 1) := by decide +kernel
theorem dX2_compromiseOf_13 : decode cX2_compromiseOf 13 = .ok (.iconst 1, 1) := by decide +kernel
theorem dX2_compromiseOf_14 : decode cX2_compromiseOf 14 = .ok (.invokevirtual 93, 3) := by decide +kernel
theorem dX2_compromiseOf_17 : decode cX2_compromiseOf 17 = .ok (.ireturn, 1) := by decide +kernel
theorem dX2_compromiseOf_18 : decode cX2_compromiseOf 18 = .ok (.aload_n 0, 1) := by decide +kernel
theorem dX2_compromiseOf_19 : decode cX2_compromiseOf 19 = .ok (.iload_n 1, 1) := by decide +kernel
theorem dX2_compromiseOf_20 : decode cX2_compromiseOf 20 = .ok (.iconst (-1), 1) := by decide +kernel
theorem dX2_compromiseOf_21 : decode cX2_compromiseOf 21 = .ok (.invokevirtual 60, 3) := by decide +kernel
theorem dX2_compromiseOf_24 : decode cX2_compromiseOf 24 = .ok (.istore_n 2, 1) := by decide +kernel
theorem dX2_compromiseOf_25 : decode cX2_compromiseOf 25 = .ok (.iload_n 2, 1) := by decide +kernel
theorem dX2_compromiseOf_26 : decode cX2_compromiseOf 26 = .ok (.iconst (-1), 1) := by decide +kernel
theorem dX2_compromiseOf_27 : decode cX2_compromiseOf 27 = .ok (.if_icmp .ne 11, 3) := by decide +kernel
theorem dX2_compromiseOf_30 : decode cX2_compromiseOf 30 = .ok (.aload_n 0, 1) := by decide +kernel
theorem dX2_compromiseOf_31 : decode cX2_compromiseOf 31 = .ok (.iconst 2, 1) := by decide +kernel
theorem dX2_compromiseOf_32 : decode cX2_compromiseOf 32 = .ok (.invokevirtual 93, 3) := by decide +kernel
theorem dX2_compromiseOf_35 : decode cX2_compromiseOf 35 = .ok (.goto 4, 3) := by decide +kernel
theorem dX2_compromiseOf_38 : decode cX2_compromiseOf 38 = .ok (.iload_n 2, 1) := by decide +kernel
theorem dX2_compromiseOf_39 : decode cX2_compromiseOf 39 = .ok (.ireturn, 1) := by decide +kernel
set_option maxRecDepth 20000 in
theorem ggX2_compromiseWithout_X2_isDelegate : GoodIn wsX2_compromiseWithout wsX2_isDelegate := goodIn_r _ [7, 2, 8, 9, 6, 10, 22, 23, 24, 25, 26, 27, 28, 29, 30, 31, 32] (by decide +kernel) (by decide +kernel)
set_option maxRecDepth 20000 in
theorem gX2_compromiseWithout_X2_isDelegate : GoodIn wsX2_compromiseWithout (wsV RX2 96 RX2 yX2_isDelegate wsX2_isDelegate) := goodIn_app (goodIn_of _ (by decide +kernel)) ggX2_compromiseWithout_X2_isDelegate
set_option maxRecDepth 20000 in
theorem ggX2_compromiseWithout_X2_fail : GoodIn wsX2_compromiseWithout wsX2_fail := goodIn_r _ [14, 1, 22, 23, 24, 25, 26, 27, 28, 29, 30, 31, 32] (by decide +kernel) (by decide +kernel)
set_option maxRecDepth 20000 in
theorem gX2_compromiseWithout_X2_fail : GoodIn wsX2_compromiseWithout (wsV RX2 93 RX2 yX2_fail wsX2_fail) := goodIn_app (goodIn_of _ (by decide +kernel)) ggX2_compromiseWithout_X2_fail
set_option maxRecDepth 20000 in
theorem ggX2_compromiseWithout_X2_median : GoodIn wsX2_compromiseWithout wsX2_median := goodIn_r _ [18, 19, 2, 20, 21, 22, 23, 24, 25, 26, 27, 28, 29, 30, 31, 32] (by decide +kernel) (by decide +kernel)
set_option maxRecDepth 20000 in
theorem gX2_compromiseWithout_X2_median : GoodIn wsX2_compromiseWithout (wsV RX2 60 RX2 yX2_median wsX2_median) := goodIn_app (goodIn_of _ (by decide +kernel)) ggX2_compromiseWithout_X2_median
theorem dX2_compromiseWithout_0 : decode cX2_compromiseWithout 0 = .ok (.aload_n 0, 1) := by decide +kernel
theorem dX2_compromiseWithout_1 : decode cX2_compromiseWithout 1 = .ok (.iconst 0, 1) := by decide +kernel
theorem dX2_compromiseWithout_2 : decode cX2_compromiseWithout 2 = .ok (.putfield 35, 3) := by decide +kernel
theorem dX2_compromiseWithout_5 : decode cX2_compromiseWithout 5 = .ok (.aload_n 0, 1) := by decide +kernel
theorem dX2_compromiseWithout_6 : decode cX2_compromiseWithout 6 = .ok (.iload_n 1, 1) := by decide +kernel
theorem dX2_compromiseWithout_7 : decode cX2_compromiseWithout 7 = .ok (.invokevirtual 96, 3) := by decide +kernel
theorem dX2_compromiseWithout_10 : decode cX2_compromiseWithout 10 = .ok (.ifCond .ne 9, 3) := by decide +kernel
theorem dX2_compromiseWithout_13 : decode cX2_compromiseWithout 13 = .ok (.aload_n 0, 1) := by decide +kernel
theorem dX2_compromiseWithout_14 : decode cX2_compromiseWithout 14 = .ok (.iconst 1, 1) := by decide +kernel
theorem dX2_compromiseWithout_15 : decode cX2_compromiseWithout 15 = .ok (.invokevirtual 93, 3) := by decide +kernel
theorem dX2_compromiseWithout_18 : decode cX2_compromiseWithout 18 = .ok (.ireturn, 1) := by decide +kernel
theorem dX2_compromiseWithout_19 : decode cX2_compromiseWithout 19 = .ok (.aload_n 0, 1) := by decide +kernel
theorem dX2_compromiseWithout_20 : decode cX2_compromiseWithout 20 = .ok (.getfield 38, 3) := by decide +kernel
theorem dX2_compromiseWithout_23 : decode cX2_compromiseWithout 23 = .ok (.iconst 1, 1) := by decide +kernel
theorem dX2_compromiseWithout_24 : decode cX2_compromiseWithout 24 = .ok (.if_icmp .ne 11, 3) := by decide +kernel
theorem dX2_compromiseWithout_27 : decode cX2_compromiseWithout 27 = .ok (.aload_n 0, 1) := by decide +kernel
theorem dX2_compromiseWithout_28 : decode cX2_compromiseWithout 28 = .ok (.iconst 2, 1) := by decide +kernel
theorem dX2_compromiseWithout_29 : decode cX2_compromiseWithout 29 = .ok (.invokevirtual 93, 3) := by decide +kernel
theorem dX2_compromiseWithout_32 : decode cX2_compromiseWithout 32 = .ok (.goto 9, 3) := by decide +kernel
theorem dX2_compromiseWithout_35 : decode cX2_compromiseWithout 35 = .ok (.aload_n 0, 1) := by decide +kernel
theorem dX2_compromiseWithout_36 : decode cX2_compromiseWithout 36 = .ok (.iconst (-1), 1) := by decide +kernel
theorem dX2_compromiseWithout_37 : decode cX2_compromiseWithout 37 = .ok (.iload_n 1, 1) := by decide +kernel
theorem dX2_compromiseWithout_38 : decode cX2_compromiseWithout 38 = .ok (.invokevirtual 60, 3) := by decide +kernel
theorem dX2_compromiseWithout_41 : decode cX2_compromiseWithout 41 = .ok (.ireturn, 1) := by decide +kernel
set_option maxRecDepth 20000 in
theorem ggX2_decisive_X2_middle : GoodIn wsX2_decisive wsX2_middle := goodIn_r _ [6, 7, 8, 9, 5, 10, 11, 12, 13, 1, 14, 15, 16, 17, 18, 19, 20, 21, 22, 23, 24] (by decide +kernel) (by decide +kernel)
set_option maxRecDepth 20000 in
theorem gX2_decisive_X2_middle : GoodIn wsX2_decisive (wsV RX2 70 RX2 yX2_middle wsX2_middle) := goodIn_app (goodIn_of _ (by decide +kernel)) ggX2_decisive_X2_middle
theorem dX2_decisive_0 : decode cX2_decisive 0 = .ok (.aload_n 0, 1) := by decide +kernel
theorem dX2_decisive_1 : decode cX2_decisive 1 = .ok (.invokevirtual 70, 3) := by decide +kernel
theorem dX2_decisive_4 : decode cX2_decisive 4 = .ok (.istore_n 1, 1) := by decide +kernel
theorem dX2_decisive_5 : decode cX2_decisive 5 = .ok (.iconst 0, 1) := by decide +kernel
theorem dX2_decisive_6 : decode cX2_decisive 6 = .ok (.istore_n 2, 1) := by decide +kernel
theorem dX2_decisive_7 : decode cX2_decisive 7 = .ok (.aload_n 0, 1) := by decide +kernel
theorem dX2_decisive_8 : decode cX2_decisive 8 = .ok (.getfield 26, 3) := by decide +kernel
theorem dX2_decisive_11 : decode cX2_decisive 11 = .ok (.iload_n 2, 1) := by decide +kernel
theorem dX2_decisive_12 : decode cX2_decisive 12 = .ok (.iaload, 1) := by decide +kernel
theorem dX2_decisive_13 : decode cX2_decisive 13 = .ok (.iload_n 1, 1) := by decide +kernel
theorem dX2_decisive_14 : decode cX2_decisive 14 = .ok (.if_icmp .eq 9, 3) := by decide +kernel
theorem dX2_decisive_17 : decode cX2_decisive 17 = .ok (.iinc 2 1, 3) := by decide +kernel
theorem dX2_decisive_20 : decode cX2_decisive 20 = .ok (.goto (-13), 3) := by decide +kernel
theorem dX2_decisive_23 : decode cX2_decisive 23 = .ok (.iload_n 2, 1) := by decide +kernel
theorem dX2_decisive_24 : decode cX2_decisive 24 = .ok (.ireturn, 1) := by decide +kernel
set_option maxRecDepth 20000 in
theorem ggX2_decisiveOne_X2_fail : GoodIn wsX2_decisiveOne wsX2_fail := goodIn_r _ [7, 1, 23, 24, 25, 26, 27, 28, 29, 30, 31, 32, 33] (by decide +kernel) (by decide +kernel)
set_option maxRecDepth 20000 in
theorem gX2_decisiveOne_X2_fail : GoodIn wsX2_decisiveOne (wsV RX2 93 RX2 yX2_fail wsX2_fail) := goodIn_app (goodIn_of _ (by decide +kernel)) ggX2_decisiveOne_X2_fail
set_option maxRecDepth 20000 in
theorem ggX2_decisiveOne_X2_decisive : GoodIn wsX2_decisiveOne wsX2_decisive := goodIn_r _ [11, 12, 13, 14, 15, 6, 16, 17, 18, 19, 20, 21, 2, 22, 23, 24, 25, 26, 27, 28, 29, 30, 31, 32, 33] (by decide +kernel) (by decide +kernel)
set_option maxRecDepth 20000 in
theorem gX2_decisiveOne_X2_decisive : GoodIn wsX2_decisiveOne (wsV RX2 124 RX2 yX2_decisive wsX2_decisive) := goodIn_app (goodIn_of _ (by decide +kernel)) ggX2_decisiveOne_X2_decisive
theorem dX2_decisiveOne_0 : decode cX2_decisiveOne 0 = .ok (.aload_n 0, 1) := by decide +kernel
theorem dX2_decisiveOne_1 : decode cX2_decisiveOne 1 = .ok (.iconst 0, 1) := by decide +kernel
theorem dX2_decisiveOne_2 : decode cX2_decisiveOne 2 = .ok (.putfield 35, 3) := by decide +kernel
theorem dX2_decisiveOne_5 : decode cX2_decisiveOne 5 = .ok (.aload_n 0, 1) := by decide +kernel
theorem dX2_decisiveOne_6 : decode cX2_decisiveOne 6 = .ok (.getfield 38, 3) := by decide +kernel
theorem dX2_decisiveOne_9 : decode cX2_decisiveOne 9 = .ok (.ifCond .ne 11, 3) := by decide +kernel
theorem dX2_decisiveOne_12 : decode cX2_decisiveOne 12 = .ok (.aload_n 0, 1) := by decide +kernel
theorem dX2_decisiveOne_13 : decode cX2_decisiveOne 13 = .ok (.iconst 1, 1) := by decide +kernel
theorem dX2_decisiveOne_14 : decode cX2_decisiveOne 14 = .ok (.invokevirtual 93, 3) := by decide +kernel
theorem dX2_decisiveOne_17 : decode cX2_decisiveOne 17 = .ok (.goto 7, 3) := by decide +kernel
theorem dX2_decisiveOne_20 : decode cX2_decisiveOne 20 = .ok (.aload_n 0, 1) := by decide +kernel
theorem dX2_decisiveOne_21 : decode cX2_decisiveOne 21 = .ok (.invokevirtual 124, 3) := by decide +kernel
theorem dX2_decisiveOne_24 : decode cX2_decisiveOne 24 = .ok (.ireturn, 1) := by decide +kernel
theorem dX2_apart_0 : decode cX2_apart 0 = .ok (.aload_n 0, 1) := by decide +kernel
theorem dX2_apart_1 : decode cX2_apart 1 = .ok (.getfield 17, 3) := by decide +kernel
theorem dX2_apart_4 : decode cX2_apart 4 = .ok (.iload_n 1, 1) := by decide +kernel
theorem dX2_apart_5 : decode cX2_apart 5 = .ok (.iaload, 1) := by decide +kernel
theorem dX2_apart_6 : decode cX2_apart 6 = .ok (.iload_n 2, 1) := by decide +kernel
theorem dX2_apart_7 : decode cX2_apart 7 = .ok (.isub, 1) := by decide +kernel
theorem dX2_apart_8 : decode cX2_apart 8 = .ok (.invokestatic 55, 3) := by decide +kernel
theorem dX2_apart_11 : decode cX2_apart 11 = .ok (.ireturn, 1) := by decide +kernel
set_option maxRecDepth 20000 in
theorem ggX2_discontentOf_X2_isDelegate : GoodIn wsX2_discontentOf wsX2_isDelegate := goodIn_r _ [6, 7, 8, 9, 5, 10, 35, 36, 37, 38, 39, 40, 41, 42, 43, 44, 45] (by decide +kernel) (by decide +kernel)
set_option maxRecDepth 20000 in
theorem gX2_discontentOf_X2_isDelegate : GoodIn wsX2_discontentOf (wsV RX2 96 RX2 yX2_isDelegate wsX2_isDelegate) := goodIn_app (goodIn_of _ (by decide +kernel)) ggX2_discontentOf_X2_isDelegate
set_option maxRecDepth 20000 in
theorem ggX2_discontentOf_X2_middle : GoodIn wsX2_discontentOf wsX2_middle := goodIn_r _ [14, 15, 16, 17, 5, 18, 19, 7, 20, 21, 35, 36, 37, 38, 39, 40, 41, 42, 43, 44, 45] (by decide +kernel) (by decide +kernel)
set_option maxRecDepth 20000 in
theorem gX2_discontentOf_X2_middle : GoodIn wsX2_discontentOf (wsV RX2 70 RX2 yX2_middle wsX2_middle) := goodIn_app (goodIn_of _ (by decide +kernel)) ggX2_discontentOf_X2_middle
set_option maxRecDepth 20000 in
theorem ggX2_discontentOf_X2_apart : GoodIn wsX2_discontentOf wsX2_apart := goodIn_r _ [25, 26, 27, 28, 29, 30, 35, 36, 37, 38, 39, 40, 41, 42, 43, 44, 45] (by decide +kernel) (by decide +kernel)
set_option maxRecDepth 20000 in
theorem gX2_discontentOf_X2_apart : GoodIn wsX2_discontentOf (wsV RX2 127 RX2 yX2_apart wsX2_apart) := goodIn_app (goodIn_of _ (by decide +kernel)) ggX2_discontentOf_X2_apart
set_option maxRecDepth 20000 in
theorem ggX2_discontentOf_X2_fail : GoodIn wsX2_discontentOf wsX2_fail := goodIn_r _ [34, 1, 35, 36, 37, 38, 39, 40, 41, 42, 43, 44, 45] (by decide +kernel) (by decide +kernel)
set_option maxRecDepth 20000 in
theorem gX2_discontentOf_X2_fail : GoodIn wsX2_discontentOf (wsV RX2 93 RX2 yX2_fail wsX2_fail) := goodIn_app (goodIn_of _ (by decide +kernel)) ggX2_discontentOf_X2_fail
theorem dX2_discontentOf_0 : decode cX2_discontentOf 0 = .ok (.aload_n 0, 1) := by decide +kernel
theorem dX2_discontentOf_1 : decode cX2_discontentOf 1 = .ok (.iconst 0, 1) := by decide +kernel
theorem dX2_discontentOf_2 : decode cX2_discontentOf 2 = .ok (.putfield 35, 3) := by decide +kernel
theorem dX2_discontentOf_5 : decode cX2_discontentOf 5 = .ok (.aload_n 0, 1) := by decide +kernel
theorem dX2_discontentOf_6 : decode cX2_discontentOf 6 = .ok (.iload_n 1, 1) := by decide +kernel
theorem dX2_discontentOf_7 : decode cX2_discontentOf 7 = .ok (.invokevirtual 96, 3) := by decide +kernel
theorem dX2_discontentOf_10 : decode cX2_discontentOf 10 = .ok (.ifCond .eq 15, 3) := by decide +kernel
theorem dX2_discontentOf_13 : decode cX2_discontentOf 13 = .ok (.aload_n 0, 1) := by decide +kernel
theorem dX2_discontentOf_14 : decode cX2_discontentOf 14 = .ok (.iload_n 1, 1) := by decide +kernel
theorem dX2_discontentOf_15 : decode cX2_discontentOf 15 = .ok (.aload_n 0, 1) := by decide +kernel
theorem dX2_discontentOf_16 : decode cX2_discontentOf 16 = .ok (.invokevirtual 70, 3) := by decide +kernel
theorem dX2_discontentOf_19 : decode cX2_discontentOf 19 = .ok (.invokevirtual 127, 3) := by decide +kernel
theorem dX2_discontentOf_22 : decode cX2_discontentOf 22 = .ok (.goto 8, 3) := by decide +kernel
theorem dX2_discontentOf_25 : decode cX2_discontentOf 25 = .ok (.aload_n 0, 1) := by decide +kernel
theorem dX2_discontentOf_26 : decode cX2_discontentOf 26 = .ok (.iconst 1, 1) := by decide +kernel
theorem dX2_discontentOf_27 : decode cX2_discontentOf 27 = .ok (.invokevirtual 93, 3) := by decide +kernel
theorem dX2_discontentOf_30 : decode cX2_discontentOf 30 = .ok (.ireturn, 1) := by decide +kernel
set_option maxRecDepth 20000 in
theorem ggX2_allApart_X2_apart : GoodIn wsX2_allApart wsX2_apart := goodIn_r _ [6, 7, 8, 9, 10, 11, 12, 13, 14, 15, 16, 17, 18, 19, 20, 21, 22] (by decide +kernel) (by decide +kernel)
set_option maxRecDepth 20000 in
theorem gX2_allApart_X2_apart : GoodIn wsX2_allApart (wsV RX2 127 RX2 yX2_apart wsX2_apart) := goodIn_app (goodIn_of _ (by decide +kernel)) ggX2_allApart_X2_apart
theorem dX2_allApart_0 : decode cX2_allApart 0 = .ok (.iconst 0, 1) := by decide +kernel
theorem dX2_allApart_1 : decode cX2_allApart 1 = .ok (.istore_n 2, 1) := by decide +kernel
theorem dX2_allApart_2 : decode cX2_allApart 2 = .ok (.iconst 0, 1) := by decide +kernel
theorem dX2_allApart_3 : decode cX2_allApart 3 = .ok (.istore_n 3, 1) := by decide +kernel
theorem dX2_allApart_4 : decode cX2_allApart 4 = .ok (.iload_n 3, 1) := by decide +kernel
theorem dX2_allApart_5 : decode cX2_allApart 5 = .ok (.aload_n 0, 1) := by decide +kernel
theorem dX2_allApart_6 : decode cX2_allApart 6 = .ok (.getfield 38, 3) := by decide +kernel
theorem dX2_allApart_9 : decode cX2_allApart 9 = .ok (.if_icmp .ge 18, 3) := by decide +kernel
theorem dX2_allApart_12 : decode cX2_allApart 12 = .ok (.iload_n 2, 1) := by decide +kernel
theorem dX2_allApart_13 : decode cX2_allApart 13 = .ok (.aload_n 0, 1) := by decide +kernel
theorem dX2_allApart_14 : decode cX2_allApart 14 = .ok (.iload_n 3, 1) := by decide +kernel
theorem dX2_allApart_15 : decode cX2_allApart 15 = .ok (.iload_n 1, 1) := by decide +kernel
theorem dX2_allApart_16 : decode cX2_allApart 16 = .ok (.invokevirtual 127, 3) := by decide +kernel
theorem dX2_allApart_19 : decode cX2_allApart 19 = .ok (.iadd, 1) := by decide +kernel
theorem dX2_allApart_20 : decode cX2_allApart 20 = .ok (.istore_n 2, 1) := by decide +kernel
theorem dX2_allApart_21 : decode cX2_allApart 21 = .ok (.iinc 3 1, 3) := by decide +kernel
theorem dX2_allApart_24 : decode cX2_allApart 24 = .ok (.goto (-20), 3) := by decide +kernel
theorem dX2_allApart_27 : decode cX2_allApart 27 = .ok (.iload_n 2, 1) := by decide +kernel
theorem dX2_allApart_28 : decode cX2_allApart 28 = .ok (.ireturn, 1) := by decide +kernel
set_option maxRecDepth 20000 in
theorem ggX2_allDiscontent_X2_middle : GoodIn wsX2_allDiscontent wsX2_middle := goodIn_r _ [5, 6, 7, 8, 4, 9, 10, 11, 12, 13, 32, 33, 34, 35, 36, 37, 38, 39, 40, 41, 42] (by decide +kernel) (by decide +kernel)
set_option maxRecDepth 20000 in
theorem gX2_allDiscontent_X2_middle : GoodIn wsX2_allDiscontent (wsV RX2 70 RX2 yX2_middle wsX2_middle) := goodIn_app (goodIn_of _ (by decide +kernel)) ggX2_allDiscontent_X2_middle
set_option maxRecDepth 20000 in
theorem ggX2_allDiscontent_X2_allApart : GoodIn wsX2_allDiscontent wsX2_allApart := goodIn_r _ [17, 11, 18, 19, 20, 4, 21, 22, 23, 24, 25, 26, 32, 33, 34, 35, 36, 37, 38, 39, 40, 41, 42] (by decide +kernel) (by decide +kernel)
set_option maxRecDepth 20000 in
theorem gX2_allDiscontent_X2_allApart : GoodIn wsX2_allDiscontent (wsV RX2 130 RX2 yX2_allApart wsX2_allApart) := goodIn_app (goodIn_of _ (by decide +kernel)) ggX2_allDiscontent_X2_allApart
set_option maxRecDepth 20000 in
theorem ggX2_allDiscontent_X2_told : GoodIn wsX2_allDiscontent wsX2_told := goodIn_r _ [30, 31, 32, 33, 34, 35, 36, 37, 38, 39, 40, 41, 42] (by decide +kernel) (by decide +kernel)
set_option maxRecDepth 20000 in
theorem gX2_allDiscontent_X2_told : GoodIn wsX2_allDiscontent (wsV RX2 113 RX2 yX2_told wsX2_told) := goodIn_app (goodIn_of _ (by decide +kernel)) ggX2_allDiscontent_X2_told
theorem dX2_allDiscontent_0 : decode cX2_allDiscontent 0 = .ok (.aload_n 0, 1) := by decide +kernel
theorem dX2_allDiscontent_1 : decode cX2_allDiscontent 1 = .ok (.aload_n 0, 1) := by decide +kernel
theorem dX2_allDiscontent_2 : decode cX2_allDiscontent 2 = .ok (.aload_n 0, 1) := by decide +kernel
theorem dX2_allDiscontent_3 : decode cX2_allDiscontent 3 = .ok (.invokevirtual 70, 3) := by decide +kernel
theorem dX2_allDiscontent_6 : decode cX2_allDiscontent 6 = .ok (.invokevirtual 130, 3) := by decide +kernel
theorem dX2_allDiscontent_9 : decode cX2_allDiscontent 9 = .ok (.invokevirtual 113, 3) := by decide +kernel
theorem dX2_allDiscontent_12 : decode cX2_allDiscontent 12 = .ok (.ireturn, 1) := by decide +kernel
set_option maxRecDepth 20000 in
theorem ggX2_best_X2_allApart : GoodIn wsX2_best wsX2_allApart := goodIn_r _ [5, 6, 7, 8, 9, 4, 10, 11, 12, 13, 14, 15, 16, 17, 18, 19, 20, 21, 22, 23, 24, 25, 26] (by decide +kernel) (by decide +kernel)
set_option maxRecDepth 20000 in
theorem gX2_best_X2_allApart : GoodIn wsX2_best (wsV RX2 130 RX2 yX2_allApart wsX2_allApart) := goodIn_app (goodIn_of _ (by decide +kernel)) ggX2_best_X2_allApart
theorem dX2_best_0 : decode cX2_best 0 = .ok (.iconst 0, 1) := by decide +kernel
theorem dX2_best_1 : decode cX2_best 1 = .ok (.istore_n 1, 1) := by decide +kernel
theorem dX2_best_2 : decode cX2_best 2 = .ok (.iconst 1, 1) := by decide +kernel
theorem dX2_best_3 : decode cX2_best 3 = .ok (.istore_n 2, 1) := by decide +kernel
theorem dX2_best_4 : decode cX2_best 4 = .ok (.iload_n 2, 1) := by decide +kernel
theorem dX2_best_5 : decode cX2_best 5 = .ok (.bipush 41, 2) := by decide +kernel
theorem dX2_best_7 : decode cX2_best 7 = .ok (.if_icmp .ge 24, 3) := by decide +kernel
theorem dX2_best_10 : decode cX2_best 10 = .ok (.aload_n 0, 1) := by decide +kernel
theorem dX2_best_11 : decode cX2_best 11 = .ok (.iload_n 2, 1) := by decide +kernel
theorem dX2_best_12 : decode cX2_best 12 = .ok (.invokevirtual 130, 3) := by decide +kernel
theorem dX2_best_15 : decode cX2_best 15 = .ok (.aload_n 0, 1) := by decide +kernel
theorem dX2_best_16 : decode cX2_best 16 = .ok (.iload_n 1, 1) := by decide +kernel
theorem dX2_best_17 : decode cX2_best 17 = .ok (.invokevirtual 130, 3) := by decide +kernel
theorem dX2_best_20 : decode cX2_best 20 = .ok (.if_icmp .ge 5, 3) := by decide +kernel
theorem dX2_best_23 : decode cX2_best 23 = .ok (.iload_n 2, 1) := by decide +kernel
theorem dX2_best_24 : decode cX2_best 24 = .ok (.istore_n 1, 1) := by decide +kernel
theorem dX2_best_25 : decode cX2_best 25 = .ok (.iinc 2 1, 3) := by decide +kernel
theorem dX2_best_28 : decode cX2_best 28 = .ok (.goto (-24), 3) := by decide +kernel
theorem dX2_best_31 : decode cX2_best 31 = .ok (.iload_n 1, 1) := by decide +kernel
theorem dX2_best_32 : decode cX2_best 32 = .ok (.ireturn, 1) := by decide +kernel
set_option maxRecDepth 20000 in
theorem ggX2_bestPlank_X2_fail : GoodIn wsX2_bestPlank wsX2_fail := goodIn_r _ [7, 1, 25, 26, 27, 28, 29, 30, 31, 32, 33, 34, 35] (by decide +kernel) (by decide +kernel)
set_option maxRecDepth 20000 in
theorem gX2_bestPlank_X2_fail : GoodIn wsX2_bestPlank (wsV RX2 93 RX2 yX2_fail wsX2_fail) := goodIn_app (goodIn_of _ (by decide +kernel)) ggX2_bestPlank_X2_fail
set_option maxRecDepth 20000 in
theorem ggX2_bestPlank_X2_best : GoodIn wsX2_bestPlank wsX2_best := goodIn_r _ [11, 12, 13, 14, 6, 15, 2, 16, 17, 18, 19, 20, 21, 22, 23, 24, 25, 26, 27, 28, 29, 30, 31, 32, 33, 34, 35] (by decide +kernel) (by decide +kernel)
set_option maxRecDepth 20000 in
theorem gX2_bestPlank_X2_best : GoodIn wsX2_bestPlank (wsV RX2 133 RX2 yX2_best wsX2_best) := goodIn_app (goodIn_of _ (by decide +kernel)) ggX2_bestPlank_X2_best
theorem dX2_bestPlank_0 : decode cX2_bestPlank 0 = .ok (.aload_n 0, 1) := by decide +kernel
theorem dX2_bestPlank_1 : decode cX2_bestPlank 1 = .ok (.iconst 0, 1) := by decide +kernel
theorem dX2_bestPlank_2 : decode cX2_bestPlank 2 = .ok (.putfield 35, 3) := by decide +kernel
theorem dX2_bestPlank_5 : decode cX2_bestPlank 5 = .ok (.aload_n 0, 1) := by decide +kernel
theorem dX2_bestPlank_6 : decode cX2_bestPlank 6 = .ok (.getfield 38, 3) := by decide +kernel
theorem dX2_bestPlank_9 : decode cX2_bestPlank 9 = .ok (.ifCond .ne 11, 3) := by decide +kernel
theorem dX2_bestPlank_12 : decode cX2_bestPlank 12 = .ok (.aload_n 0, 1) := by decide +kernel
theorem dX2_bestPlank_13 : decode cX2_bestPlank 13 = .ok (.iconst 1, 1) := by decide +kernel
theorem dX2_bestPlank_14 : decode cX2_bestPlank 14 = .ok (.invokevirtual 93, 3) := by decide +kernel
theorem dX2_bestPlank_17 : decode cX2_bestPlank 17 = .ok (.goto 7, 3) := by decide +kernel
theorem dX2_bestPlank_20 : decode cX2_bestPlank 20 = .ok (.aload_n 0, 1) := by decide +kernel
theorem dX2_bestPlank_21 : decode cX2_bestPlank 21 = .ok (.invokevirtual 133, 3) := by decide +kernel
theorem dX2_bestPlank_24 : decode cX2_bestPlank 24 = .ok (.ireturn, 1) := by decide +kernel
set_option maxRecDepth 20000 in
theorem ggX2_votes_X2_apart : GoodIn wsX2_votes wsX2_apart := goodIn_r _ [6, 7, 8, 9, 10, 11, 12, 13, 14, 15, 16, 17, 18, 19, 20, 21, 22] (by decide +kernel) (by decide +kernel)
set_option maxRecDepth 20000 in
theorem gX2_votes_X2_apart : GoodIn wsX2_votes (wsV RX2 127 RX2 yX2_apart wsX2_apart) := goodIn_app (goodIn_of _ (by decide +kernel)) ggX2_votes_X2_apart
theorem dX2_votes_0 : decode cX2_votes 0 = .ok (.iconst 0, 1) := by decide +kernel
theorem dX2_votes_1 : decode cX2_votes 1 = .ok (.istore_n 3, 1) := by decide +kernel
theorem dX2_votes_2 : decode cX2_votes 2 = .ok (.iconst 0, 1) := by decide +kernel
theorem dX2_votes_3 : decode cX2_votes 3 = .ok (.istore 4, 2) := by decide +kernel
theorem dX2_votes_5 : decode cX2_votes 5 = .ok (.iload 4, 2) := by decide +kernel
theorem dX2_votes_7 : decode cX2_votes 7 = .ok (.aload_n 0, 1) := by decide +kernel
theorem dX2_votes_8 : decode cX2_votes 8 = .ok (.getfield 38, 3) := by decide +kernel
theorem dX2_votes_11 : decode cX2_votes 11 = .ok (.if_icmp .ge 34, 3) := by decide +kernel
theorem dX2_votes_14 : decode cX2_votes 14 = .ok (.iload_n 3, 1) := by decide +kernel
theorem dX2_votes_15 : decode cX2_votes 15 = .ok (.aload_n 0, 1) := by decide +kernel
theorem dX2_votes_16 : decode cX2_votes 16 = .ok (.iload 4, 2) := by decide +kernel
theorem dX2_votes_18 : decode cX2_votes 18 = .ok (.iload_n 1, 1) := by decide +kernel
theorem dX2_votes_19 : decode cX2_votes 19 = .ok (.invokevirtual 127, 3) := by decide +kernel
theorem dX2_votes_22 : decode cX2_votes 22 = .ok (.aload_n 0, 1) := by decide +kernel
theorem dX2_votes_23 : decode cX2_votes 23 = .ok (.iload 4, 2) := by decide +kernel
theorem dX2_votes_25 : decode cX2_votes 25 = .ok (.iload_n 2, 1) := by decide +kernel
theorem dX2_votes_26 : decode cX2_votes 26 = .ok (.invokevirtual 127, 3) := by decide +kernel
theorem dX2_votes_29 : decode cX2_votes 29 = .ok (.if_icmp .ge 7, 3) := by decide +kernel
theorem dX2_votes_32 : decode cX2_votes 32 = .ok (.iconst 1, 1) := by decide +kernel
theorem dX2_votes_33 : decode cX2_votes 33 = .ok (.goto 4, 3) := by decide +kernel
theorem dX2_votes_36 : decode cX2_votes 36 = .ok (.iconst 0, 1) := by decide +kernel
theorem dX2_votes_37 : decode cX2_votes 37 = .ok (.iadd, 1) := by decide +kernel
theorem dX2_votes_38 : decode cX2_votes 38 = .ok (.istore_n 3, 1) := by decide +kernel
theorem dX2_votes_39 : decode cX2_votes 39 = .ok (.iinc 4 1, 3) := by decide +kernel
theorem dX2_votes_42 : decode cX2_votes 42 = .ok (.goto (-37), 3) := by decide +kernel
theorem dX2_votes_45 : decode cX2_votes 45 = .ok (.iload_n 3, 1) := by decide +kernel
theorem dX2_votes_46 : decode cX2_votes 46 = .ok (.ireturn, 1) := by decide +kernel
set_option maxRecDepth 20000 in
theorem ggX2_areTwo_X2_isPlank : GoodIn wsX2_areTwo wsX2_isPlank := goodIn_r _ [5, 6, 7, 4, 8] (by decide +kernel) (by decide +kernel)
set_option maxRecDepth 20000 in
theorem gX2_areTwo_X2_isPlank : GoodIn wsX2_areTwo (va_wsS RX2 90 yX2_isPlank wsX2_isPlank) := goodIn_app (goodIn_of _ (by decide +kernel)) ggX2_areTwo_X2_isPlank
theorem dX2_areTwo_0 : decode cX2_areTwo 0 = .ok (.aload_n 0, 1) := by decide +kernel
theorem dX2_areTwo_1 : decode cX2_areTwo 1 = .ok (.iload_n 1, 1) := by decide +kernel
theorem dX2_areTwo_2 : decode cX2_areTwo 2 = .ok (.invokestatic 90, 3) := by decide +kernel
theorem dX2_areTwo_5 : decode cX2_areTwo 5 = .ok (.ifCond .eq 10, 3) := by decide +kernel
theorem dX2_areTwo_8 : decode cX2_areTwo 8 = .ok (.iload_n 2, 1) := by decide +kernel
theorem dX2_areTwo_9 : decode cX2_areTwo 9 = .ok (.invokestatic 90, 3) := by decide +kernel
theorem dX2_areTwo_12 : decode cX2_areTwo 12 = .ok (.ifCond .ne 7, 3) := by decide +kernel
theorem dX2_areTwo_15 : decode cX2_areTwo 15 = .ok (.iconst 1, 1) := by decide +kernel
theorem dX2_areTwo_16 : decode cX2_areTwo 16 = .ok (.goto 13, 3) := by decide +kernel
theorem dX2_areTwo_19 : decode cX2_areTwo 19 = .ok (.iload_n 1, 1) := by decide +kernel
theorem dX2_areTwo_20 : decode cX2_areTwo 20 = .ok (.iload_n 2, 1) := by decide +kernel
theorem dX2_areTwo_21 : decode cX2_areTwo 21 = .ok (.if_icmp .ne 7, 3) := by decide +kernel
theorem dX2_areTwo_24 : decode cX2_areTwo 24 = .ok (.iconst 2, 1) := by decide +kernel
theorem dX2_areTwo_25 : decode cX2_areTwo 25 = .ok (.goto 4, 3) := by decide +kernel
theorem dX2_areTwo_28 : decode cX2_areTwo 28 = .ok (.iconst 0, 1) := by decide +kernel
theorem dX2_areTwo_29 : decode cX2_areTwo 29 = .ok (.putfield 35, 3) := by decide +kernel
theorem dX2_areTwo_32 : decode cX2_areTwo 32 = .ok (.aload_n 0, 1) := by decide +kernel
theorem dX2_areTwo_33 : decode cX2_areTwo 33 = .ok (.getfield 35, 3) := by decide +kernel
theorem dX2_areTwo_36 : decode cX2_areTwo 36 = .ok (.ifCond .ne 7, 3) := by decide +kernel
theorem dX2_areTwo_39 : decode cX2_areTwo 39 = .ok (.iconst 1, 1) := by decide +kernel
theorem dX2_areTwo_40 : decode cX2_areTwo 40 = .ok (.goto 4, 3) := by decide +kernel
theorem dX2_areTwo_43 : decode cX2_areTwo 43 = .ok (.iconst 0, 1) := by decide +kernel
theorem dX2_areTwo_44 : decode cX2_areTwo 44 = .ok (.ireturn, 1) := by decide +kernel
set_option maxRecDepth 20000 in
theorem ggX2_votesFor_X2_areTwo : GoodIn wsX2_votesFor wsX2_areTwo := goodIn_r _ [5, 6, 7, 8, 4, 9, 10, 11, 12, 27, 28, 29, 30, 31, 32, 33, 34, 35, 36, 37] (by decide +kernel) (by decide +kernel)
set_option maxRecDepth 20000 in
theorem gX2_votesFor_X2_areTwo : GoodIn wsX2_votesFor (wsV RX2 136 RX2 yX2_areTwo wsX2_areTwo) := goodIn_app (goodIn_of _ (by decide +kernel)) ggX2_votesFor_X2_areTwo
set_option maxRecDepth 20000 in
theorem ggX2_votesFor_X2_votes : GoodIn wsX2_votesFor wsX2_votes := goodIn_r _ [16, 17, 18, 19, 20, 4, 21, 22, 23, 24, 25, 26, 27, 28, 29, 30, 31, 32, 33, 34, 35, 36, 37] (by decide +kernel) (by decide +kernel)
set_option maxRecDepth 20000 in
theorem gX2_votesFor_X2_votes : GoodIn wsX2_votesFor (wsV RX2 139 RX2 yX2_votes wsX2_votes) := goodIn_app (goodIn_of _ (by decide +kernel)) ggX2_votesFor_X2_votes
theorem dX2_votesFor_0 : decode cX2_votesFor 0 = .ok (.aload_n 0, 1) := by decide +kernel
theorem dX2_votesFor_1 : decode cX2_votesFor 1 = .ok (.iload_n 1, 1) := by decide +kernel
theorem dX2_votesFor_2 : decode cX2_votesFor 2 = .ok (.iload_n 2, 1) := by decide +kernel
theorem dX2_votesFor_3 : decode cX2_votesFor 3 = .ok (.invokevirtual 136, 3) := by decide +kernel
theorem dX2_votesFor_6 : decode cX2_votesFor 6 = .ok (.ifCond .eq 12, 3) := by decide +kernel
theorem dX2_votesFor_9 : decode cX2_votesFor 9 = .ok (.aload_n 0, 1) := by decide +kernel
theorem dX2_votesFor_10 : decode cX2_votesFor 10 = .ok (.iload_n 1, 1) := by decide +kernel
theorem dX2_votesFor_11 : decode cX2_votesFor 11 = .ok (.iload_n 2, 1) := by decide +kernel
theorem dX2_votesFor_12 : decode cX2_votesFor 12 = .ok (.invokevirtual 139, 3) := by decide +kernel
theorem dX2_votesFor_15 : decode cX2_votesFor 15 = .ok (.goto 4, 3) := by decide +kernel
theorem dX2_votesFor_18 : decode cX2_votesFor 18 = .ok (.iconst 0, 1) := by decide +kernel
theorem dX2_votesFor_19 : decode cX2_votesFor 19 = .ok (.ireturn, 1) := by decide +kernel
set_option maxRecDepth 20000 in
theorem ggX2_winnerOf_X2_areTwo : GoodIn wsX2_winnerOf wsX2_areTwo := goodIn_r _ [9, 10, 11, 12, 8, 13, 14, 15, 16, 30, 31, 32, 33, 34, 35, 36, 37, 38, 39, 40] (by decide +kernel) (by decide +kernel)
set_option maxRecDepth 20000 in
theorem gX2_winnerOf_X2_areTwo : GoodIn wsX2_winnerOf (wsV RX2 136 RX2 yX2_areTwo wsX2_areTwo) := goodIn_app (goodIn_of _ (by decide +kernel)) ggX2_winnerOf_X2_areTwo
set_option maxRecDepth 20000 in
theorem ggX2_winnerOf_X2_votes : GoodIn wsX2_winnerOf wsX2_votes := goodIn_r _ [20, 21, 22, 23, 24, 8, 25, 26, 27, 28, 3, 29, 30, 31, 32, 33, 34, 35, 36, 37, 38, 39, 40] (by decide +kernel) (by decide +kernel)
set_option maxRecDepth 20000 in
theorem gX2_winnerOf_X2_votes : GoodIn wsX2_winnerOf (wsV RX2 139 RX2 yX2_votes wsX2_votes) := goodIn_app (goodIn_of _ (by decide +kernel)) ggX2_winnerOf_X2_votes
theorem dX2_winnerOf_0 : decode cX2_winnerOf 0 = .ok (.aload_n 0, 1) := by decide +kernel
theorem dX2_winnerOf_1 : decode cX2_winnerOf 1 = .ok (.iload_n 1, 1) := by decide +kernel
theorem dX2_winnerOf_2 : decode cX2_winnerOf 2 = .ok (.iload_n 2, 1) := by decide +kernel
theorem dX2_winnerOf_3 : decode cX2_winnerOf 3 = .ok (.invokevirtual 136, 3) := by decide +kernel
theorem dX2_winnerOf_6 : decode cX2_winnerOf 6 = .ok (.ifCond .ne 5, 3) := by decide +kernel
theorem dX2_winnerOf_9 : decode cX2_winnerOf 9 = .ok (.iconst 0, 1) := by decide +kernel
theorem dX2_winnerOf_10 : decode cX2_winnerOf 10 = .ok (.ireturn, 1) := by decide +kernel
theorem dX2_winnerOf_11 : decode cX2_winnerOf 11 = .ok (.aload_n 0, 1) := by decide +kernel
theorem dX2_winnerOf_12 : decode cX2_winnerOf 12 = .ok (.iload_n 1, 1) := by decide +kernel
theorem dX2_winnerOf_13 : decode cX2_winnerOf 13 = .ok (.iload_n 2, 1) := by decide +kernel
theorem dX2_winnerOf_14 : decode cX2_winnerOf 14 = .ok (.invokevirtual 139, 3) := by decide +kernel
theorem dX2_winnerOf_17 : decode cX2_winnerOf 17 = .ok (.aload_n 0, 1) := by decide +kernel
theorem dX2_winnerOf_18 : decode cX2_winnerOf 18 = .ok (.iload_n 2, 1) := by decide +kernel
theorem dX2_winnerOf_19 : decode cX2_winnerOf 19 = .ok (.iload_n 1, 1) := by decide +kernel
theorem dX2_winnerOf_20 : decode cX2_winnerOf 20 = .ok (.invokevirtual 139, 3) := by decide +kernel
theorem dX2_winnerOf_23 : decode cX2_winnerOf 23 = .ok (.isub, 1) := by decide +kernel
theorem dX2_winnerOf_24 : decode cX2_winnerOf 24 = .ok (.istore_n 3, 1) := by decide +kernel
theorem dX2_winnerOf_25 : decode cX2_winnerOf 25 = .ok (.iload_n 3, 1) := by decide +kernel
theorem dX2_winnerOf_26 : decode cX2_winnerOf 26 = .ok (.ifCond .le 7, 3) := by decide +kernel
theorem dX2_winnerOf_29 : decode cX2_winnerOf 29 = .ok (.iload_n 1, 1) := by decide +kernel
theorem dX2_winnerOf_30 : decode cX2_winnerOf 30 = .ok (.goto 16, 3) := by decide +kernel
theorem dX2_winnerOf_33 : decode cX2_winnerOf 33 = .ok (.iload_n 3, 1) := by decide +kernel
theorem dX2_winnerOf_34 : decode cX2_winnerOf 34 = .ok (.ifCond .ge 7, 3) := by decide +kernel
theorem dX2_winnerOf_37 : decode cX2_winnerOf 37 = .ok (.iload_n 2, 1) := by decide +kernel
theorem dX2_winnerOf_38 : decode cX2_winnerOf 38 = .ok (.goto 8, 3) := by decide +kernel
theorem dX2_winnerOf_41 : decode cX2_winnerOf 41 = .ok (.iload_n 1, 1) := by decide +kernel
theorem dX2_winnerOf_42 : decode cX2_winnerOf 42 = .ok (.iload_n 2, 1) := by decide +kernel
theorem dX2_winnerOf_43 : decode cX2_winnerOf 43 = .ok (.invokestatic 64, 3) := by decide +kernel
theorem dX2_winnerOf_46 : decode cX2_winnerOf 46 = .ok (.ireturn, 1) := by decide +kernel
set_option maxRecDepth 20000 in
theorem ggX2_canLeadTo_X2_isDelegate : GoodIn wsX2_canLeadTo wsX2_isDelegate := goodIn_r _ [6, 7, 8, 9, 5, 10, 38, 39, 40, 41, 42, 43, 44, 45, 46, 47, 48] (by decide +kernel) (by decide +kernel)
set_option maxRecDepth 20000 in
theorem gX2_canLeadTo_X2_isDelegate : GoodIn wsX2_canLeadTo (wsV RX2 96 RX2 yX2_isDelegate wsX2_isDelegate) := goodIn_app (goodIn_of _ (by decide +kernel)) ggX2_canLeadTo_X2_isDelegate
set_option maxRecDepth 20000 in
theorem ggX2_canLeadTo_X2_isPlank : GoodIn wsX2_canLeadTo wsX2_isPlank := goodIn_r _ [13, 8, 9, 5, 10] (by decide +kernel) (by decide +kernel)
set_option maxRecDepth 20000 in
theorem gX2_canLeadTo_X2_isPlank : GoodIn wsX2_canLeadTo (va_wsS RX2 90 yX2_isPlank wsX2_isPlank) := goodIn_app (goodIn_of _ (by decide +kernel)) ggX2_canLeadTo_X2_isPlank
set_option maxRecDepth 20000 in
theorem ggX2_canLeadTo_X2_can : GoodIn wsX2_canLeadTo wsX2_can := goodIn_r _ [17, 18, 19, 20, 21, 5, 22, 23, 24, 25, 26, 27, 28, 29, 30, 31, 32, 33, 34, 35, 36, 37, 7, 38, 39, 40, 41, 42, 43, 44, 45, 46, 47, 48] (by decide +kernel) (by decide +kernel)
set_option maxRecDepth 20000 in
theorem gX2_canLeadTo_X2_can : GoodIn wsX2_canLeadTo (wsV RX2 107 RX2 yX2_can wsX2_can) := goodIn_app (goodIn_of _ (by decide +kernel)) ggX2_canLeadTo_X2_can
theorem dX2_canLeadTo_0 : decode cX2_canLeadTo 0 = .ok (.aload_n 0, 1) := by decide +kernel
theorem dX2_canLeadTo_1 : decode cX2_canLeadTo 1 = .ok (.aload_n 0, 1) := by decide +kernel
theorem dX2_canLeadTo_2 : decode cX2_canLeadTo 2 = .ok (.iload_n 1, 1) := by decide +kernel
theorem dX2_canLeadTo_3 : decode cX2_canLeadTo 3 = .ok (.invokevirtual 96, 3) := by decide +kernel
theorem dX2_canLeadTo_6 : decode cX2_canLeadTo 6 = .ok (.ifCond .eq 14, 3) := by decide +kernel
theorem dX2_canLeadTo_9 : decode cX2_canLeadTo 9 = .ok (.iload_n 2, 1) := by decide +kernel
theorem dX2_canLeadTo_10 : decode cX2_canLeadTo 10 = .ok (.invokestatic 90, 3) := by decide +kernel
theorem dX2_canLeadTo_13 : decode cX2_canLeadTo 13 = .ok (.ifCond .eq 7, 3) := by decide +kernel
theorem dX2_canLeadTo_16 : decode cX2_canLeadTo 16 = .ok (.iconst 0, 1) := by decide +kernel
theorem dX2_canLeadTo_17 : decode cX2_canLeadTo 17 = .ok (.goto 4, 3) := by decide +kernel
theorem dX2_canLeadTo_20 : decode cX2_canLeadTo 20 = .ok (.iconst 1, 1) := by decide +kernel
theorem dX2_canLeadTo_21 : decode cX2_canLeadTo 21 = .ok (.putfield 35, 3) := by decide +kernel
theorem dX2_canLeadTo_24 : decode cX2_canLeadTo 24 = .ok (.aload_n 0, 1) := by decide +kernel
theorem dX2_canLeadTo_25 : decode cX2_canLeadTo 25 = .ok (.getfield 35, 3) := by decide +kernel
theorem dX2_canLeadTo_28 : decode cX2_canLeadTo 28 = .ok (.ifCond .ne 16, 3) := by decide +kernel
theorem dX2_canLeadTo_31 : decode cX2_canLeadTo 31 = .ok (.aload_n 0, 1) := by decide +kernel
theorem dX2_canLeadTo_32 : decode cX2_canLeadTo 32 = .ok (.iload_n 1, 1) := by decide +kernel
theorem dX2_canLeadTo_33 : decode cX2_canLeadTo 33 = .ok (.iload_n 2, 1) := by decide +kernel
theorem dX2_canLeadTo_34 : decode cX2_canLeadTo 34 = .ok (.invokevirtual 107, 3) := by decide +kernel
theorem dX2_canLeadTo_37 : decode cX2_canLeadTo 37 = .ok (.ifCond .eq 7, 3) := by decide +kernel
theorem dX2_canLeadTo_40 : decode cX2_canLeadTo 40 = .ok (.iconst 1, 1) := by decide +kernel
theorem dX2_canLeadTo_41 : decode cX2_canLeadTo 41 = .ok (.goto 4, 3) := by decide +kernel
theorem dX2_canLeadTo_44 : decode cX2_canLeadTo 44 = .ok (.iconst 0, 1) := by decide +kernel
theorem dX2_canLeadTo_45 : decode cX2_canLeadTo 45 = .ok (.ireturn, 1) := by decide +kernel
set_option maxRecDepth 20000 in
theorem ggX2_wouldStepTo_X2_isDelegate : GoodIn wsX2_wouldStepTo wsX2_isDelegate := goodIn_r _ [6, 7, 8, 9, 5, 10, 40, 41, 42, 43, 44, 45, 46, 47, 48, 49, 50] (by decide +kernel) (by decide +kernel)
set_option maxRecDepth 20000 in
theorem gX2_wouldStepTo_X2_isDelegate : GoodIn wsX2_wouldStepTo (wsV RX2 96 RX2 yX2_isDelegate wsX2_isDelegate) := goodIn_app (goodIn_of _ (by decide +kernel)) ggX2_wouldStepTo_X2_isDelegate
set_option maxRecDepth 20000 in
theorem ggX2_wouldStepTo_X2_middle : GoodIn wsX2_wouldStepTo wsX2_middle := goodIn_r _ [14, 15, 16, 17, 5, 18, 19, 7, 20, 21, 40, 41, 42, 43, 44, 45, 46, 47, 48, 49, 50] (by decide +kernel) (by decide +kernel)
set_option maxRecDepth 20000 in
theorem gX2_wouldStepTo_X2_middle : GoodIn wsX2_wouldStepTo (wsV RX2 70 RX2 yX2_middle wsX2_middle) := goodIn_app (goodIn_of _ (by decide +kernel)) ggX2_wouldStepTo_X2_middle
set_option maxRecDepth 20000 in
theorem ggX2_wouldStepTo_X2_step : GoodIn wsX2_wouldStepTo wsX2_step := goodIn_r _ [25, 26, 27, 28, 29, 30, 31, 32, 33, 34, 21, 35, 40, 41, 42, 43, 44, 45, 46, 47, 48, 49, 50] (by decide +kernel) (by decide +kernel)
set_option maxRecDepth 20000 in
theorem gX2_wouldStepTo_X2_step : GoodIn wsX2_wouldStepTo (wsV RX2 74 RX2 yX2_step wsX2_step) := goodIn_app (goodIn_of _ (by decide +kernel)) ggX2_wouldStepTo_X2_step
set_option maxRecDepth 20000 in
theorem ggX2_wouldStepTo_X2_fail : GoodIn wsX2_wouldStepTo wsX2_fail := goodIn_r _ [39, 1, 40, 41, 42, 43, 44, 45, 46, 47, 48, 49, 50] (by decide +kernel) (by decide +kernel)
set_option maxRecDepth 20000 in
theorem gX2_wouldStepTo_X2_fail : GoodIn wsX2_wouldStepTo (wsV RX2 93 RX2 yX2_fail wsX2_fail) := goodIn_app (goodIn_of _ (by decide +kernel)) ggX2_wouldStepTo_X2_fail
theorem dX2_wouldStepTo_0 : decode cX2_wouldStepTo 0 = .ok (.aload_n 0, 1) := by decide +kernel
theorem dX2_wouldStepTo_1 : decode cX2_wouldStepTo 1 = .ok (.iconst 0, 1) := by decide +kernel
theorem dX2_wouldStepTo_2 : decode cX2_wouldStepTo 2 = .ok (.putfield 35, 3) := by decide +kernel
theorem dX2_wouldStepTo_5 : decode cX2_wouldStepTo 5 = .ok (.aload_n 0, 1) := by decide +kernel
theorem dX2_wouldStepTo_6 : decode cX2_wouldStepTo 6 = .ok (.iload_n 1, 1) := by decide +kernel
theorem dX2_wouldStepTo_7 : decode cX2_wouldStepTo 7 = .ok (.invokevirtual 96, 3) := by decide +kernel
theorem dX2_wouldStepTo_10 : decode cX2_wouldStepTo 10 = .ok (.ifCond .eq 15, 3) := by decide +kernel
theorem dX2_wouldStepTo_13 : decode cX2_wouldStepTo 13 = .ok (.aload_n 0, 1) := by decide +kernel
theorem dX2_wouldStepTo_14 : decode cX2_wouldStepTo 14 = .ok (.iload_n 1, 1) := by decide +kernel
theorem dX2_wouldStepTo_15 : decode cX2_wouldStepTo 15 = .ok (.aload_n 0, 1) := by decide +kernel
theorem dX2_wouldStepTo_16 : decode cX2_wouldStepTo 16 = .ok (.invokevirtual 70, 3) := by decide +kernel
theorem dX2_wouldStepTo_19 : decode cX2_wouldStepTo 19 = .ok (.invokevirtual 74, 3) := by decide +kernel
theorem dX2_wouldStepTo_22 : decode cX2_wouldStepTo 22 = .ok (.goto 8, 3) := by decide +kernel
theorem dX2_wouldStepTo_25 : decode cX2_wouldStepTo 25 = .ok (.aload_n 0, 1) := by decide +kernel
theorem dX2_wouldStepTo_26 : decode cX2_wouldStepTo 26 = .ok (.iconst 1, 1) := by decide +kernel
theorem dX2_wouldStepTo_27 : decode cX2_wouldStepTo 27 = .ok (.invokevirtual 93, 3) := by decide +kernel
theorem dX2_wouldStepTo_30 : decode cX2_wouldStepTo 30 = .ok (.ireturn, 1) := by decide +kernel
set_option maxRecDepth 20000 in
theorem ggX2_isStill_X2_still : GoodIn wsX2_isStill wsX2_still := goodIn_r _ [6, 7, 8, 9, 10, 11, 12, 13, 14, 15, 5, 16, 17, 18, 19, 20, 21, 22, 23, 24, 25, 26, 27, 28, 29, 30, 31, 32, 33, 34, 35, 36, 37, 38, 39, 40, 41, 42, 43, 44, 45, 46, 47, 48, 49, 50, 51, 52, 53, 54, 55, 56, 57, 58, 59, 60, 61] (by decide +kernel) (by decide +kernel)
set_option maxRecDepth 20000 in
theorem gX2_isStill_X2_still : GoodIn wsX2_isStill (wsV RX2 142 RX2 yX2_still wsX2_still) := goodIn_app (goodIn_of _ (by decide +kernel)) ggX2_isStill_X2_still
theorem dX2_isStill_0 : decode cX2_isStill 0 = .ok (.aload_n 0, 1) := by decide +kernel
theorem dX2_isStill_1 : decode cX2_isStill 1 = .ok (.iconst 0, 1) := by decide +kernel
theorem dX2_isStill_2 : decode cX2_isStill 2 = .ok (.putfield 35, 3) := by decide +kernel
theorem dX2_isStill_5 : decode cX2_isStill 5 = .ok (.aload_n 0, 1) := by decide +kernel
theorem dX2_isStill_6 : decode cX2_isStill 6 = .ok (.invokevirtual 142, 3) := by decide +kernel
theorem dX2_isStill_9 : decode cX2_isStill 9 = .ok (.ireturn, 1) := by decide +kernel
set_option maxRecDepth 20000 in
theorem ggX2_plankIn_X2_isDelegate : GoodIn wsX2_plankIn wsX2_isDelegate := goodIn_r _ [7, 8, 9, 10, 6, 11, 66, 67, 68, 69, 70, 71, 72, 73, 74, 75, 76] (by decide +kernel) (by decide +kernel)
set_option maxRecDepth 20000 in
theorem gX2_plankIn_X2_isDelegate : GoodIn wsX2_plankIn (wsV RX2 96 RX2 yX2_isDelegate wsX2_isDelegate) := goodIn_app (goodIn_of _ (by decide +kernel)) ggX2_plankIn_X2_isDelegate
set_option maxRecDepth 20000 in
theorem ggX2_plankIn_X2_fail : GoodIn wsX2_plankIn wsX2_fail := goodIn_r _ [15, 1, 66, 67, 68, 69, 70, 71, 72, 73, 74, 75, 76] (by decide +kernel) (by decide +kernel)
set_option maxRecDepth 20000 in
theorem gX2_plankIn_X2_fail : GoodIn wsX2_plankIn (wsV RX2 93 RX2 yX2_fail wsX2_fail) := goodIn_app (goodIn_of _ (by decide +kernel)) ggX2_plankIn_X2_fail
set_option maxRecDepth 20000 in
theorem ggX2_plankIn_X2_isIn : GoodIn wsX2_plankIn wsX2_isIn := goodIn_r _ [11] (by decide +kernel) (by decide +kernel)
set_option maxRecDepth 20000 in
theorem gX2_plankIn_X2_isIn : GoodIn wsX2_plankIn (va_wsS RX2 41 yX2_isIn wsX2_isIn) := goodIn_app (goodIn_of _ (by decide +kernel)) ggX2_plankIn_X2_isIn
set_option maxRecDepth 20000 in
theorem ggX2_plankIn_X2_keep : GoodIn wsX2_plankIn wsX2_keep := goodIn_r _ [19, 2, 20, 21, 22, 23, 24, 66, 67, 68, 69, 70, 71, 72, 73, 74, 75, 76] (by decide +kernel) (by decide +kernel)
set_option maxRecDepth 20000 in
theorem gX2_plankIn_X2_keep : GoodIn wsX2_plankIn (wsV RX2 145 RX2 yX2_keep wsX2_keep) := goodIn_app (goodIn_of _ (by decide +kernel)) ggX2_plankIn_X2_keep
set_option maxRecDepth 20000 in
theorem ggX2_plankIn_X2_roundOn : GoodIn wsX2_plankIn wsX2_roundOn := goodIn_r _ [28, 8, 2, 29, 30, 31, 6, 32, 33, 34, 35, 36, 37, 38, 39, 40, 41, 42, 43, 44, 45, 46, 47, 48, 49, 50, 51, 52, 53, 54, 55, 56, 57, 58, 59, 60, 61, 66, 67, 68, 69, 70, 71, 72, 73, 74, 75, 76] (by decide +kernel) (by decide +kernel)
set_option maxRecDepth 20000 in
theorem gX2_plankIn_X2_roundOn : GoodIn wsX2_plankIn (wsV RX2 84 RX2 yX2_roundOn wsX2_roundOn) := goodIn_app (goodIn_of _ (by decide +kernel)) ggX2_plankIn_X2_roundOn
set_option maxRecDepth 20000 in
theorem ggX2_plankIn_X2_bringBack : GoodIn wsX2_plankIn wsX2_bringBack := goodIn_r _ [65, 20, 2, 21, 22, 23, 24, 66, 67, 68, 69, 70, 71, 72, 73, 74, 75, 76] (by decide +kernel) (by decide +kernel)
set_option maxRecDepth 20000 in
theorem gX2_plankIn_X2_bringBack : GoodIn wsX2_plankIn (wsV RX2 148 RX2 yX2_bringBack wsX2_bringBack) := goodIn_app (goodIn_of _ (by decide +kernel)) ggX2_plankIn_X2_bringBack
theorem dX2_plankIn_0 : decode cX2_plankIn 0 = .ok (.aload_n 0, 1) := by decide +kernel
theorem dX2_plankIn_1 : decode cX2_plankIn 1 = .ok (.iconst 0, 1) := by decide +kernel
theorem dX2_plankIn_2 : decode cX2_plankIn 2 = .ok (.putfield 35, 3) := by decide +kernel
theorem dX2_plankIn_5 : decode cX2_plankIn 5 = .ok (.aload_n 0, 1) := by decide +kernel
theorem dX2_plankIn_6 : decode cX2_plankIn 6 = .ok (.iload_n 1, 1) := by decide +kernel
theorem dX2_plankIn_7 : decode cX2_plankIn 7 = .ok (.invokevirtual 96, 3) := by decide +kernel
theorem dX2_plankIn_10 : decode cX2_plankIn 10 = .ok (.ifCond .ne 9, 3) := by decide +kernel
theorem dX2_plankIn_13 : decode cX2_plankIn 13 = .ok (.aload_n 0, 1) := by decide +kernel
theorem dX2_plankIn_14 : decode cX2_plankIn 14 = .ok (.iconst 1, 1) := by decide +kernel
theorem dX2_plankIn_15 : decode cX2_plankIn 15 = .ok (.invokevirtual 93, 3) := by decide +kernel
theorem dX2_plankIn_18 : decode cX2_plankIn 18 = .ok (.ireturn, 1) := by decide +kernel
theorem dX2_plankIn_19 : decode cX2_plankIn 19 = .ok (.iload_n 2, 1) := by decide +kernel
theorem dX2_plankIn_20 : decode cX2_plankIn 20 = .ok (.iconst 1, 1) := by decide +kernel
theorem dX2_plankIn_21 : decode cX2_plankIn 21 = .ok (.bipush 50, 2) := by decide +kernel
theorem dX2_plankIn_23 : decode cX2_plankIn 23 = .ok (.invokestatic 41, 3) := by decide +kernel
theorem dX2_plankIn_26 : decode cX2_plankIn 26 = .ok (.ifCond .ne 9, 3) := by decide +kernel
theorem dX2_plankIn_29 : decode cX2_plankIn 29 = .ok (.aload_n 0, 1) := by decide +kernel
theorem dX2_plankIn_30 : decode cX2_plankIn 30 = .ok (.iconst 2, 1) := by decide +kernel
theorem dX2_plankIn_31 : decode cX2_plankIn 31 = .ok (.invokevirtual 93, 3) := by decide +kernel
theorem dX2_plankIn_34 : decode cX2_plankIn 34 = .ok (.ireturn, 1) := by decide +kernel
theorem dX2_plankIn_35 : decode cX2_plankIn 35 = .ok (.aload_n 0, 1) := by decide +kernel
theorem dX2_plankIn_36 : decode cX2_plankIn 36 = .ok (.invokevirtual 145, 3) := by decide +kernel
theorem dX2_plankIn_39 : decode cX2_plankIn 39 = .ok (.iconst 0, 1) := by decide +kernel
theorem dX2_plankIn_40 : decode cX2_plankIn 40 = .ok (.istore_n 3, 1) := by decide +kernel
theorem dX2_plankIn_41 : decode cX2_plankIn 41 = .ok (.iload_n 3, 1) := by decide +kernel
theorem dX2_plankIn_42 : decode cX2_plankIn 42 = .ok (.iload_n 2, 1) := by decide +kernel
theorem dX2_plankIn_43 : decode cX2_plankIn 43 = .ok (.if_icmp .ge 14, 3) := by decide +kernel
theorem dX2_plankIn_46 : decode cX2_plankIn 46 = .ok (.aload_n 0, 1) := by decide +kernel
theorem dX2_plankIn_47 : decode cX2_plankIn 47 = .ok (.invokevirtual 84, 3) := by decide +kernel
theorem dX2_plankIn_50 : decode cX2_plankIn 50 = .ok (.pop, 1) := by decide +kernel
theorem dX2_plankIn_51 : decode cX2_plankIn 51 = .ok (.iinc 3 1, 3) := by decide +kernel
theorem dX2_plankIn_54 : decode cX2_plankIn 54 = .ok (.goto (-13), 3) := by decide +kernel
theorem dX2_plankIn_57 : decode cX2_plankIn 57 = .ok (.aload_n 0, 1) := by decide +kernel
theorem dX2_plankIn_58 : decode cX2_plankIn 58 = .ok (.getfield 26, 3) := by decide +kernel
theorem dX2_plankIn_61 : decode cX2_plankIn 61 = .ok (.iload_n 1, 1) := by decide +kernel
theorem dX2_plankIn_62 : decode cX2_plankIn 62 = .ok (.iaload, 1) := by decide +kernel
theorem dX2_plankIn_63 : decode cX2_plankIn 63 = .ok (.istore_n 3, 1) := by decide +kernel
theorem dX2_plankIn_64 : decode cX2_plankIn 64 = .ok (.aload_n 0, 1) := by decide +kernel
theorem dX2_plankIn_65 : decode cX2_plankIn 65 = .ok (.invokevirtual 148, 3) := by decide +kernel
theorem dX2_plankIn_68 : decode cX2_plankIn 68 = .ok (.iload_n 3, 1) := by decide +kernel
theorem dX2_plankIn_69 : decode cX2_plankIn 69 = .ok (.ireturn, 1) := by decide +kernel
set_option maxRecDepth 20000 in
theorem ggX2_compromiseIn_X2_isIn : GoodIn wsX2_compromiseIn wsX2_isIn := goodIn_r _ [6] (by decide +kernel) (by decide +kernel)
set_option maxRecDepth 20000 in
theorem gX2_compromiseIn_X2_isIn : GoodIn wsX2_compromiseIn (va_wsS RX2 41 yX2_isIn wsX2_isIn) := goodIn_app (goodIn_of _ (by decide +kernel)) ggX2_compromiseIn_X2_isIn
set_option maxRecDepth 20000 in
theorem ggX2_compromiseIn_X2_fail : GoodIn wsX2_compromiseIn wsX2_fail := goodIn_r _ [10, 1, 62, 63, 64, 65, 66, 67, 68, 69, 70, 71, 72] (by decide +kernel) (by decide +kernel)
set_option maxRecDepth 20000 in
theorem gX2_compromiseIn_X2_fail : GoodIn wsX2_compromiseIn (wsV RX2 93 RX2 yX2_fail wsX2_fail) := goodIn_app (goodIn_of _ (by decide +kernel)) ggX2_compromiseIn_X2_fail
set_option maxRecDepth 20000 in
theorem ggX2_compromiseIn_X2_keep : GoodIn wsX2_compromiseIn wsX2_keep := goodIn_r _ [14, 15, 16, 17, 18, 19, 20, 62, 63, 64, 65, 66, 67, 68, 69, 70, 71, 72] (by decide +kernel) (by decide +kernel)
set_option maxRecDepth 20000 in
theorem gX2_compromiseIn_X2_keep : GoodIn wsX2_compromiseIn (wsV RX2 145 RX2 yX2_keep wsX2_keep) := goodIn_app (goodIn_of _ (by decide +kernel)) ggX2_compromiseIn_X2_keep
set_option maxRecDepth 20000 in
theorem ggX2_compromiseIn_X2_roundOn : GoodIn wsX2_compromiseIn wsX2_roundOn := goodIn_r _ [24, 2, 15, 25, 26, 27, 5, 28, 29, 30, 31, 32, 33, 34, 35, 36, 37, 38, 39, 40, 41, 42, 43, 44, 45, 46, 47, 48, 49, 50, 51, 52, 53, 54, 55, 56, 57, 62, 63, 64, 65, 66, 67, 68, 69, 70, 71, 72] (by decide +kernel) (by decide +kernel)
set_option maxRecDepth 20000 in
theorem gX2_compromiseIn_X2_roundOn : GoodIn wsX2_compromiseIn (wsV RX2 84 RX2 yX2_roundOn wsX2_roundOn) := goodIn_app (goodIn_of _ (by decide +kernel)) ggX2_compromiseIn_X2_roundOn
set_option maxRecDepth 20000 in
theorem ggX2_compromiseIn_X2_middle : GoodIn wsX2_compromiseIn wsX2_middle := goodIn_r _ [28, 29, 30, 31, 5, 32, 33, 2, 34, 15, 62, 63, 64, 65, 66, 67, 68, 69, 70, 71, 72] (by decide +kernel) (by decide +kernel)
set_option maxRecDepth 20000 in
theorem gX2_compromiseIn_X2_middle : GoodIn wsX2_compromiseIn (wsV RX2 70 RX2 yX2_middle wsX2_middle) := goodIn_app (goodIn_of _ (by decide +kernel)) ggX2_compromiseIn_X2_middle
set_option maxRecDepth 20000 in
theorem ggX2_compromiseIn_X2_bringBack : GoodIn wsX2_compromiseIn wsX2_bringBack := goodIn_r _ [61, 16, 15, 17, 18, 19, 20, 62, 63, 64, 65, 66, 67, 68, 69, 70, 71, 72] (by decide +kernel) (by decide +kernel)
set_option maxRecDepth 20000 in
theorem gX2_compromiseIn_X2_bringBack : GoodIn wsX2_compromiseIn (wsV RX2 148 RX2 yX2_bringBack wsX2_bringBack) := goodIn_app (goodIn_of _ (by decide +kernel)) ggX2_compromiseIn_X2_bringBack
theorem dX2_compromiseIn_0 : decode cX2_compromiseIn 0 = .ok (.aload_n 0, 1) := by decide +kernel
theorem dX2_compromiseIn_1 : decode cX2_compromiseIn 1 = .ok (.iconst 0, 1) := by decide +kernel
theorem dX2_compromiseIn_2 : decode cX2_compromiseIn 2 = .ok (.putfield 35, 3) := by decide +kernel
theorem dX2_compromiseIn_5 : decode cX2_compromiseIn 5 = .ok (.iload_n 1, 1) := by decide +kernel
theorem dX2_compromiseIn_6 : decode cX2_compromiseIn 6 = .ok (.iconst 1, 1) := by decide +kernel
theorem dX2_compromiseIn_7 : decode cX2_compromiseIn 7 = .ok (.bipush 50, 2) := by decide +kernel
theorem dX2_compromiseIn_9 : decode cX2_compromiseIn 9 = .ok (.invokestatic 41, 3) := by decide +kernel
theorem dX2_compromiseIn_12 : decode cX2_compromiseIn 12 = .ok (.ifCond .ne 9, 3) := by decide +kernel
theorem dX2_compromiseIn_15 : decode cX2_compromiseIn 15 = .ok (.aload_n 0, 1) := by decide +kernel
theorem dX2_compromiseIn_16 : decode cX2_compromiseIn 16 = .ok (.iconst 1, 1) := by decide +kernel
theorem dX2_compromiseIn_17 : decode cX2_compromiseIn 17 = .ok (.invokevirtual 93, 3) := by decide +kernel
theorem dX2_compromiseIn_20 : decode cX2_compromiseIn 20 = .ok (.ireturn, 1) := by decide +kernel
theorem dX2_compromiseIn_21 : decode cX2_compromiseIn 21 = .ok (.aload_n 0, 1) := by decide +kernel
theorem dX2_compromiseIn_22 : decode cX2_compromiseIn 22 = .ok (.getfield 38, 3) := by decide +kernel
theorem dX2_compromiseIn_25 : decode cX2_compromiseIn 25 = .ok (.ifCond .ne 9, 3) := by decide +kernel
theorem dX2_compromiseIn_28 : decode cX2_compromiseIn 28 = .ok (.aload_n 0, 1) := by decide +kernel
theorem dX2_compromiseIn_29 : decode cX2_compromiseIn 29 = .ok (.iconst 2, 1) := by decide +kernel
theorem dX2_compromiseIn_30 : decode cX2_compromiseIn 30 = .ok (.invokevirtual 93, 3) := by decide +kernel
theorem dX2_compromiseIn_33 : decode cX2_compromiseIn 33 = .ok (.ireturn, 1) := by decide +kernel
theorem dX2_compromiseIn_34 : decode cX2_compromiseIn 34 = .ok (.aload_n 0, 1) := by decide +kernel
theorem dX2_compromiseIn_35 : decode cX2_compromiseIn 35 = .ok (.invokevirtual 145, 3) := by decide +kernel
theorem dX2_compromiseIn_38 : decode cX2_compromiseIn 38 = .ok (.iconst 0, 1) := by decide +kernel
theorem dX2_compromiseIn_39 : decode cX2_compromiseIn 39 = .ok (.istore_n 2, 1) := by decide +kernel
theorem dX2_compromiseIn_40 : decode cX2_compromiseIn 40 = .ok (.iload_n 2, 1) := by decide +kernel
theorem dX2_compromiseIn_41 : decode cX2_compromiseIn 41 = .ok (.iload_n 1, 1) := by decide +kernel
theorem dX2_compromiseIn_42 : decode cX2_compromiseIn 42 = .ok (.if_icmp .ge 14, 3) := by decide +kernel
theorem dX2_compromiseIn_45 : decode cX2_compromiseIn 45 = .ok (.aload_n 0, 1) := by decide +kernel
theorem dX2_compromiseIn_46 : decode cX2_compromiseIn 46 = .ok (.invokevirtual 84, 3) := by decide +kernel
theorem dX2_compromiseIn_49 : decode cX2_compromiseIn 49 = .ok (.pop, 1) := by decide +kernel
theorem dX2_compromiseIn_50 : decode cX2_compromiseIn 50 = .ok (.iinc 2 1, 3) := by decide +kernel
theorem dX2_compromiseIn_53 : decode cX2_compromiseIn 53 = .ok (.goto (-13), 3) := by decide +kernel
theorem dX2_compromiseIn_56 : decode cX2_compromiseIn 56 = .ok (.aload_n 0, 1) := by decide +kernel
theorem dX2_compromiseIn_57 : decode cX2_compromiseIn 57 = .ok (.invokevirtual 70, 3) := by decide +kernel
theorem dX2_compromiseIn_60 : decode cX2_compromiseIn 60 = .ok (.istore_n 2, 1) := by decide +kernel
theorem dX2_compromiseIn_61 : decode cX2_compromiseIn 61 = .ok (.aload_n 0, 1) := by decide +kernel
theorem dX2_compromiseIn_62 : decode cX2_compromiseIn 62 = .ok (.invokevirtual 148, 3) := by decide +kernel
theorem dX2_compromiseIn_65 : decode cX2_compromiseIn 65 = .ok (.iload_n 2, 1) := by decide +kernel
theorem dX2_compromiseIn_66 : decode cX2_compromiseIn 66 = .ok (.ireturn, 1) := by decide +kernel
set_option maxRecDepth 20000 in
theorem ggX2_roundsUntilTreaty_X2_keep : GoodIn wsX2_roundsUntilTreaty wsX2_keep := goodIn_r _ [6, 7, 8, 9, 10, 11, 12, 63, 64, 65, 66, 67, 68, 69, 70, 71, 72, 73] (by decide +kernel) (by decide +kernel)
set_option maxRecDepth 20000 in
theorem gX2_roundsUntilTreaty_X2_keep : GoodIn wsX2_roundsUntilTreaty (wsV RX2 145 RX2 yX2_keep wsX2_keep) := goodIn_app (goodIn_of _ (by decide +kernel)) ggX2_roundsUntilTreaty_X2_keep
set_option maxRecDepth 20000 in
theorem ggX2_roundsUntilTreaty_X2_agree : GoodIn wsX2_roundsUntilTreaty wsX2_agree := goodIn_r _ [16, 17, 18, 19, 20, 21, 5, 22, 7, 23, 24, 25, 26, 27, 28, 29, 63, 64, 65, 66, 67, 68, 69, 70, 71, 72, 73] (by decide +kernel) (by decide +kernel)
set_option maxRecDepth 20000 in
theorem gX2_roundsUntilTreaty_X2_agree : GoodIn wsX2_roundsUntilTreaty (wsV RX2 120 RX2 yX2_agree wsX2_agree) := goodIn_app (goodIn_of _ (by decide +kernel)) ggX2_roundsUntilTreaty_X2_agree
set_option maxRecDepth 20000 in
theorem ggX2_roundsUntilTreaty_X2_roundOn : GoodIn wsX2_roundsUntilTreaty wsX2_roundOn := goodIn_r _ [33, 17, 7, 34, 35, 36, 5, 37, 38, 39, 40, 41, 42, 18, 43, 44, 45, 46, 47, 48, 23, 24, 25, 26, 27, 28, 29, 49, 50, 51, 52, 53, 54, 55, 56, 57, 58, 63, 64, 65, 66, 67, 68, 69, 70, 71, 72, 73] (by decide +kernel) (by decide +kernel)
set_option maxRecDepth 20000 in
theorem gX2_roundsUntilTreaty_X2_roundOn : GoodIn wsX2_roundsUntilTreaty (wsV RX2 84 RX2 yX2_roundOn wsX2_roundOn) := goodIn_app (goodIn_of _ (by decide +kernel)) ggX2_roundsUntilTreaty_X2_roundOn
set_option maxRecDepth 20000 in
theorem ggX2_roundsUntilTreaty_X2_bringBack : GoodIn wsX2_roundsUntilTreaty wsX2_bringBack := goodIn_r _ [62, 8, 7, 9, 10, 11, 12, 63, 64, 65, 66, 67, 68, 69, 70, 71, 72, 73] (by decide +kernel) (by decide +kernel)
set_option maxRecDepth 20000 in
theorem gX2_roundsUntilTreaty_X2_bringBack : GoodIn wsX2_roundsUntilTreaty (wsV RX2 148 RX2 yX2_bringBack wsX2_bringBack) := goodIn_app (goodIn_of _ (by decide +kernel)) ggX2_roundsUntilTreaty_X2_bringBack
theorem dX2_roundsUntilTreaty_0 : decode cX2_roundsUntilTreaty 0 = .ok (.aload_n 0, 1) := by decide +kernel
theorem dX2_roundsUntilTreaty_1 : decode cX2_roundsUntilTreaty 1 = .ok (.iconst 0, 1) := by decide +kernel
theorem dX2_roundsUntilTreaty_2 : decode cX2_roundsUntilTreaty 2 = .ok (.putfield 35, 3) := by decide +kernel
theorem dX2_roundsUntilTreaty_5 : decode cX2_roundsUntilTreaty 5 = .ok (.aload_n 0, 1) := by decide +kernel
theorem dX2_roundsUntilTreaty_6 : decode cX2_roundsUntilTreaty 6 = .ok (.invokevirtual 145, 3) := by decide +kernel
theorem dX2_roundsUntilTreaty_9 : decode cX2_roundsUntilTreaty 9 = .ok (.iconst 0, 1) := by decide +kernel
theorem dX2_roundsUntilTreaty_10 : decode cX2_roundsUntilTreaty 10 = .ok (.istore_n 1, 1) := by decide +kernel
theorem dX2_roundsUntilTreaty_11 : decode cX2_roundsUntilTreaty 11 = .ok (.iload_n 1, 1) := by decide +kernel
theorem dX2_roundsUntilTreaty_12 : decode cX2_roundsUntilTreaty 12 = .ok (.bipush 100, 2) := by decide +kernel
theorem dX2_roundsUntilTreaty_14 : decode cX2_roundsUntilTreaty 14 = .ok (.if_icmp .gt 21, 3) := by decide +kernel
theorem dX2_roundsUntilTreaty_17 : decode cX2_roundsUntilTreaty 17 = .ok (.aload_n 0, 1) := by decide +kernel
theorem dX2_roundsUntilTreaty_18 : decode cX2_roundsUntilTreaty 18 = .ok (.invokevirtual 120, 3) := by decide +kernel
theorem dX2_roundsUntilTreaty_21 : decode cX2_roundsUntilTreaty 21 = .ok (.ifCond .ne 14, 3) := by decide +kernel
theorem dX2_roundsUntilTreaty_24 : decode cX2_roundsUntilTreaty 24 = .ok (.aload_n 0, 1) := by decide +kernel
theorem dX2_roundsUntilTreaty_25 : decode cX2_roundsUntilTreaty 25 = .ok (.invokevirtual 84, 3) := by decide +kernel
theorem dX2_roundsUntilTreaty_28 : decode cX2_roundsUntilTreaty 28 = .ok (.pop, 1) := by decide +kernel
theorem dX2_roundsUntilTreaty_29 : decode cX2_roundsUntilTreaty 29 = .ok (.iinc 1 1, 3) := by decide +kernel
theorem dX2_roundsUntilTreaty_32 : decode cX2_roundsUntilTreaty 32 = .ok (.goto (-21), 3) := by decide +kernel
theorem dX2_roundsUntilTreaty_35 : decode cX2_roundsUntilTreaty 35 = .ok (.aload_n 0, 1) := by decide +kernel
theorem dX2_roundsUntilTreaty_36 : decode cX2_roundsUntilTreaty 36 = .ok (.invokevirtual 148, 3) := by decide +kernel
theorem dX2_roundsUntilTreaty_39 : decode cX2_roundsUntilTreaty 39 = .ok (.iload_n 1, 1) := by decide +kernel
theorem dX2_roundsUntilTreaty_40 : decode cX2_roundsUntilTreaty 40 = .ok (.bipush 100, 2) := by decide +kernel
theorem dX2_roundsUntilTreaty_42 : decode cX2_roundsUntilTreaty 42 = .ok (.if_icmp .le 7, 3) := by decide +kernel
theorem dX2_roundsUntilTreaty_45 : decode cX2_roundsUntilTreaty 45 = .ok (.iconst (-1), 1) := by decide +kernel
theorem dX2_roundsUntilTreaty_46 : decode cX2_roundsUntilTreaty 46 = .ok (.goto 4, 3) := by decide +kernel
theorem dX2_roundsUntilTreaty_49 : decode cX2_roundsUntilTreaty 49 = .ok (.iload_n 1, 1) := by decide +kernel
theorem dX2_roundsUntilTreaty_50 : decode cX2_roundsUntilTreaty 50 = .ok (.ireturn, 1) := by decide +kernel
set_option maxRecDepth 20000 in
theorem ggX2_untilStill_X2_keep : GoodIn wsX2_untilStill wsX2_keep := goodIn_r _ [5, 6, 7, 8, 9, 10, 11, 54, 55, 56, 57, 58, 59, 60, 61, 62, 63, 64] (by decide +kernel) (by decide +kernel)
set_option maxRecDepth 20000 in
theorem gX2_untilStill_X2_keep : GoodIn wsX2_untilStill (wsV RX2 145 RX2 yX2_keep wsX2_keep) := goodIn_app (goodIn_of _ (by decide +kernel)) ggX2_untilStill_X2_keep
set_option maxRecDepth 20000 in
theorem ggX2_untilStill_X2_roundOn : GoodIn wsX2_untilStill wsX2_roundOn := goodIn_r _ [15, 16, 6, 17, 18, 19, 4, 20, 21, 22, 23, 24, 25, 26, 27, 28, 29, 30, 31, 32, 33, 34, 35, 36, 37, 38, 39, 40, 41, 42, 43, 44, 45, 46, 47, 48, 49, 54, 55, 56, 57, 58, 59, 60, 61, 62, 63, 64] (by decide +kernel) (by decide +kernel)
set_option maxRecDepth 20000 in
theorem gX2_untilStill_X2_roundOn : GoodIn wsX2_untilStill (wsV RX2 84 RX2 yX2_roundOn wsX2_roundOn) := goodIn_app (goodIn_of _ (by decide +kernel)) ggX2_untilStill_X2_roundOn
set_option maxRecDepth 20000 in
theorem ggX2_untilStill_X2_bringBack : GoodIn wsX2_untilStill wsX2_bringBack := goodIn_r _ [53, 7, 6, 8, 9, 10, 11, 54, 55, 56, 57, 58, 59, 60, 61, 62, 63, 64] (by decide +kernel) (by decide +kernel)
set_option maxRecDepth 20000 in
theorem gX2_untilStill_X2_bringBack : GoodIn wsX2_untilStill (wsV RX2 148 RX2 yX2_bringBack wsX2_bringBack) := goodIn_app (goodIn_of _ (by decide +kernel)) ggX2_untilStill_X2_bringBack
theorem dX2_untilStill_0 : decode cX2_untilStill 0 = .ok (.aload_n 0, 1) := by decide +kernel
theorem dX2_untilStill_1 : decode cX2_untilStill 1 = .ok (.invokevirtual 145, 3) := by decide +kernel
theorem dX2_untilStill_4 : decode cX2_untilStill 4 = .ok (.iconst 0, 1) := by decide +kernel
theorem dX2_untilStill_5 : decode cX2_untilStill 5 = .ok (.istore_n 1, 1) := by decide +kernel
theorem dX2_untilStill_6 : decode cX2_untilStill 6 = .ok (.iload_n 1, 1) := by decide +kernel
theorem dX2_untilStill_7 : decode cX2_untilStill 7 = .ok (.bipush 100, 2) := by decide +kernel
theorem dX2_untilStill_9 : decode cX2_untilStill 9 = .ok (.if_icmp .gt 16, 3) := by decide +kernel
theorem dX2_untilStill_12 : decode cX2_untilStill 12 = .ok (.aload_n 0, 1) := by decide +kernel
theorem dX2_untilStill_13 : decode cX2_untilStill 13 = .ok (.invokevirtual 84, 3) := by decide +kernel
theorem dX2_untilStill_16 : decode cX2_untilStill 16 = .ok (.ifCond .le 9, 3) := by decide +kernel
theorem dX2_untilStill_19 : decode cX2_untilStill 19 = .ok (.iinc 1 1, 3) := by decide +kernel
theorem dX2_untilStill_22 : decode cX2_untilStill 22 = .ok (.goto (-16), 3) := by decide +kernel
theorem dX2_untilStill_25 : decode cX2_untilStill 25 = .ok (.aload_n 0, 1) := by decide +kernel
theorem dX2_untilStill_26 : decode cX2_untilStill 26 = .ok (.invokevirtual 148, 3) := by decide +kernel
theorem dX2_untilStill_29 : decode cX2_untilStill 29 = .ok (.iload_n 1, 1) := by decide +kernel
theorem dX2_untilStill_30 : decode cX2_untilStill 30 = .ok (.bipush 100, 2) := by decide +kernel
theorem dX2_untilStill_32 : decode cX2_untilStill 32 = .ok (.if_icmp .le 7, 3) := by decide +kernel
theorem dX2_untilStill_35 : decode cX2_untilStill 35 = .ok (.iconst (-1), 1) := by decide +kernel
theorem dX2_untilStill_36 : decode cX2_untilStill 36 = .ok (.goto 4, 3) := by decide +kernel
theorem dX2_untilStill_39 : decode cX2_untilStill 39 = .ok (.iload_n 1, 1) := by decide +kernel
theorem dX2_untilStill_40 : decode cX2_untilStill 40 = .ok (.ireturn, 1) := by decide +kernel
set_option maxRecDepth 20000 in
theorem ggX2_roundsUntilStill_X2_untilStill : GoodIn wsX2_roundsUntilStill wsX2_untilStill := goodIn_r _ [5, 6, 7, 8, 4, 9, 10, 11, 12, 13, 14, 15, 16, 17, 18, 19, 20, 21, 22, 23, 24, 25, 26, 27, 28, 29, 30, 31, 32, 33, 34, 35, 36, 37, 38, 39, 40, 41, 42, 43, 44, 45, 46, 47, 48, 49, 50, 51, 52, 53, 54, 55, 56, 57, 63, 64, 65, 66, 67, 68, 69, 70, 71, 72, 73] (by decide +kernel) (by decide +kernel)
set_option maxRecDepth 20000 in
theorem gX2_roundsUntilStill_X2_untilStill : GoodIn wsX2_roundsUntilStill (wsV RX2 151 RX2 yX2_untilStill wsX2_untilStill) := goodIn_app (goodIn_of _ (by decide +kernel)) ggX2_roundsUntilStill_X2_untilStill
set_option maxRecDepth 20000 in
theorem ggX2_roundsUntilStill_X2_told : GoodIn wsX2_roundsUntilStill wsX2_told := goodIn_r _ [61, 62, 63, 64, 65, 66, 67, 68, 69, 70, 71, 72, 73] (by decide +kernel) (by decide +kernel)
set_option maxRecDepth 20000 in
theorem gX2_roundsUntilStill_X2_told : GoodIn wsX2_roundsUntilStill (wsV RX2 113 RX2 yX2_told wsX2_told) := goodIn_app (goodIn_of _ (by decide +kernel)) ggX2_roundsUntilStill_X2_told
theorem dX2_roundsUntilStill_0 : decode cX2_roundsUntilStill 0 = .ok (.aload_n 0, 1) := by decide +kernel
theorem dX2_roundsUntilStill_1 : decode cX2_roundsUntilStill 1 = .ok (.aload_n 0, 1) := by decide +kernel
theorem dX2_roundsUntilStill_2 : decode cX2_roundsUntilStill 2 = .ok (.invokevirtual 151, 3) := by decide +kernel
theorem dX2_roundsUntilStill_5 : decode cX2_roundsUntilStill 5 = .ok (.invokevirtual 113, 3) := by decide +kernel
theorem dX2_roundsUntilStill_8 : decode cX2_roundsUntilStill 8 = .ok (.ireturn, 1) := by decide +kernel
set_option maxRecDepth 20000 in
theorem ggX2_stand_X2_middle : GoodIn wsX2_stand wsX2_middle := goodIn_r _ [6, 7, 8, 9, 5, 10, 11, 12, 13, 1, 23, 24, 25, 26, 27, 28, 29, 30, 31, 32, 33] (by decide +kernel) (by decide +kernel)
set_option maxRecDepth 20000 in
theorem gX2_stand_X2_middle : GoodIn wsX2_stand (wsV RX2 70 RX2 yX2_middle wsX2_middle) := goodIn_app (goodIn_of _ (by decide +kernel)) ggX2_stand_X2_middle
set_option maxRecDepth 20000 in
theorem ggX2_stand_X2_apart : GoodIn wsX2_stand wsX2_apart := goodIn_r _ [17, 18, 19, 20, 21, 22, 23, 24, 25, 26, 27, 28, 29, 30, 31, 32, 33] (by decide +kernel) (by decide +kernel)
set_option maxRecDepth 20000 in
theorem gX2_stand_X2_apart : GoodIn wsX2_stand (wsV RX2 127 RX2 yX2_apart wsX2_apart) := goodIn_app (goodIn_of _ (by decide +kernel)) ggX2_stand_X2_apart
theorem dX2_stand_0 : decode cX2_stand 0 = .ok (.aload_n 0, 1) := by decide +kernel
theorem dX2_stand_1 : decode cX2_stand 1 = .ok (.getfield 26, 3) := by decide +kernel
theorem dX2_stand_4 : decode cX2_stand 4 = .ok (.iload_n 1, 1) := by decide +kernel
theorem dX2_stand_5 : decode cX2_stand 5 = .ok (.iaload, 1) := by decide +kernel
theorem dX2_stand_6 : decode cX2_stand 6 = .ok (.istore_n 2, 1) := by decide +kernel
theorem dX2_stand_7 : decode cX2_stand 7 = .ok (.iconst (-1), 1) := by decide +kernel
theorem dX2_stand_8 : decode cX2_stand 8 = .ok (.istore_n 3, 1) := by decide +kernel
theorem dX2_stand_9 : decode cX2_stand 9 = .ok (.bipush 41, 2) := by decide +kernel
theorem dX2_stand_11 : decode cX2_stand 11 = .ok (.istore 4, 2) := by decide +kernel
theorem dX2_stand_13 : decode cX2_stand 13 = .ok (.iconst 0, 1) := by decide +kernel
theorem dX2_stand_14 : decode cX2_stand 14 = .ok (.istore 5, 2) := by decide +kernel
theorem dX2_stand_16 : decode cX2_stand 16 = .ok (.iload 5, 2) := by decide +kernel
theorem dX2_stand_18 : decode cX2_stand 18 = .ok (.bipush 41, 2) := by decide +kernel
theorem dX2_stand_20 : decode cX2_stand 20 = .ok (.if_icmp .ge 45, 3) := by decide +kernel
theorem dX2_stand_23 : decode cX2_stand 23 = .ok (.aload_n 0, 1) := by decide +kernel
theorem dX2_stand_24 : decode cX2_stand 24 = .ok (.getfield 26, 3) := by decide +kernel
theorem dX2_stand_27 : decode cX2_stand 27 = .ok (.iload_n 1, 1) := by decide +kernel
theorem dX2_stand_28 : decode cX2_stand 28 = .ok (.iload 5, 2) := by decide +kernel
theorem dX2_stand_30 : decode cX2_stand 30 = .ok (.iastore, 1) := by decide +kernel
theorem dX2_stand_31 : decode cX2_stand 31 = .ok (.aload_n 0, 1) := by decide +kernel
theorem dX2_stand_32 : decode cX2_stand 32 = .ok (.iload_n 1, 1) := by decide +kernel
theorem dX2_stand_33 : decode cX2_stand 33 = .ok (.aload_n 0, 1) := by decide +kernel
theorem dX2_stand_34 : decode cX2_stand 34 = .ok (.invokevirtual 70, 3) := by decide +kernel
theorem dX2_stand_37 : decode cX2_stand 37 = .ok (.invokevirtual 127, 3) := by decide +kernel
theorem dX2_stand_40 : decode cX2_stand 40 = .ok (.istore 6, 2) := by decide +kernel
theorem dX2_stand_42 : decode cX2_stand 42 = .ok (.iload 6, 2) := by decide +kernel
theorem dX2_stand_44 : decode cX2_stand 44 = .ok (.iload 4, 2) := by decide +kernel
theorem dX2_stand_46 : decode cX2_stand 46 = .ok (.if_icmp .lt 6, 3) := by decide +kernel
theorem dX2_stand_49 : decode cX2_stand 49 = .ok (.goto 10, 3) := by decide +kernel
theorem dX2_stand_52 : decode cX2_stand 52 = .ok (.iload 5, 2) := by decide +kernel
theorem dX2_stand_54 : decode cX2_stand 54 = .ok (.istore_n 3, 1) := by decide +kernel
theorem dX2_stand_55 : decode cX2_stand 55 = .ok (.iload 6, 2) := by decide +kernel
theorem dX2_stand_57 : decode cX2_stand 57 = .ok (.istore 4, 2) := by decide +kernel
theorem dX2_stand_59 : decode cX2_stand 59 = .ok (.iinc 5 1, 3) := by decide +kernel
theorem dX2_stand_62 : decode cX2_stand 62 = .ok (.goto (-46), 3) := by decide +kernel
theorem dX2_stand_65 : decode cX2_stand 65 = .ok (.aload_n 0, 1) := by decide +kernel
theorem dX2_stand_66 : decode cX2_stand 66 = .ok (.getfield 26, 3) := by decide +kernel
theorem dX2_stand_69 : decode cX2_stand 69 = .ok (.iload_n 1, 1) := by decide +kernel
theorem dX2_stand_70 : decode cX2_stand 70 = .ok (.iload_n 2, 1) := by decide +kernel
theorem dX2_stand_71 : decode cX2_stand 71 = .ok (.iastore, 1) := by decide +kernel
theorem dX2_stand_72 : decode cX2_stand 72 = .ok (.iload_n 3, 1) := by decide +kernel
theorem dX2_stand_73 : decode cX2_stand 73 = .ok (.ireturn, 1) := by decide +kernel
set_option maxRecDepth 20000 in
theorem ggX2_bestStand_X2_isDelegate : GoodIn wsX2_bestStand wsX2_isDelegate := goodIn_r _ [6, 7, 8, 9, 5, 10, 39, 40, 41, 42, 43, 44, 45, 46, 47, 48, 49] (by decide +kernel) (by decide +kernel)
set_option maxRecDepth 20000 in
theorem gX2_bestStand_X2_isDelegate : GoodIn wsX2_bestStand (wsV RX2 96 RX2 yX2_isDelegate wsX2_isDelegate) := goodIn_app (goodIn_of _ (by decide +kernel)) ggX2_bestStand_X2_isDelegate
set_option maxRecDepth 20000 in
theorem ggX2_bestStand_X2_stand : GoodIn wsX2_bestStand wsX2_stand := goodIn_r _ [14, 15, 16, 17, 18, 5, 19, 20, 21, 22, 23, 24, 7, 25, 26, 27, 28, 29, 30, 31, 32, 33, 34, 39, 40, 41, 42, 43, 44, 45, 46, 47, 48, 49] (by decide +kernel) (by decide +kernel)
set_option maxRecDepth 20000 in
theorem gX2_bestStand_X2_stand : GoodIn wsX2_bestStand (wsV RX2 154 RX2 yX2_stand wsX2_stand) := goodIn_app (goodIn_of _ (by decide +kernel)) ggX2_bestStand_X2_stand
set_option maxRecDepth 20000 in
theorem ggX2_bestStand_X2_fail : GoodIn wsX2_bestStand wsX2_fail := goodIn_r _ [38, 1, 39, 40, 41, 42, 43, 44, 45, 46, 47, 48, 49] (by decide +kernel) (by decide +kernel)
set_option maxRecDepth 20000 in
theorem gX2_bestStand_X2_fail : GoodIn wsX2_bestStand (wsV RX2 93 RX2 yX2_fail wsX2_fail) := goodIn_app (goodIn_of _ (by decide +kernel)) ggX2_bestStand_X2_fail
theorem dX2_bestStand_0 : decode cX2_bestStand 0 = .ok (.aload_n 0, 1) := by decide +kernel
theorem dX2_bestStand_1 : decode cX2_bestStand 1 = .ok (.iconst 0, 1) := by decide +kernel
theorem dX2_bestStand_2 : decode cX2_bestStand 2 = .ok (.putfield 35, 3) := by decide +kernel
theorem dX2_bestStand_5 : decode cX2_bestStand 5 = .ok (.aload_n 0, 1) := by decide +kernel
theorem dX2_bestStand_6 : decode cX2_bestStand 6 = .ok (.iload_n 1, 1) := by decide +kernel
theorem dX2_bestStand_7 : decode cX2_bestStand 7 = .ok (.invokevirtual 96, 3) := by decide +kernel
theorem dX2_bestStand_10 : decode cX2_bestStand 10 = .ok (.ifCond .eq 11, 3) := by decide +kernel
theorem dX2_bestStand_13 : decode cX2_bestStand 13 = .ok (.aload_n 0, 1) := by decide +kernel
theorem dX2_bestStand_14 : decode cX2_bestStand 14 = .ok (.iload_n 1, 1) := by decide +kernel
theorem dX2_bestStand_15 : decode cX2_bestStand 15 = .ok (.invokevirtual 154, 3) := by decide +kernel
theorem dX2_bestStand_18 : decode cX2_bestStand 18 = .ok (.goto 8, 3) := by decide +kernel
theorem dX2_bestStand_21 : decode cX2_bestStand 21 = .ok (.aload_n 0, 1) := by decide +kernel
theorem dX2_bestStand_22 : decode cX2_bestStand 22 = .ok (.iconst 1, 1) := by decide +kernel
theorem dX2_bestStand_23 : decode cX2_bestStand 23 = .ok (.invokevirtual 93, 3) := by decide +kernel
theorem dX2_bestStand_26 : decode cX2_bestStand 26 = .ok (.ireturn, 1) := by decide +kernel
theorem dX2_meanPlank_0 : decode cX2_meanPlank 0 = .ok (.aload_n 0, 1) := by decide +kernel
theorem dX2_meanPlank_1 : decode cX2_meanPlank 1 = .ok (.iconst 0, 1) := by decide +kernel
theorem dX2_meanPlank_2 : decode cX2_meanPlank 2 = .ok (.putfield 35, 3) := by decide +kernel
theorem dX2_meanPlank_5 : decode cX2_meanPlank 5 = .ok (.iconst 0, 1) := by decide +kernel
theorem dX2_meanPlank_6 : decode cX2_meanPlank 6 = .ok (.istore_n 1, 1) := by decide +kernel
theorem dX2_meanPlank_7 : decode cX2_meanPlank 7 = .ok (.iconst 0, 1) := by decide +kernel
theorem dX2_meanPlank_8 : decode cX2_meanPlank 8 = .ok (.istore_n 2, 1) := by decide +kernel
theorem dX2_meanPlank_9 : decode cX2_meanPlank 9 = .ok (.iload_n 2, 1) := by decide +kernel
theorem dX2_meanPlank_10 : decode cX2_meanPlank 10 = .ok (.aload_n 0, 1) := by decide +kernel
theorem dX2_meanPlank_11 : decode cX2_meanPlank 11 = .ok (.getfield 38, 3) := by decide +kernel
theorem dX2_meanPlank_14 : decode cX2_meanPlank 14 = .ok (.if_icmp .ge 18, 3) := by decide +kernel
theorem dX2_meanPlank_17 : decode cX2_meanPlank 17 = .ok (.iload_n 1, 1) := by decide +kernel
theorem dX2_meanPlank_18 : decode cX2_meanPlank 18 = .ok (.aload_n 0, 1) := by decide +kernel
theorem dX2_meanPlank_19 : decode cX2_meanPlank 19 = .ok (.getfield 26, 3) := by decide +kernel
theorem dX2_meanPlank_22 : decode cX2_meanPlank 22 = .ok (.iload_n 2, 1) := by decide +kernel
theorem dX2_meanPlank_23 : decode cX2_meanPlank 23 = .ok (.iaload, 1) := by decide +kernel
theorem dX2_meanPlank_24 : decode cX2_meanPlank 24 = .ok (.iadd, 1) := by decide +kernel
theorem dX2_meanPlank_25 : decode cX2_meanPlank 25 = .ok (.istore_n 1, 1) := by decide +kernel
theorem dX2_meanPlank_26 : decode cX2_meanPlank 26 = .ok (.iinc 2 1, 3) := by decide +kernel
theorem dX2_meanPlank_29 : decode cX2_meanPlank 29 = .ok (.goto (-20), 3) := by decide +kernel
theorem dX2_meanPlank_32 : decode cX2_meanPlank 32 = .ok (.aload_n 0, 1) := by decide +kernel
theorem dX2_meanPlank_33 : decode cX2_meanPlank 33 = .ok (.getfield 38, 3) := by decide +kernel
theorem dX2_meanPlank_36 : decode cX2_meanPlank 36 = .ok (.ifCond .ne 7, 3) := by decide +kernel
theorem dX2_meanPlank_39 : decode cX2_meanPlank 39 = .ok (.dconst 0, 1) := by decide +kernel
theorem dX2_meanPlank_40 : decode cX2_meanPlank 40 = .ok (.goto 11, 3) := by decide +kernel
theorem dX2_meanPlank_43 : decode cX2_meanPlank 43 = .ok (.iload_n 1, 1) := by decide +kernel
theorem dX2_meanPlank_44 : decode cX2_meanPlank 44 = .ok (.i2d, 1) := by decide +kernel
theorem dX2_meanPlank_45 : decode cX2_meanPlank 45 = .ok (.aload_n 0, 1) := by decide +kernel
theorem dX2_meanPlank_46 : decode cX2_meanPlank 46 = .ok (.getfield 38, 3) := by decide +kernel
theorem dX2_meanPlank_49 : decode cX2_meanPlank 49 = .ok (.i2d, 1) := by decide +kernel
theorem dX2_meanPlank_50 : decode cX2_meanPlank 50 = .ok (.ddiv, 1) := by decide +kernel
theorem dX2_meanPlank_51 : decode cX2_meanPlank 51 = .ok (.dreturn, 1) := by decide +kernel
set_option maxRecDepth 20000 in
theorem ggX2_digest_X2_wide : GoodIn wsX2_digest wsX2_wide := goodIn_r _ [17, 3, 12, 18, 19, 20, 21, 22, 23, 24, 98, 99, 100, 101, 102, 103, 104, 105, 106, 107, 108] (by decide +kernel) (by decide +kernel)
set_option maxRecDepth 20000 in
theorem gX2_digest_X2_wide : GoodIn wsX2_digest (wsV RX2 81 RX2 yX2_wide wsX2_wide) := goodIn_app (goodIn_of _ (by decide +kernel)) ggX2_digest_X2_wide
set_option maxRecDepth 20000 in
theorem ggX2_digest_X2_agree : GoodIn wsX2_digest wsX2_agree := goodIn_r _ [28, 3, 8, 13, 14, 15, 16, 17, 12, 18, 19, 20, 21, 22, 23, 24, 98, 99, 100, 101, 102, 103, 104, 105, 106, 107, 108] (by decide +kernel) (by decide +kernel)
set_option maxRecDepth 20000 in
theorem gX2_digest_X2_agree : GoodIn wsX2_digest (wsV RX2 120 RX2 yX2_agree wsX2_agree) := goodIn_app (goodIn_of _ (by decide +kernel)) ggX2_digest_X2_agree
set_option maxRecDepth 20000 in
theorem ggX2_digest_X2_still : GoodIn wsX2_digest wsX2_still := goodIn_r _ [32, 2, 12, 33, 34, 35, 36, 37, 38, 39, 16, 40, 3, 41, 42, 43, 44, 45, 46, 47, 48, 49, 8, 50, 51, 52, 53, 9, 10, 18, 19, 20, 21, 22, 23, 24, 11, 54, 55, 56, 57, 5, 58, 59, 60, 61, 98, 99, 100, 101, 102, 103, 104, 105, 106, 107, 108] (by decide +kernel) (by decide +kernel)
set_option maxRecDepth 20000 in
theorem gX2_digest_X2_still : GoodIn wsX2_digest (wsV RX2 142 RX2 yX2_still wsX2_still) := goodIn_app (goodIn_of _ (by decide +kernel)) ggX2_digest_X2_still
set_option maxRecDepth 20000 in
theorem ggX2_digest_X2_middle : GoodIn wsX2_digest wsX2_middle := goodIn_r _ [44, 45, 46, 47, 16, 48, 49, 3, 8, 12, 98, 99, 100, 101, 102, 103, 104, 105, 106, 107, 108] (by decide +kernel) (by decide +kernel)
set_option maxRecDepth 20000 in
theorem gX2_digest_X2_middle : GoodIn wsX2_digest (wsV RX2 70 RX2 yX2_middle wsX2_middle) := goodIn_app (goodIn_of _ (by decide +kernel)) ggX2_digest_X2_middle
set_option maxRecDepth 20000 in
theorem ggX2_digest_X2_decisive : GoodIn wsX2_digest wsX2_decisive := goodIn_r _ [65, 12, 41, 42, 43, 16, 44, 45, 46, 47, 48, 49, 3, 8, 98, 99, 100, 101, 102, 103, 104, 105, 106, 107, 108] (by decide +kernel) (by decide +kernel)
set_option maxRecDepth 20000 in
theorem gX2_digest_X2_decisive : GoodIn wsX2_digest (wsV RX2 124 RX2 yX2_decisive wsX2_decisive) := goodIn_app (goodIn_of _ (by decide +kernel)) ggX2_digest_X2_decisive
set_option maxRecDepth 20000 in
theorem ggX2_digest_X2_best : GoodIn wsX2_digest wsX2_best := goodIn_r _ [69, 70, 71, 72, 16, 73, 3, 74, 75, 76, 77, 9, 78, 79, 20, 80, 98, 99, 100, 101, 102, 103, 104, 105, 106, 107, 108] (by decide +kernel) (by decide +kernel)
set_option maxRecDepth 20000 in
theorem gX2_digest_X2_best : GoodIn wsX2_digest (wsV RX2 133 RX2 yX2_best wsX2_best) := goodIn_app (goodIn_of _ (by decide +kernel)) ggX2_digest_X2_best
set_option maxRecDepth 20000 in
theorem ggX2_digest_X2_allApart : GoodIn wsX2_digest wsX2_allApart := goodIn_r _ [73, 3, 74, 75, 76, 16, 77, 9, 78, 79, 20, 80, 98, 99, 100, 101, 102, 103, 104, 105, 106, 107, 108] (by decide +kernel) (by decide +kernel)
set_option maxRecDepth 20000 in
theorem gX2_digest_X2_allApart : GoodIn wsX2_digest (wsV RX2 130 RX2 yX2_allApart wsX2_allApart) := goodIn_app (goodIn_of _ (by decide +kernel)) ggX2_digest_X2_allApart
set_option maxRecDepth 20000 in
theorem ggX2_digest_X2_untilStill : GoodIn wsX2_digest wsX2_untilStill := goodIn_r _ [84, 85, 86, 87, 16, 88, 12, 89, 33, 34, 35, 36, 37, 38, 39, 40, 3, 41, 42, 43, 44, 45, 46, 47, 48, 49, 8, 50, 51, 52, 53, 9, 10, 18, 19, 20, 21, 22, 23, 24, 11, 54, 55, 56, 57, 5, 58, 59, 60, 61, 90, 91, 92, 93, 98, 99, 100, 101, 102, 103, 104, 105, 106, 107, 108] (by decide +kernel) (by decide +kernel)
set_option maxRecDepth 20000 in
theorem gX2_digest_X2_untilStill : GoodIn wsX2_digest (wsV RX2 151 RX2 yX2_untilStill wsX2_untilStill) := goodIn_app (goodIn_of _ (by decide +kernel)) ggX2_digest_X2_untilStill
set_option maxRecDepth 20000 in
theorem ggX2_digest_X2_step : GoodIn wsX2_digest wsX2_step := goodIn_r _ [53, 9, 10, 18, 19, 20, 21, 22, 23, 24, 12, 11, 98, 99, 100, 101, 102, 103, 104, 105, 106, 107, 108] (by decide +kernel) (by decide +kernel)
set_option maxRecDepth 20000 in
theorem gX2_digest_X2_step : GoodIn wsX2_digest (wsV RX2 74 RX2 yX2_step wsX2_step) := goodIn_app (goodIn_of _ (by decide +kernel)) ggX2_digest_X2_step
set_option maxRecDepth 20000 in
theorem ggX2_digest_X2_stand : GoodIn wsX2_digest wsX2_stand := goodIn_r _ [97, 12, 41, 42, 43, 16, 44, 45, 46, 47, 48, 49, 3, 8, 74, 75, 76, 77, 9, 78, 79, 20, 80, 98, 99, 100, 101, 102, 103, 104, 105, 106, 107, 108] (by decide +kernel) (by decide +kernel)
set_option maxRecDepth 20000 in
theorem gX2_digest_X2_stand : GoodIn wsX2_digest (wsV RX2 154 RX2 yX2_stand wsX2_stand) := goodIn_app (goodIn_of _ (by decide +kernel)) ggX2_digest_X2_stand
set_option maxRecDepth 20000 in
theorem ggX2_digest_X2_apart : GoodIn wsX2_digest wsX2_apart := goodIn_r _ [77, 9, 78, 79, 20, 80, 98, 99, 100, 101, 102, 103, 104, 105, 106, 107, 108] (by decide +kernel) (by decide +kernel)
set_option maxRecDepth 20000 in
theorem gX2_digest_X2_apart : GoodIn wsX2_digest (wsV RX2 127 RX2 yX2_apart wsX2_apart) := goodIn_app (goodIn_of _ (by decide +kernel)) ggX2_digest_X2_apart
theorem dX2_digest_0 : decode cX2_digest 0 = .ok (.aload_n 0, 1) := by decide +kernel
theorem dX2_digest_1 : decode cX2_digest 1 = .ok (.iconst 0, 1) := by decide +kernel
theorem dX2_digest_2 : decode cX2_digest 2 = .ok (.putfield 35, 3) := by decide +kernel
theorem dX2_digest_5 : decode cX2_digest 5 = .ok (.bipush 6, 2) := by decide +kernel
theorem dX2_digest_7 : decode cX2_digest 7 = .ok (.newarray .int, 2) := by decide +kernel
theorem dX2_digest_9 : decode cX2_digest 9 = .ok (.dup, 1) := by decide +kernel
theorem dX2_digest_10 : decode cX2_digest 10 = .ok (.iconst 0, 1) := by decide +kernel
theorem dX2_digest_11 : decode cX2_digest 11 = .ok (.aload_n 0, 1) := by decide +kernel
theorem dX2_digest_12 : decode cX2_digest 12 = .ok (.getfield 38, 3) := by decide +kernel
theorem dX2_digest_15 : decode cX2_digest 15 = .ok (.iastore, 1) := by decide +kernel
theorem dX2_digest_16 : decode cX2_digest 16 = .ok (.dup, 1) := by decide +kernel
theorem dX2_digest_17 : decode cX2_digest 17 = .ok (.iconst 1, 1) := by decide +kernel
theorem dX2_digest_18 : decode cX2_digest 18 = .ok (.aload_n 0, 1) := by decide +kernel
theorem dX2_digest_19 : decode cX2_digest 19 = .ok (.getfield 110, 3) := by decide +kernel
theorem dX2_digest_22 : decode cX2_digest 22 = .ok (.iastore, 1) := by decide +kernel
theorem dX2_digest_23 : decode cX2_digest 23 = .ok (.dup, 1) := by decide +kernel
theorem dX2_digest_24 : decode cX2_digest 24 = .ok (.iconst 2, 1) := by decide +kernel
theorem dX2_digest_25 : decode cX2_digest 25 = .ok (.aload_n 0, 1) := by decide +kernel
theorem dX2_digest_26 : decode cX2_digest 26 = .ok (.getfield 7, 3) := by decide +kernel
theorem dX2_digest_29 : decode cX2_digest 29 = .ok (.iastore, 1) := by decide +kernel
theorem dX2_digest_30 : decode cX2_digest 30 = .ok (.dup, 1) := by decide +kernel
theorem dX2_digest_31 : decode cX2_digest 31 = .ok (.iconst 3, 1) := by decide +kernel
theorem dX2_digest_32 : decode cX2_digest 32 = .ok (.aload_n 0, 1) := by decide +kernel
theorem dX2_digest_33 : decode cX2_digest 33 = .ok (.invokevirtual 81, 3) := by decide +kernel
theorem dX2_digest_36 : decode cX2_digest 36 = .ok (.iastore, 1) := by decide +kernel
theorem dX2_digest_37 : decode cX2_digest 37 = .ok (.dup, 1) := by decide +kernel
theorem dX2_digest_38 : decode cX2_digest 38 = .ok (.iconst 4, 1) := by decide +kernel
theorem dX2_digest_39 : decode cX2_digest 39 = .ok (.aload_n 0, 1) := by decide +kernel
theorem dX2_digest_40 : decode cX2_digest 40 = .ok (.invokevirtual 120, 3) := by decide +kernel
theorem dX2_digest_43 : decode cX2_digest 43 = .ok (.ifCond .eq 7, 3) := by decide +kernel
theorem dX2_digest_46 : decode cX2_digest 46 = .ok (.iconst 1, 1) := by decide +kernel
theorem dX2_digest_47 : decode cX2_digest 47 = .ok (.goto 4, 3) := by decide +kernel
theorem dX2_digest_50 : decode cX2_digest 50 = .ok (.iconst 0, 1) := by decide +kernel
theorem dX2_digest_51 : decode cX2_digest 51 = .ok (.iastore, 1) := by decide +kernel
theorem dX2_digest_52 : decode cX2_digest 52 = .ok (.dup, 1) := by decide +kernel
theorem dX2_digest_53 : decode cX2_digest 53 = .ok (.iconst 5, 1) := by decide +kernel
theorem dX2_digest_54 : decode cX2_digest 54 = .ok (.aload_n 0, 1) := by decide +kernel
theorem dX2_digest_55 : decode cX2_digest 55 = .ok (.invokevirtual 142, 3) := by decide +kernel
theorem dX2_digest_58 : decode cX2_digest 58 = .ok (.ifCond .eq 7, 3) := by decide +kernel
theorem dX2_digest_61 : decode cX2_digest 61 = .ok (.iconst 1, 1) := by decide +kernel
theorem dX2_digest_62 : decode cX2_digest 62 = .ok (.goto 4, 3) := by decide +kernel
theorem dX2_digest_65 : decode cX2_digest 65 = .ok (.iconst 0, 1) := by decide +kernel
theorem dX2_digest_66 : decode cX2_digest 66 = .ok (.iastore, 1) := by decide +kernel
theorem dX2_digest_67 : decode cX2_digest 67 = .ok (.astore_n 1, 1) := by decide +kernel
theorem dX2_digest_68 : decode cX2_digest 68 = .ok (.ldc2_w 157, 3) := by decide +kernel
theorem dX2_digest_71 : decode cX2_digest 71 = .ok (.lstore_n 2, 1) := by decide +kernel
theorem dX2_digest_72 : decode cX2_digest 72 = .ok (.aload_n 1, 1) := by decide +kernel
theorem dX2_digest_73 : decode cX2_digest 73 = .ok (.astore 4, 2) := by decide +kernel
theorem dX2_digest_75 : decode cX2_digest 75 = .ok (.aload 4, 2) := by decide +kernel
theorem dX2_digest_77 : decode cX2_digest 77 = .ok (.arraylength, 1) := by decide +kernel
theorem dX2_digest_78 : decode cX2_digest 78 = .ok (.istore 5, 2) := by decide +kernel
theorem dX2_digest_80 : decode cX2_digest 80 = .ok (.iconst 0, 1) := by decide +kernel
theorem dX2_digest_81 : decode cX2_digest 81 = .ok (.istore 6, 2) := by decide +kernel
theorem dX2_digest_83 : decode cX2_digest 83 = .ok (.iload 6, 2) := by decide +kernel
theorem dX2_digest_85 : decode cX2_digest 85 = .ok (.iload 5, 2) := by decide +kernel
theorem dX2_digest_87 : decode cX2_digest 87 = .ok (.if_icmp .ge 26, 3) := by decide +kernel
theorem dX2_digest_90 : decode cX2_digest 90 = .ok (.aload 4, 2) := by decide +kernel
theorem dX2_digest_92 : decode cX2_digest 92 = .ok (.iload 6, 2) := by decide +kernel
theorem dX2_digest_94 : decode cX2_digest 94 = .ok (.iaload, 1) := by decide +kernel
theorem dX2_digest_95 : decode cX2_digest 95 = .ok (.istore 7, 2) := by decide +kernel
theorem dX2_digest_97 : decode cX2_digest 97 = .ok (.lload_n 2, 1) := by decide +kernel
theorem dX2_digest_98 : decode cX2_digest 98 = .ok (.ldc2_w 159, 3) := by decide +kernel
theorem dX2_digest_101 : decode cX2_digest 101 = .ok (.lmul, 1) := by decide +kernel
theorem dX2_digest_102 : decode cX2_digest 102 = .ok (.iload 7, 2) := by decide +kernel
theorem dX2_digest_104 : decode cX2_digest 104 = .ok (.i2l, 1) := by decide +kernel
theorem dX2_digest_105 : decode cX2_digest 105 = .ok (.ladd, 1) := by decide +kernel
theorem dX2_digest_106 : decode cX2_digest 106 = .ok (.lstore_n 2, 1) := by decide +kernel
theorem dX2_digest_107 : decode cX2_digest 107 = .ok (.iinc 6 1, 3) := by decide +kernel
theorem dX2_digest_110 : decode cX2_digest 110 = .ok (.goto (-27), 3) := by decide +kernel
theorem dX2_digest_113 : decode cX2_digest 113 = .ok (.aload_n 0, 1) := by decide +kernel
theorem dX2_digest_114 : decode cX2_digest 114 = .ok (.getfield 38, 3) := by decide +kernel
theorem dX2_digest_117 : decode cX2_digest 117 = .ok (.ifCond .le 39, 3) := by decide +kernel
theorem dX2_digest_120 : decode cX2_digest 120 = .ok (.lload_n 2, 1) := by decide +kernel
theorem dX2_digest_121 : decode cX2_digest 121 = .ok (.ldc2_w 159, 3) := by decide +kernel
theorem dX2_digest_124 : decode cX2_digest 124 = .ok (.lmul, 1) := by decide +kernel
theorem dX2_digest_125 : decode cX2_digest 125 = .ok (.aload_n 0, 1) := by decide +kernel
theorem dX2_digest_126 : decode cX2_digest 126 = .ok (.invokevirtual 70, 3) := by decide +kernel
theorem dX2_digest_129 : decode cX2_digest 129 = .ok (.i2l, 1) := by decide +kernel
theorem dX2_digest_130 : decode cX2_digest 130 = .ok (.ladd, 1) := by decide +kernel
theorem dX2_digest_131 : decode cX2_digest 131 = .ok (.lstore_n 2, 1) := by decide +kernel
theorem dX2_digest_132 : decode cX2_digest 132 = .ok (.lload_n 2, 1) := by decide +kernel
theorem dX2_digest_133 : decode cX2_digest 133 = .ok (.ldc2_w 159, 3) := by decide +kernel
theorem dX2_digest_136 : decode cX2_digest 136 = .ok (.lmul, 1) := by decide +kernel
theorem dX2_digest_137 : decode cX2_digest 137 = .ok (.aload_n 0, 1) := by decide +kernel
theorem dX2_digest_138 : decode cX2_digest 138 = .ok (.invokevirtual 124, 3) := by decide +kernel
theorem dX2_digest_141 : decode cX2_digest 141 = .ok (.i2l, 1) := by decide +kernel
theorem dX2_digest_142 : decode cX2_digest 142 = .ok (.ladd, 1) := by decide +kernel
theorem dX2_digest_143 : decode cX2_digest 143 = .ok (.lstore_n 2, 1) := by decide +kernel
theorem dX2_digest_144 : decode cX2_digest 144 = .ok (.lload_n 2, 1) := by decide +kernel
theorem dX2_digest_145 : decode cX2_digest 145 = .ok (.ldc2_w 159, 3) := by decide +kernel
theorem dX2_digest_148 : decode cX2_digest 148 = .ok (.lmul, 1) := by decide +kernel
theorem dX2_digest_149 : decode cX2_digest 149 = .ok (.aload_n 0, 1) := by decide +kernel
theorem dX2_digest_150 : decode cX2_digest 150 = .ok (.invokevirtual 133, 3) := by decide +kernel
theorem dX2_digest_153 : decode cX2_digest 153 = .ok (.i2l, 1) := by decide +kernel
theorem dX2_digest_154 : decode cX2_digest 154 = .ok (.ladd, 1) := by decide +kernel
theorem dX2_digest_155 : decode cX2_digest 155 = .ok (.lstore_n 2, 1) := by decide +kernel
theorem dX2_digest_156 : decode cX2_digest 156 = .ok (.lload_n 2, 1) := by decide +kernel
theorem dX2_digest_157 : decode cX2_digest 157 = .ok (.ldc2_w 159, 3) := by decide +kernel
theorem dX2_digest_160 : decode cX2_digest 160 = .ok (.lmul, 1) := by decide +kernel
theorem dX2_digest_161 : decode cX2_digest 161 = .ok (.aload_n 0, 1) := by decide +kernel
theorem dX2_digest_162 : decode cX2_digest 162 = .ok (.aload_n 0, 1) := by decide +kernel
theorem dX2_digest_163 : decode cX2_digest 163 = .ok (.invokevirtual 70, 3) := by decide +kernel
theorem dX2_digest_166 : decode cX2_digest 166 = .ok (.invokevirtual 130, 3) := by decide +kernel
theorem dX2_digest_169 : decode cX2_digest 169 = .ok (.i2l, 1) := by decide +kernel
theorem dX2_digest_170 : decode cX2_digest 170 = .ok (.ladd, 1) := by decide +kernel
theorem dX2_digest_171 : decode cX2_digest 171 = .ok (.lstore_n 2, 1) := by decide +kernel
theorem dX2_digest_172 : decode cX2_digest 172 = .ok (.lload_n 2, 1) := by decide +kernel
theorem dX2_digest_173 : decode cX2_digest 173 = .ok (.ldc2_w 159, 3) := by decide +kernel
theorem dX2_digest_176 : decode cX2_digest 176 = .ok (.lmul, 1) := by decide +kernel
theorem dX2_digest_177 : decode cX2_digest 177 = .ok (.aload_n 0, 1) := by decide +kernel
theorem dX2_digest_178 : decode cX2_digest 178 = .ok (.invokevirtual 151, 3) := by decide +kernel
theorem dX2_digest_181 : decode cX2_digest 181 = .ok (.i2l, 1) := by decide +kernel
theorem dX2_digest_182 : decode cX2_digest 182 = .ok (.ladd, 1) := by decide +kernel
theorem dX2_digest_183 : decode cX2_digest 183 = .ok (.lstore_n 2, 1) := by decide +kernel
theorem dX2_digest_184 : decode cX2_digest 184 = .ok (.iconst 0, 1) := by decide +kernel
theorem dX2_digest_185 : decode cX2_digest 185 = .ok (.istore 4, 2) := by decide +kernel
theorem dX2_digest_187 : decode cX2_digest 187 = .ok (.iload 4, 2) := by decide +kernel
theorem dX2_digest_189 : decode cX2_digest 189 = .ok (.aload_n 0, 1) := by decide +kernel
theorem dX2_digest_190 : decode cX2_digest 190 = .ok (.getfield 38, 3) := by decide +kernel
theorem dX2_digest_193 : decode cX2_digest 193 = .ok (.if_icmp .ge 144, 3) := by decide +kernel
theorem dX2_digest_196 : decode cX2_digest 196 = .ok (.bipush 8, 2) := by decide +kernel
theorem dX2_digest_198 : decode cX2_digest 198 = .ok (.newarray .int, 2) := by decide +kernel
theorem dX2_digest_200 : decode cX2_digest 200 = .ok (.dup, 1) := by decide +kernel
theorem dX2_digest_201 : decode cX2_digest 201 = .ok (.iconst 0, 1) := by decide +kernel
theorem dX2_digest_202 : decode cX2_digest 202 = .ok (.aload_n 0, 1) := by decide +kernel
theorem dX2_digest_203 : decode cX2_digest 203 = .ok (.getfield 13, 3) := by decide +kernel
theorem dX2_digest_206 : decode cX2_digest 206 = .ok (.iload 4, 2) := by decide +kernel
theorem dX2_digest_208 : decode cX2_digest 208 = .ok (.iaload, 1) := by decide +kernel
theorem dX2_digest_209 : decode cX2_digest 209 = .ok (.iastore, 1) := by decide +kernel
theorem dX2_digest_210 : decode cX2_digest 210 = .ok (.dup, 1) := by decide +kernel
theorem dX2_digest_211 : decode cX2_digest 211 = .ok (.iconst 1, 1) := by decide +kernel
theorem dX2_digest_212 : decode cX2_digest 212 = .ok (.aload_n 0, 1) := by decide +kernel
theorem dX2_digest_213 : decode cX2_digest 213 = .ok (.getfield 17, 3) := by decide +kernel
theorem dX2_digest_216 : decode cX2_digest 216 = .ok (.iload 4, 2) := by decide +kernel
theorem dX2_digest_218 : decode cX2_digest 218 = .ok (.iaload, 1) := by decide +kernel
theorem dX2_digest_219 : decode cX2_digest 219 = .ok (.iastore, 1) := by decide +kernel
theorem dX2_digest_220 : decode cX2_digest 220 = .ok (.dup, 1) := by decide +kernel
theorem dX2_digest_221 : decode cX2_digest 221 = .ok (.iconst 2, 1) := by decide +kernel
theorem dX2_digest_222 : decode cX2_digest 222 = .ok (.aload_n 0, 1) := by decide +kernel
theorem dX2_digest_223 : decode cX2_digest 223 = .ok (.getfield 20, 3) := by decide +kernel
theorem dX2_digest_226 : decode cX2_digest 226 = .ok (.iload 4, 2) := by decide +kernel
theorem dX2_digest_228 : decode cX2_digest 228 = .ok (.iaload, 1) := by decide +kernel
theorem dX2_digest_229 : decode cX2_digest 229 = .ok (.iastore, 1) := by decide +kernel
theorem dX2_digest_230 : decode cX2_digest 230 = .ok (.dup, 1) := by decide +kernel
theorem dX2_digest_231 : decode cX2_digest 231 = .ok (.iconst 3, 1) := by decide +kernel
theorem dX2_digest_232 : decode cX2_digest 232 = .ok (.aload_n 0, 1) := by decide +kernel
theorem dX2_digest_233 : decode cX2_digest 233 = .ok (.getfield 23, 3) := by decide +kernel
theorem dX2_digest_236 : decode cX2_digest 236 = .ok (.iload 4, 2) := by decide +kernel
theorem dX2_digest_238 : decode cX2_digest 238 = .ok (.iaload, 1) := by decide +kernel
theorem dX2_digest_239 : decode cX2_digest 239 = .ok (.iastore, 1) := by decide +kernel
theorem dX2_digest_240 : decode cX2_digest 240 = .ok (.dup, 1) := by decide +kernel
theorem dX2_digest_241 : decode cX2_digest 241 = .ok (.iconst 4, 1) := by decide +kernel
theorem dX2_digest_242 : decode cX2_digest 242 = .ok (.aload_n 0, 1) := by decide +kernel
theorem dX2_digest_243 : decode cX2_digest 243 = .ok (.getfield 26, 3) := by decide +kernel
theorem dX2_digest_246 : decode cX2_digest 246 = .ok (.iload 4, 2) := by decide +kernel
theorem dX2_digest_248 : decode cX2_digest 248 = .ok (.iaload, 1) := by decide +kernel
theorem dX2_digest_249 : decode cX2_digest 249 = .ok (.iastore, 1) := by decide +kernel
theorem dX2_digest_250 : decode cX2_digest 250 = .ok (.dup, 1) := by decide +kernel
theorem dX2_digest_251 : decode cX2_digest 251 = .ok (.iconst 5, 1) := by decide +kernel
theorem dX2_digest_252 : decode cX2_digest 252 = .ok (.aload_n 0, 1) := by decide +kernel
theorem dX2_digest_253 : decode cX2_digest 253 = .ok (.iload 4, 2) := by decide +kernel
theorem dX2_digest_255 : decode cX2_digest 255 = .ok (.aload_n 0, 1) := by decide +kernel
theorem dX2_digest_256 : decode cX2_digest 256 = .ok (.invokevirtual 70, 3) := by decide +kernel
theorem dX2_digest_259 : decode cX2_digest 259 = .ok (.invokevirtual 74, 3) := by decide +kernel
theorem dX2_digest_262 : decode cX2_digest 262 = .ok (.iastore, 1) := by decide +kernel
theorem dX2_digest_263 : decode cX2_digest 263 = .ok (.dup, 1) := by decide +kernel
theorem dX2_digest_264 : decode cX2_digest 264 = .ok (.bipush 6, 2) := by decide +kernel
theorem dX2_digest_266 : decode cX2_digest 266 = .ok (.aload_n 0, 1) := by decide +kernel
theorem dX2_digest_267 : decode cX2_digest 267 = .ok (.iload 4, 2) := by decide +kernel
theorem dX2_digest_269 : decode cX2_digest 269 = .ok (.invokevirtual 154, 3) := by decide +kernel
theorem dX2_digest_272 : decode cX2_digest 272 = .ok (.iastore, 1) := by decide +kernel
theorem dX2_digest_273 : decode cX2_digest 273 = .ok (.dup, 1) := by decide +kernel
theorem dX2_digest_274 : decode cX2_digest 274 = .ok (.bipush 7, 2) := by decide +kernel
theorem dX2_digest_276 : decode cX2_digest 276 = .ok (.aload_n 0, 1) := by decide +kernel
theorem dX2_digest_277 : decode cX2_digest 277 = .ok (.iload 4, 2) := by decide +kernel
theorem dX2_digest_279 : decode cX2_digest 279 = .ok (.aload_n 0, 1) := by decide +kernel
theorem dX2_digest_280 : decode cX2_digest 280 = .ok (.invokevirtual 70, 3) := by decide +kernel
theorem dX2_digest_283 : decode cX2_digest 283 = .ok (.invokevirtual 127, 3) := by decide +kernel
theorem dX2_digest_286 : decode cX2_digest 286 = .ok (.iastore, 1) := by decide +kernel
theorem dX2_digest_287 : decode cX2_digest 287 = .ok (.astore 5, 2) := by decide +kernel
theorem dX2_digest_289 : decode cX2_digest 289 = .ok (.aload 5, 2) := by decide +kernel
theorem dX2_digest_291 : decode cX2_digest 291 = .ok (.astore 6, 2) := by decide +kernel
theorem dX2_digest_293 : decode cX2_digest 293 = .ok (.aload 6, 2) := by decide +kernel
theorem dX2_digest_295 : decode cX2_digest 295 = .ok (.arraylength, 1) := by decide +kernel
theorem dX2_digest_296 : decode cX2_digest 296 = .ok (.istore 7, 2) := by decide +kernel
theorem dX2_digest_298 : decode cX2_digest 298 = .ok (.iconst 0, 1) := by decide +kernel
theorem dX2_digest_299 : decode cX2_digest 299 = .ok (.istore 8, 2) := by decide +kernel
theorem dX2_digest_301 : decode cX2_digest 301 = .ok (.iload 8, 2) := by decide +kernel
theorem dX2_digest_303 : decode cX2_digest 303 = .ok (.iload 7, 2) := by decide +kernel
theorem dX2_digest_305 : decode cX2_digest 305 = .ok (.if_icmp .ge 26, 3) := by decide +kernel
theorem dX2_digest_308 : decode cX2_digest 308 = .ok (.aload 6, 2) := by decide +kernel
theorem dX2_digest_310 : decode cX2_digest 310 = .ok (.iload 8, 2) := by decide +kernel
theorem dX2_digest_312 : decode cX2_digest 312 = .ok (.iaload, 1) := by decide +kernel
theorem dX2_digest_313 : decode cX2_digest 313 = .ok (.istore 9, 2) := by decide +kernel
theorem dX2_digest_315 : decode cX2_digest 315 = .ok (.lload_n 2, 1) := by decide +kernel
theorem dX2_digest_316 : decode cX2_digest 316 = .ok (.ldc2_w 159, 3) := by decide +kernel
theorem dX2_digest_319 : decode cX2_digest 319 = .ok (.lmul, 1) := by decide +kernel
theorem dX2_digest_320 : decode cX2_digest 320 = .ok (.iload 9, 2) := by decide +kernel
theorem dX2_digest_322 : decode cX2_digest 322 = .ok (.i2l, 1) := by decide +kernel
theorem dX2_digest_323 : decode cX2_digest 323 = .ok (.ladd, 1) := by decide +kernel
theorem dX2_digest_324 : decode cX2_digest 324 = .ok (.lstore_n 2, 1) := by decide +kernel
theorem dX2_digest_325 : decode cX2_digest 325 = .ok (.iinc 8 1, 3) := by decide +kernel
theorem dX2_digest_328 : decode cX2_digest 328 = .ok (.goto (-27), 3) := by decide +kernel
theorem dX2_digest_331 : decode cX2_digest 331 = .ok (.iinc 4 1, 3) := by decide +kernel
theorem dX2_digest_334 : decode cX2_digest 334 = .ok (.goto (-147), 3) := by decide +kernel
theorem dX2_digest_337 : decode cX2_digest 337 = .ok (.lload_n 2, 1) := by decide +kernel
theorem dX2_digest_338 : decode cX2_digest 338 = .ok (.lreturn, 1) := by decide +kernel
theorem dJ9_abs_0f7a4_0 : decode cJ9_abs_0f7a4 0 = .ok (.iload_n 0, 1) := by decide +kernel
theorem dJ9_abs_0f7a4_1 : decode cJ9_abs_0f7a4 1 = .ok (.ifCond .ge 8, 3) := by decide +kernel
theorem dJ9_abs_0f7a4_4 : decode cJ9_abs_0f7a4 4 = .ok (.iload_n 0, 1) := by decide +kernel
theorem dJ9_abs_0f7a4_5 : decode cJ9_abs_0f7a4 5 = .ok (.ineg, 1) := by decide +kernel
theorem dJ9_abs_0f7a4_6 : decode cJ9_abs_0f7a4 6 = .ok (.goto 4, 3) := by decide +kernel
theorem dJ9_abs_0f7a4_9 : decode cJ9_abs_0f7a4 9 = .ok (.iload_n 0, 1) := by decide +kernel
theorem dJ9_abs_0f7a4_10 : decode cJ9_abs_0f7a4 10 = .ok (.ireturn, 1) := by decide +kernel
theorem dJ9_max_7cf53_0 : decode cJ9_max_7cf53 0 = .ok (.iload_n 0, 1) := by decide +kernel
theorem dJ9_max_7cf53_1 : decode cJ9_max_7cf53 1 = .ok (.iload_n 1, 1) := by decide +kernel
theorem dJ9_max_7cf53_2 : decode cJ9_max_7cf53 2 = .ok (.if_icmp .lt 7, 3) := by decide +kernel
theorem dJ9_max_7cf53_5 : decode cJ9_max_7cf53 5 = .ok (.iload_n 0, 1) := by decide +kernel
theorem dJ9_max_7cf53_6 : decode cJ9_max_7cf53 6 = .ok (.goto 4, 3) := by decide +kernel
theorem dJ9_max_7cf53_9 : decode cJ9_max_7cf53 9 = .ok (.iload_n 1, 1) := by decide +kernel
theorem dJ9_max_7cf53_10 : decode cJ9_max_7cf53 10 = .ok (.ireturn, 1) := by decide +kernel
theorem dJ9_min_7cf53_0 : decode cJ9_min_7cf53 0 = .ok (.iload_n 0, 1) := by decide +kernel
theorem dJ9_min_7cf53_1 : decode cJ9_min_7cf53 1 = .ok (.iload_n 1, 1) := by decide +kernel
theorem dJ9_min_7cf53_2 : decode cJ9_min_7cf53 2 = .ok (.if_icmp .gt 7, 3) := by decide +kernel
theorem dJ9_min_7cf53_5 : decode cJ9_min_7cf53 5 = .ok (.iload_n 0, 1) := by decide +kernel
theorem dJ9_min_7cf53_6 : decode cJ9_min_7cf53 6 = .ok (.goto 4, 3) := by decide +kernel
theorem dJ9_min_7cf53_9 : decode cJ9_min_7cf53 9 = .ok (.iload_n 1, 1) := by decide +kernel
theorem dJ9_min_7cf53_10 : decode cJ9_min_7cf53 10 = .ok (.ireturn, 1) := by decide +kernel
end
section
/-! ===== worlds, starts, ends and calls, once for all methods of this claim ===== -/
/-- a method's world at its start, and at its end -/
def Wd (D : va_G) (tys : List (ClassId × FieldType)) (ws : va_W) (sz : Nat) : State → Prop := fun U => U.heap.size = sz ∧ va_P D vwCl ws U.heap ∧ va_K D vwCl tys U ∧ va_D (fun _ => True) ws
def We (D : va_G) (tys : List (ClassId × FieldType)) (ws : va_W) (A : Nat → Prop) (t : State) : Prop := va_P D vwCl ws t.heap ∧ va_K D vwCl tys t ∧ va_D A ws
theorem Wd_blind {D : va_G} {tys : List (ClassId × FieldType)} {ws : va_W} {sz : Nat} {av : List Value} : FrameBlind (va_Pc av (Wd D tys ws sz)) := fun a U g mk q => by
  obtain ⟨q0, q1, qP, qK, qD⟩ := q
  exact ⟨q0, q1, qP, va_K.moved (u := U) (U := U.calling g mk a) (Vm.Alike.refl U.vm) qK, qD⟩
theorem map_fm {α β : Type} {f : α → Option β} : ∀ {is : List α} {l : List β}, is.map f = l.map some → is.filterMap f = l
  | [], [], _ => rfl
  | [], _ :: _, h => by cases h
  | _ :: _, [], h => by cases h
  | a :: is, b :: l, h => by
    simp only [List.map_cons, List.cons.injEq] at h
    rw [List.filterMap_cons, h.1, map_fm h.2]
/-- the start of a method that doesn't throw -/
theorem mk_met {l : Launch} {y : MethodName} {ws ws' : List Cond} {rm : Room} {D : va_G} {tys : List (ClassId × FieldType)} {wc : va_W} {sz : Nat} (av : List Value) (Qc : (Nat → Prop) → Array Value → State → Outcome → State → Prop) {mc ms : Nat} {cc : ByteArray} {maxL : Nat} {ret : Option FieldType}
    (hy : plainName y.cls = true) (hw : ws = Cond.code y cc maxL ret :: ws') (hlen : (lg_sl av).length ≤ maxL)
    (body : ∀ p e s m args below meth c (A : Nat → Prop) (ls : Array Slot), CallFix p m c cc maxL s args ws y.cls → meth.sig.returnType = ret → meth.locks = false → meth.name = y.name → va_P D vwCl wc s.heap → va_K D vwCl tys s → va_D A wc → (∀ q : Nat, s.heap.size ≤ q → A q) → lv_has ls maxL (lv_args 0 av) →
      W p l e rm s m args below meth c s.heap [] 0 0 (MQ below (Qc A) args s mc ms A) (F0 m 0 ls [])) :
    Met l y ws rm (va_Pc av (Wd D tys wc sz)) (Qc (va_A wc sz)) mc ms (va_A wc sz) := by
  refine Met.ofW (cc := cc) (maxL := maxL) (ret := ret) hy hw ?_
  intro p e s m args below meth c s₁ B hml hv
  obtain ⟨rfl, hsz, hP, hK, hD0⟩ := hv
  subst hsz
  have hl := lv_entry av (n := maxL) hlen
  rw [lg_entry_eq]
  exact body p e s m _ below meth c _ _ ⟨B.exec, B.bytes, hml, findClass_of_methodNamed B.named, atoms_spec (ws := ws) B.pre⟩ B.returns B.notSynchronized (name_of_methodNamed B.named B.method).1 hP hK hD0.self (fun q h => Or.inr h) hl
section ENDS
variable {p : Program} {l : Launch} {e : Env} {R : Room} {s : State} {m : MethodId} {args : Array Value} {below : List Frame} {meth : Method} {c : Code} {H : Heap} {locs : List Loc} {cells slots : Nat} {cc : ByteArray} {pc nL : Nat} {ls : Array Slot} {D : va_G} {A : Nat → Prop} {ws : va_W} {tys tys' : List (ClassId × FieldType)} {mc ms : Nat} {S : Type} {w1 : S → va_W} {Ts : List Cond} {own : String}
theorem e_we (hK : va_K D vwCl tys s) (hP : va_P D vwCl ws H) (hD : va_D A ws) (is it : List Nat) (w : va_W) (hw : is.map (fun i => ws[i]?) = w.map some) (hn : va_nd is = true) (ht : it.filterMap (fun i => tys[i]?) = tys') {t : State} (h1 : t.heap = H) (h2 : s.vm.Alike t.vm) : We D tys' w A t :=
  ⟨by rw [h1]; exact hP.sub is (map_fm hw), va_K.moved h2 (hK.sub it ht), hD.sub is hn hw⟩
theorem e_i {post : Int32 → S → Prop} {v : Int32} (F : CallFix p m c cc nL s args Ts own) (hr : meth.sig.returnType = some .int) (hlocks : meth.locks = false) (hK : va_K D vwCl tys s) (hP : va_P D vwCl ws H) (hD : va_D A ws) (hS : va_S A s.heap H locs) (is it : List Nat) (u : S) (hp : post v u) (hw : is.map (fun i => ws[i]?) = (w1 u).map some) (hn : va_nd is = true) (ht : it.filterMap (fun i => tys[i]?) = tys') (hc : cells ≤ mc) (hs : slots ≤ ms) (hdg : decode cc pc = .ok (.ireturn, 1)) :
    W p l e R s m args below meth c H locs cells slots (MQ below (va_Qi post (fun u t => We D tys' (w1 u) A t) A) args s mc ms A) (F0 m pc ls [.int v]) := by
  refine W.widen hc hs ?_
  exact W.iret F.1 F.2.1 hr (fun t h1 hW => ⟨⟨v, u, rfl, hp, e_we hK hP hD is it _ hw hn ht h1 hW.alike⟩, hS.F h1⟩) hS.2.2 hdg hlocks
theorem e_z {post : Int32 → S → Prop} {v : Int32} (F : CallFix p m c cc nL s args Ts own) (hr : meth.sig.returnType = some .boolean) (hlocks : meth.locks = false) (hK : va_K D vwCl tys s) (hP : va_P D vwCl ws H) (hD : va_D A ws) (hS : va_S A s.heap H locs) (is it : List Nat) (u : S) (hz : v = 0 ∨ v = 1) (hp : post v u) (hw : is.map (fun i => ws[i]?) = (w1 u).map some) (hn : va_nd is = true) (ht : it.filterMap (fun i => tys[i]?) = tys') (hc : cells ≤ mc) (hs : slots ≤ ms) (hdg : decode cc pc = .ok (.ireturn, 1)) :
    W p l e R s m args below meth c H locs cells slots (MQ below (va_Qi post (fun u t => We D tys' (w1 u) A t) A) args s mc ms A) (F0 m pc ls [.int v]) := by
  refine W.widen hc hs ?_
  exact W.zret F.1 F.2.1 hr (by rcases hz with rfl | rfl <;> rfl) (fun t h1 hW => ⟨⟨v, u, rfl, hp, e_we hK hP hD is it _ hw hn ht h1 hW.alike⟩, hS.F h1⟩) hS.2.2 hdg hlocks
theorem e_l {post : Int64 → S → Prop} {v : Int64} (F : CallFix p m c cc nL s args Ts own) (hr : meth.sig.returnType = some .long) (hlocks : meth.locks = false) (hK : va_K D vwCl tys s) (hP : va_P D vwCl ws H) (hD : va_D A ws) (hS : va_S A s.heap H locs) (is it : List Nat) (u : S) (hp : post v u) (hw : is.map (fun i => ws[i]?) = (w1 u).map some) (hn : va_nd is = true) (ht : it.filterMap (fun i => tys[i]?) = tys') (hc : cells ≤ mc) (hs : slots ≤ ms) (hdg : decode cc pc = .ok (.lreturn, 1)) :
    W p l e R s m args below meth c H locs cells slots (MQ below (va_Ql post (fun u t => We D tys' (w1 u) A t) A) args s mc ms A) (F0 m pc ls [.long v]) := by
  refine W.widen hc hs ?_
  exact W.lret F.1 F.2.1 hr (fun t h1 hW => ⟨⟨v, u, rfl, hp, e_we hK hP hD is it _ hw hn ht h1 hW.alike⟩, hS.F h1⟩) hS.2.2 hdg hlocks
theorem e_d {post : UInt64 → S → Prop} {v : UInt64} (F : CallFix p m c cc nL s args Ts own) (hr : meth.sig.returnType = some .double) (hlocks : meth.locks = false) (hK : va_K D vwCl tys s) (hP : va_P D vwCl ws H) (hD : va_D A ws) (hS : va_S A s.heap H locs) (is it : List Nat) (u : S) (hp : post v u) (hw : is.map (fun i => ws[i]?) = (w1 u).map some) (hn : va_nd is = true) (ht : it.filterMap (fun i => tys[i]?) = tys') (hc : cells ≤ mc) (hs : slots ≤ ms) (hdg : decode cc pc = .ok (.dreturn, 1)) :
    W p l e R s m args below meth c H locs cells slots (MQ below (va_Qd post (fun u t => We D tys' (w1 u) A t) A) args s mc ms A) (F0 m pc ls [.double v]) := by
  refine W.widen hc hs ?_
  exact W.dret F.1 F.2.1 hr (fun t h1 hW => ⟨⟨v, u, rfl, hp, e_we hK hP hD is it _ hw hn ht h1 hW.alike⟩, hS.F h1⟩) hS.2.2 hdg hlocks
theorem e_v {post : S → Prop} (F : CallFix p m c cc nL s args Ts own) (hr : meth.sig.returnType = none) (hlocks : meth.locks = false) (hK : va_K D vwCl tys s) (hP : va_P D vwCl ws H) (hD : va_D A ws) (hS : va_S A s.heap H locs) (is it : List Nat) (u : S) (hp : post u) (hw : is.map (fun i => ws[i]?) = (w1 u).map some) (hn : va_nd is = true) (ht : it.filterMap (fun i => tys[i]?) = tys') (hc : cells ≤ mc) (hs : slots ≤ ms) (hdg : decode cc pc = .ok (.return_, 1)) :
    W p l e R s m args below meth c H locs cells slots (MQ below (va_Qv post (fun u t => We D tys' (w1 u) A t) A) args s mc ms A) (F0 m pc ls []) := by
  refine W.widen hc hs ?_
  exact W.vret F.1 F.2.1 hr (fun t h1 hW => ⟨⟨u, rfl, hp, e_we hK hP hD is it _ hw hn ht h1 hW.alike⟩, hS.F h1⟩) hS.2.2 hdg hlocks
/-- the claim of a walk for any end that follows from the one that is owed -/
theorem absQ {Q0 : State → Prop} {g : JFrame} (h : ∀ Q : State → Prop, (∀ t, Q0 t → Q t) → W p l e R s m args below meth c H locs cells slots Q g) : W p l e R s m args below meth c H locs cells slots Q0 g := h Q0 (fun _ z => z)
theorem useQ {Q0 Q : State → Prop} {g : JFrame} (hQ : ∀ t, Q0 t → Q t) (k : W p l e R s m args below meth c H locs cells slots Q0 g) : W p l e R s m args below meth c H locs cells slots Q g := fun T hT X => by
  obtain ⟨t, h1, h2⟩ := k T hT X
  exact ⟨t, h1, hQ t h2⟩
/-- the top of the stack by another name -/
theorem topi {Q : State → Prop} {rest : List Value} {x : Int32} (y : Int32) (h : x = y) (k : W p l e R s m args below meth c H locs cells slots Q (F0 m pc ls (.int y :: rest))) : W p l e R s m args below meth c H locs cells slots Q (F0 m pc ls (.int x :: rest)) := by rw [h]; exact k
theorem topl {Q : State → Prop} {rest : List Value} {x : Int64} (y : Int64) (h : x = y) (k : W p l e R s m args below meth c H locs cells slots Q (F0 m pc ls (.long y :: rest))) : W p l e R s m args below meth c H locs cells slots Q (F0 m pc ls (.long x :: rest)) := by rw [h]; exact k
end ENDS
section CALLS
variable {p : Program} {l : Launch} {e : Env} {R : Room} {s : State} {m : MethodId} {args : Array Value} {below : List Frame} {meth : Method} {c : Code} {H H0 : Heap} {locs : List Loc} {cells slots : Nat} {Q : State → Prop} {cc : ByteArray} {pc nL : Nat} {ls : Array Slot} {D : va_G} {A : Nat → Prop} {ws wc wr : va_W} {tys tysC : List (ClassId × FieldType)} {mc ms : Nat} {S : Type} {w1 : S → va_W} {Ts : List Cond} {own C : String}
variable {index : Nat} {y : MethodName} {bytes : ByteArray} {maxL : Nat} {ret : Option FieldType} {wsY : List Cond} {rm : Room} {n : Nat} {b : Addr} {As stk rest : List Value}
/-- the cells that a call needs, cut out of the caller's -/
def Cut (D : va_G) (A : Nat → Prop) (ws wc wr : va_W) (tys tysC : List (ClassId × FieldType)) (isC isR isT : List Nat) : Prop :=
  isC.map (fun i => ws[i]?) = wc.map some ∧ isR.map (fun i => ws[i]?) = wr.map some ∧ va_nd isC = true ∧ va_nd isR = true ∧ (∀ i ∈ isR, i ∉ isC) ∧ isT.filterMap (fun i => tys[i]?) = tysC
theorem kRunV {Qc : Array Value → State → Outcome → State → Prop} {ci : Nat} {q : vw_C} (F : CallFix p m c cc nL s args Ts own)
    (hM : Met l y wsY rm (va_Pc (.ref b :: As) (Wd D tysC wc H.size)) Qc mc ms (va_A wc H.size))
    (cw : CallW R s args own q.1 index y bytes maxL ret wsY rm mc ms n) (hK : va_K D vwCl tys s) (hP : va_P D vwCl ws H) (hD : va_D A ws) {isC isR isT : List Nat} (hX : Cut D A ws wc wr tys tysC isC isR isT)
    (q0 : Nat) {fs : List Value} (hc0 : vwCl[ci]? = some q) (he0 : ws[q0]? = some (b, .inr (ci, fs)))
    (hn : As.length = n) (hsize : ls.size = nL) (hstk : stk = As.reverse ++ .ref b :: rest) (hW : (rest.map fun v => v.category).sum ≤ 8) (hdg : decode cc pc = .ok (.invokevirtual index, 3)) (hf : cells + mc ≤ R.cells ∧ slots + ms ≤ R.slots) :
    va_Run p l e R s m args below meth c H locs cells slots mc ms (F0 m pc ls stk) rest (Qc (Value.ref b :: As).toArray) (va_A wc H.size) := by
  obtain ⟨hC, hR, hnC, hnR, hdis, hT⟩ := hX
  refine va_runV F hM cw ⟨Wd_blind, va_recv hK hP hc0 he0, fun U hU hW => ⟨rfl, by rw [hU], by rw [hU]; exact hP.sub isC (map_fm hC), va_K.moved hW.alike (hK.sub isT hT), (hD.sub isC hnC hC).weaken (fun _ _ _ _ => trivial)⟩⟩ rfl hn hsize hstk (lv_room hW) hdg hf
theorem kRunS {Qc : Array Value → State → Outcome → State → Prop} (F : CallFix p m c cc nL s args Ts own)
    (hM : Met l y wsY rm (va_Pc As (Wd D tysC wc H.size)) Qc mc ms (va_A wc H.size))
    (cw : CallB R s args own index y bytes maxL ret wsY rm mc ms n ∧ (Cond.static y).before args s = true) (hK : va_K D vwCl tys s) (hP : va_P D vwCl ws H) (hD : va_D A ws) {isC isR isT : List Nat} (hX : Cut D A ws wc wr tys tysC isC isR isT)
    (hn : As.length = n) (hsize : ls.size = nL) (hstk : stk = As.reverse ++ rest) (hW : (rest.map fun v => v.category).sum ≤ 8) (hdg : decode cc pc = .ok (.invokestatic index, 3)) (hf : cells + mc ≤ R.cells ∧ slots + ms ≤ R.slots) :
    va_Run p l e R s m args below meth c H locs cells slots mc ms (F0 m pc ls stk) rest (Qc As.toArray) (va_A wc H.size) := by
  obtain ⟨hC, hR, hnC, hnR, hdis, hT⟩ := hX
  refine va_runS F hM cw ⟨Wd_blind, fun U hU hW => ⟨rfl, by rw [hU], by rw [hU]; exact hP.sub isC (map_fm hC), va_K.moved hW.alike (hK.sub isT hT), (hD.sub isC hnC hC).weaken (fun _ _ _ _ => trivial)⟩⟩ rfl hn hsize hstk (lv_room hW) hdg hf
/-- behind a call -/
theorem kBack (hP : va_P D vwCl ws H) (hD : va_D A ws) (hS : va_S A H0 H locs) (hA : ∀ q, H0.size ≤ q → A q) {isC isR isT : List Nat} (hX : Cut D A ws wc wr tys tysC isC isR isT) {w : va_W} {H1 : Heap} {t : State} (ht : t.heap = H1) (hB : We D tysC w (va_A wc H.size) t) (hk1 : ∀ q : Nat, q < H.size → ¬ va_A wc H.size q → H1[q]? = H[q]?) : va_P D vwCl (wr ++ w) H1 ∧ va_D A (wr ++ w) := by
  obtain ⟨hC, hR, hnC, hnR, hdis, hT⟩ := hX
  obtain ⟨hP1, hK1, hD1⟩ := hB
  rw [ht] at hP1
  exact va_join hP hD isC isR hC hR hnR hdis hk1 (va_free hD hS hA isC hC) hP1 hD1
theorem ki {post : Int32 → S → Prop} {av : Array Value} {isC isR isT : List Nat} (hX : Cut D A ws wc wr tys tysC isC isR isT) (hP : va_P D vwCl ws H) (hD : va_D A ws) (hS : va_S A H0 H locs) (hA : ∀ q, H0.size ≤ q → A q)
    (hr : va_Run p l e R s m args below meth c H locs cells slots mc ms (F0 m pc ls stk) rest (va_Qi post (fun u t => We D tysC (w1 u) (va_A wc H.size) t) (va_A wc H.size) av) (va_A wc H.size))
    (kk : ∀ (r : Int32) (u : S) (H1 : Heap) (locs1 : List Loc), post r u → va_P D vwCl (wr ++ w1 u) H1 → va_D A (wr ++ w1 u) → va_S A H0 H1 locs1 → W p l e R s m args below meth c H1 locs1 (cells + mc) (slots + ms) Q (F0 m (pc + 3) ls (.int r :: rest))) : W p l e R s m args below meth c H locs cells slots Q (F0 m pc ls stk) := by
  have hF := va_free hD hS hA isC hX.1
  refine va_calli hr hS (fun q _ h => hF q h) hF (fun r u t H1 locs1 ht hvm hw hB hz hk hS1 => ?_)
  obtain ⟨h1, h2⟩ := kBack hP hD hS hA hX ht hB hk
  exact kk r u H1 locs1 hw h1 h2 hS1
theorem kl {post : Int64 → S → Prop} {av : Array Value} {isC isR isT : List Nat} (hX : Cut D A ws wc wr tys tysC isC isR isT) (hP : va_P D vwCl ws H) (hD : va_D A ws) (hS : va_S A H0 H locs) (hA : ∀ q, H0.size ≤ q → A q)
    (hr : va_Run p l e R s m args below meth c H locs cells slots mc ms (F0 m pc ls stk) rest (va_Ql post (fun u t => We D tysC (w1 u) (va_A wc H.size) t) (va_A wc H.size) av) (va_A wc H.size))
    (kk : ∀ (r : Int64) (u : S) (H1 : Heap) (locs1 : List Loc), post r u → va_P D vwCl (wr ++ w1 u) H1 → va_D A (wr ++ w1 u) → va_S A H0 H1 locs1 → W p l e R s m args below meth c H1 locs1 (cells + mc) (slots + ms) Q (F0 m (pc + 3) ls (.long r :: rest))) : W p l e R s m args below meth c H locs cells slots Q (F0 m pc ls stk) := by
  have hF := va_free hD hS hA isC hX.1
  refine va_calll hr hS (fun q _ h => hF q h) hF (fun r u t H1 locs1 ht hvm hw hB hz hk hS1 => ?_)
  obtain ⟨h1, h2⟩ := kBack hP hD hS hA hX ht hB hk
  exact kk r u H1 locs1 hw h1 h2 hS1
theorem kd {post : UInt64 → S → Prop} {av : Array Value} {isC isR isT : List Nat} (hX : Cut D A ws wc wr tys tysC isC isR isT) (hP : va_P D vwCl ws H) (hD : va_D A ws) (hS : va_S A H0 H locs) (hA : ∀ q, H0.size ≤ q → A q)
    (hr : va_Run p l e R s m args below meth c H locs cells slots mc ms (F0 m pc ls stk) rest (va_Qd post (fun u t => We D tysC (w1 u) (va_A wc H.size) t) (va_A wc H.size) av) (va_A wc H.size))
    (kk : ∀ (r : UInt64) (u : S) (H1 : Heap) (locs1 : List Loc), post r u → va_P D vwCl (wr ++ w1 u) H1 → va_D A (wr ++ w1 u) → va_S A H0 H1 locs1 → W p l e R s m args below meth c H1 locs1 (cells + mc) (slots + ms) Q (F0 m (pc + 3) ls (.double r :: rest))) : W p l e R s m args below meth c H locs cells slots Q (F0 m pc ls stk) := by
  have hF := va_free hD hS hA isC hX.1
  refine va_calld hr hS (fun q _ h => hF q h) hF (fun r u t H1 locs1 ht hvm hw hB hz hk hS1 => ?_)
  obtain ⟨h1, h2⟩ := kBack hP hD hS hA hX ht hB hk
  exact kk r u H1 locs1 hw h1 h2 hS1
theorem kv {post : S → Prop} {av : Array Value} {isC isR isT : List Nat} (hX : Cut D A ws wc wr tys tysC isC isR isT) (hP : va_P D vwCl ws H) (hD : va_D A ws) (hS : va_S A H0 H locs) (hA : ∀ q, H0.size ≤ q → A q)
    (hr : va_Run p l e R s m args below meth c H locs cells slots mc ms (F0 m pc ls stk) rest (va_Qv post (fun u t => We D tysC (w1 u) (va_A wc H.size) t) (va_A wc H.size) av) (va_A wc H.size))
    (kk : ∀ (u : S) (H1 : Heap) (locs1 : List Loc), post u → va_P D vwCl (wr ++ w1 u) H1 → va_D A (wr ++ w1 u) → va_S A H0 H1 locs1 → W p l e R s m args below meth c H1 locs1 (cells + mc) (slots + ms) Q (F0 m (pc + 3) ls rest)) : W p l e R s m args below meth c H locs cells slots Q (F0 m pc ls stk) := by
  have hF := va_free hD hS hA isC hX.1
  refine va_callv hr hS (fun q _ h => hF q h) hF (fun u t H1 locs1 ht hvm hw hB hz hk hS1 => ?_)
  obtain ⟨h1, h2⟩ := kBack hP hD hS hA hX ht hB hk
  exact kk u H1 locs1 hw h1 h2 hS1
end CALLS
/-! ===== branches over small numbers; rows of int arrays at small places ===== -/
theorem nf_lt_t {a b : Nat} (ha : a < 2 ^ 31) (hb : b < 2 ^ 31) (h : nI a < nI b) : a < b := (nI_ltI ha hb).mp h
theorem nf_lt_f {a b : Nat} (ha : a < 2 ^ 31) (hb : b < 2 ^ 31) (h : ¬ nI a < nI b) : b ≤ a := Nat.le_of_not_lt fun z => h ((nI_ltI ha hb).mpr z)
theorem nf_ge_t {a b : Nat} (ha : a < 2 ^ 31) (hb : b < 2 ^ 31) (h : nI b ≤ nI a) : b ≤ a := (nI_leI hb ha).mp h
theorem nf_ge_f {a b : Nat} (ha : a < 2 ^ 31) (hb : b < 2 ^ 31) (h : ¬ nI b ≤ nI a) : a < b := Nat.lt_of_not_le fun z => h ((nI_leI hb ha).mpr z)
theorem nf_gt_t {a b : Nat} (ha : a < 2 ^ 31) (hb : b < 2 ^ 31) (h : nI b < nI a) : b < a := (nI_ltI hb ha).mp h
theorem nf_gt_f {a b : Nat} (ha : a < 2 ^ 31) (hb : b < 2 ^ 31) (h : ¬ nI b < nI a) : a ≤ b := Nat.le_of_not_lt fun z => h ((nI_ltI hb ha).mpr z)
theorem nf_le_t {a b : Nat} (ha : a < 2 ^ 31) (hb : b < 2 ^ 31) (h : nI a ≤ nI b) : a ≤ b := (nI_leI ha hb).mp h
theorem nf_le_f {a b : Nat} (ha : a < 2 ^ 31) (hb : b < 2 ^ 31) (h : ¬ nI a ≤ nI b) : b < a := Nat.lt_of_not_le fun z => h ((nI_leI ha hb).mpr z)
theorem nf_eq_t {a b : Nat} (ha : a < 2 ^ 31) (hb : b < 2 ^ 31) (h : nI a = nI b) : a = b := (nI_eq ha hb).mp h
theorem nf_eq_f {a b : Nat} (ha : a < 2 ^ 31) (hb : b < 2 ^ 31) (h : ¬ nI a = nI b) : a ≠ b := fun z => h ((nI_eq ha hb).mpr z)
theorem nf_ne_t {a b : Nat} (ha : a < 2 ^ 31) (hb : b < 2 ^ 31) (h : ¬ nI a = nI b) : a ≠ b := fun z => h ((nI_eq ha hb).mpr z)
theorem nf_ne_f {a b : Nat} (ha : a < 2 ^ 31) (hb : b < 2 ^ 31) (h : nI a = nI b) : a = b := (nI_eq ha hb).mp h
section ARR
variable {p : Program} {l : Launch} {e : Env} {R : Room} {s : State} {m : MethodId} {args : Array Value} {below : List Frame} {meth : Method} {c : Code} {H : Heap} {locs : List Loc} {cells slots : Nat} {Q : State → Prop}
variable {cc : ByteArray} {pc : Nat} {ls : Array Slot} {rest : List Value} {D : va_G} {A : Nat → Prop} {a : Nat} {tys : List (ClassId × FieldType)} {ws : va_W} {H0 : Heap}
theorem a_ld (hexec : p.tables.exec = Jvm.exec) (hb : c.code = cc) (hK : va_K D vwCl tys s) (hP : va_P D vwCl ws H) (q0 t0 : Nat) {cA : ClassId} {n : Nat} {f : Nat → Int32} (ha : ws[q0]? = some (a, .inl (cA, n, .inl f))) (ht : tys[t0]? = some (cA, .int)) {k : Nat} (hk : k < n) (hn : n ≤ 1000) (hdg : decode cc pc = .ok (.iaload, 1))
    (kk : W p l e R s m args below meth c H locs cells slots Q (F0 m (pc + 1) ls (.int (f k) :: rest))) : W p l e R s m args below meth c H locs cells slots Q (F0 m pc ls (.int (nI k) :: .ref a :: rest)) := by
  refine va_iald hexec hb hK hP q0 t0 ha ht (vp_in_nI hk (by omega)) hdg ?_
  rw [nI_clamp (by omega)]
  exact kk
theorem a_st (hexec : p.tables.exec = Jvm.exec) (hb : c.code = cc) (hK : va_K D vwCl tys s) (hP : va_P D vwCl ws H) (hD : va_D A ws) (hS : va_S A H0 H locs) (q0 t0 : Nat) {cA : ClassId} {n : Nat} {f : Nat → Int32} (ha : ws[q0]? = some (a, .inl (cA, n, .inl f))) (ht : tys[t0]? = some (cA, .int)) {k : Nat} {x : Int32} (hk : k < n) (hn : n ≤ 1000) (hdg : decode cc pc = .ok (.iastore, 1))
    (kk : ∀ (H1 : Heap) (locs1 : List Loc), va_P D vwCl (ws.set q0 (a, .inl (cA, n, .inl (upd f k x)))) H1 → va_D A (ws.set q0 (a, .inl (cA, n, .inl (upd f k x)))) → va_S A H0 H1 locs1 → W p l e R s m args below meth c H1 locs1 cells slots Q (F0 m (pc + 1) ls rest)) : W p l e R s m args below meth c H locs cells slots Q (F0 m pc ls (.int x :: .int (nI k) :: .ref a :: rest)) := by
  refine va_iast hexec hb hK hP hD hS q0 t0 ha ht (vp_in_nI hk (by omega)) hdg ?_
  rw [nI_clamp (by omega)]
  exact kk
end ARR
/-! ===== methods that throw ===== -/
def xStr : List (Nat × String) := [(58, "there are 12 delegates"), (67, "there is no room on that plank"), (80, "this one is not willing to stand there"), (87, "the strength is not 1 to 12"), (121, "the village has no delegates"), (130, "there are no other delegates"), (234, "there is no such delegate"), (237, "the village is not 0 to 4"), (239, "the plank is not 0 to 40"), (241, "both planks are the same"), (243, "the reach is not 0 to 20"), (245, "the pace is not 1 to 5"), (247, "the rounds are not 1 to 50"), (249, "there are no delegates")]
def xDec : List MethodName := [Bundle.initS "java/lang/RuntimeException", Bundle.initS "java/lang/Exception", Bundle.initS "java/lang/Throwable"]
def xCls : List String := ["java/lang/IllegalStateException", "java/lang/IllegalArgumentException", "java/lang/IndexOutOfBoundsException"]
def xNcs : List (String × String) := [("java/lang/IllegalStateException", "java/lang/IllegalArgumentException"), ("java/lang/IllegalStateException", "java/lang/IndexOutOfBoundsException"), ("java/lang/IllegalArgumentException", "java/lang/IllegalStateException"), ("java/lang/IllegalArgumentException", "java/lang/IndexOutOfBoundsException"), ("java/lang/IndexOutOfBoundsException", "java/lang/IllegalStateException"), ("java/lang/IndexOutOfBoundsException", "java/lang/IllegalArgumentException")]
/-- the nest mate's link of middleWith -/
def xNe : Cond := .methodLinkNest RX0 19 yX1_cutTo RX1
/-- what a throw and a catch need of the tables -/
def XT (U : State) : Prop := (∀ q ∈ xStr, ∃ sa : Nat, vk_R RX1 q.1 q.2 sa U) ∧ (∀ x ∈ xDec, va_Nw (.declares x) U) ∧ (∀ C ∈ xCls, va_Nw (.castable C C) U) ∧ (∀ q ∈ xNcs, va_Nc q.1 q.2 U) ∧ va_Nw xNe U
theorem XT.warm {s U : State} (hW : s.WarmedH U.vm) (h : XT s) : XT U := ⟨fun q hq => by
  obtain ⟨sa, h1⟩ := h.1 q hq
  exact ⟨sa, vk_R.warm hW h1⟩, fun x hx => va_Nw.warmD hW (h.2.1 x hx), fun C hC => va_Nw.warmC hW (h.2.2.1 C hC), fun q hq => va_Nc.moved hW.alike (h.2.2.2.1 q hq), va_Nw.warmM hW h.2.2.2.2⟩
/-- what a throw needs of the start: Throwable's two statics, which no cell of the method's own is, and the tables -/
def XE (A : Nat → Prop) (U : State) (H : Heap) : Prop := vx_Zq Bundle.tN "UNASSIGNED_STACK" Bundle.steD A U H ∧ vx_Zq Bundle.tN "SUPPRESSED_SENTINEL" Bundle.listD A U H ∧ XT U
theorem XE.warm {A : Nat → Prop} {s U : State} {H : Heap} (hW : s.WarmedH U.vm) (h : XE A s H) : XE A U H := ⟨vx_Zq.moved hW.alike h.1, vx_Zq.moved hW.alike h.2.1, h.2.2.warm hW⟩
theorem XE.kept {A : Nat → Prop} {U : State} {H H1 : Heap} (h : XE A U H) (hq : ∀ a : Nat, a < H.size → ¬ A a → H1[a]? = H[a]?) : XE A U H1 := ⟨h.1.kept hq, h.2.1.kept hq, h.2.2⟩
theorem XE.narrow {A B : Nat → Prop} {U : State} {H : Heap} (h : XE A U H) (hAB : ∀ q, B q → A q) : XE B U H := ⟨h.1.narrow hAB, h.2.1.narrow hAB, h.2.2⟩
/-- the words of a throw that don't stand in a method's own list -/
def xB (cls : String) : List Cond := xDec.map Cond.declares ++ [Cond.castable cls cls]
theorem xB_ok {cls : String} {s : State} {args : Array Value} (hc : cls ∈ xCls) (h : XT s) : ∀ w ∈ xB cls, w.before args s = true := fun w hw => by
  rcases List.mem_append.mp hw with h1 | h1
  · obtain ⟨x, hx, rfl⟩ := List.mem_map.mp h1
    exact va_Nw.use rfl (h.2.1 x hx)
  · rw [List.mem_singleton.mp h1]
    exact va_Nw.use rfl (h.2.2.1 cls hc)
def Wx (D : va_G) (tys : List (ClassId × FieldType)) (ws : va_W) (sz : Nat) : State → Prop := fun U => Wd D tys ws sz U ∧ XE (va_A ws sz) U U.heap
theorem Wx_blind {D : va_G} {tys : List (ClassId × FieldType)} {ws : va_W} {sz : Nat} {av : List Value} : FrameBlind (va_Pc av (Wx D tys ws sz)) := fun a U g mk q => by
  obtain ⟨q0, ⟨q1, qP, qK, qD⟩, z1, z2, z3⟩ := q
  exact ⟨q0, ⟨q1, qP, va_K.moved (u := U) (U := U.calling g mk a) (Vm.Alike.refl U.vm) qK, qD⟩, vx_Zq.moved (u := U) (U := U.calling g mk a) (Vm.Alike.refl U.vm) z1, vx_Zq.moved (u := U) (U := U.calling g mk a) (Vm.Alike.refl U.vm) z2, XT.warm (s := U) (U := U.calling g mk a) (State.WarmedH.refl U) z3⟩
theorem mk_vx {l : Launch} {y : MethodName} {ws ws' : List Cond} {rm : Room} {D : va_G} {tys : List (ClassId × FieldType)} {wc : va_W} {sz : Nat} (av : List Value) (Qc : (Nat → Prop) → Array Value → State → Outcome → State → Prop) (XC : (Nat → Prop) → String → State → State → Prop) {mc ms : Nat} {cc : ByteArray} {maxL : Nat} {ret : Option FieldType}
    (hy : plainName y.cls = true) (hw : ws = Cond.code y cc maxL ret :: ws') (hlen : (lg_sl av).length ≤ maxL)
    (body : ∀ p e s m args below meth c (A : Nat → Prop) (ls : Array Slot), CallFix p m c cc maxL s args ws y.cls → meth.sig.returnType = ret → meth.locks = false → meth.name = y.name → (∀ x ∈ c.exceptionTable.toList, False) → va_P D vwCl wc s.heap → va_K D vwCl tys s → va_D A wc → XE A s s.heap → (∀ q : Nat, s.heap.size ≤ q → A q) → lv_has ls maxL (lv_args 0 av) →
      W p l e rm s m args below meth c s.heap [] 0 0 (vx_MQ below (Qc A) (XC A) args s mc ms A) (F0 m 0 ls [])) :
    vx_Met l y ws rm (va_Pc av (Wx D tys wc sz)) (Qc (va_A wc sz)) (XC (va_A wc sz)) mc ms (va_A wc sz) := by
  refine vx_ofW (cc := cc) (maxL := maxL) (ret := ret) hy hw ?_
  intro p e s m args below meth c s₁ B hml hno hv
  obtain ⟨rfl, ⟨hsz, hP, hK, hD0⟩, hXE⟩ := hv
  subst hsz
  have hl := lv_entry av (n := maxL) hlen
  rw [lg_entry_eq]
  exact body p e s m _ below meth c _ _ ⟨B.exec, B.bytes, hml, findClass_of_methodNamed B.named, atoms_spec (ws := ws) B.pre⟩ B.returns B.notSynchronized (name_of_methodNamed B.named B.method).1 hno hP hK hD0.self hXE (fun q h => Or.inr h) hl
section XENDS
variable {p : Program} {l : Launch} {e : Env} {R : Room} {s : State} {m : MethodId} {args : Array Value} {below : List Frame} {meth : Method} {c : Code} {H : Heap} {locs : List Loc} {cells slots : Nat} {cc : ByteArray} {pc nL : Nat} {ls : Array Slot} {D : va_G} {A : Nat → Prop} {ws : va_W} {tys tys' : List (ClassId × FieldType)} {mc ms : Nat} {SX : Type} {xb : SX → va_W} {px : String → SX → Prop} {Ts : List Cond} {own : String} {rest : List Value} {Qc : Array Value → State → Outcome → State → Prop}
theorem x_xc {t : State} {E : String} (hK : va_K D vwCl tys s) (hP : va_P D vwCl ws H) (hD : va_D A ws) (hS : va_S A s.heap H locs) (is it : List Nat) (x : SX) (hp : px E x) (hw : is.map (fun i => ws[i]?) = (xb x).map some) (hn : va_nd is = true) (ht : it.filterMap (fun i => tys[i]?) = tys') (h2 : s.vm.Alike t.vm) (h3 : H.size ≤ t.heap.size) (h4 : ∀ q : Nat, q < H.size → t.heap[q]? = H[q]?) : vx_X (fun _ : SX => True) (fun E x t => px E x ∧ We D tys' (xb x) A t) A E s t := by
  have hP1 : va_P D vwCl ws t.heap := hP.kept (fun k q hk => h4 q.1 (hP k q hk).lt)
  refine ⟨x, trivial, ⟨hp, hP1.sub is (map_fm hw), va_K.moved h2 (hK.sub it ht), hD.sub is hn hw⟩, Nat.le_trans hS.1 h3, fun q h5 h6 => ?_⟩
  rw [h4 q (Nat.lt_of_lt_of_le h5 hS.1)]
  exact hS.2.1 q h5 h6
theorem x_out {q : Addr} {E : String} {ce : Cell} (hno : ∀ x ∈ c.exceptionTable.toList, False) (hlocks : meth.locks = false) (hK : va_K D vwCl tys s) (hP : va_P D vwCl ws H) (hD : va_D A ws) (hS : va_S A s.heap H locs) (is it : List Nat) (x : SX) (hp : px E x) (hw : is.map (fun i => ws[i]?) = (xb x).map some) (hn : va_nd is = true) (ht : it.filterMap (fun i => tys[i]?) = tys') (hcell : H[q]? = some ce) (hv : ce.vm = .none) (hcl : s.vm.findClass E = some ce.cls) (hc : cells ≤ mc) (hs : slots ≤ ms) :
    vx_W p l e R s m args below meth c H locs cells slots (vx_MQ below Qc (vx_X (fun _ : SX => True) (fun E x t => px E x ∧ We D tys' (xb x) A t) A) args s mc ms A) (F0 m pc ls rest) q :=
  vx_out (fun x hx => (hno x hx).elim) hlocks hcell hv hcl (fun t h1 h2 => x_xc hK hP hD hS is it x hp hw hn ht h2 (by rw [h1]; exact Nat.le_refl _) (fun q _ => by rw [h1])) hS.2.2 hc hs
theorem x_throw {text cls : String} {ik si ic : Nat} (F : CallFix p m c cc nL s args Ts RX1) (hl0 : l.stackTraces = false) (hno : ∀ x ∈ c.exceptionTable.toList, False) (hlocks : meth.locks = false) (hK : va_K D vwCl tys s) (hP : va_P D vwCl ws H) (hD : va_D A ws) (hS : va_S A s.heap H locs) (hXE : XE A s s.heap) (hsize : ls.size = nL)
    (hcls : Bundle.fit cls = true) (hk : (Cond.classLink RX1 ik cls).before args s = true) (hini : (Cond.initialized cls).before args s = true) (htx : (si, text) ∈ xStr)
    (hat : ∀ w ∈ (vx_atS RX1 ic cls ["java/lang/RuntimeException", "java/lang/Exception"]).filter goodWord, w.before args s = true) (hcc : cls ∈ xCls) (hng : ∀ w ∈ (vx_atS RX1 ic cls ["java/lang/RuntimeException", "java/lang/Exception"]).filter (fun w => !goodWord w), w ∈ xB cls) (hgood : ∀ w ∈ Cond.classLink RX1 ik cls :: Cond.initialized cls :: vx_atS RX1 ic cls ["java/lang/RuntimeException", "java/lang/Exception"], vx_ot w = true)
    (d0 : decode cc pc = .ok (.new ik, 3)) (d3 : decode cc (pc + 3) = .ok (.dup, 1)) (d4 : decode cc (pc + 4) = .ok (.ldc si, 2)) (d6 : decode cc (pc + 6) = .ok (.invokespecial ic, 3)) (d9 : decode cc (pc + 9) = .ok (.athrow, 1))
    (hRframes : 5 < R.frames) (hRlocals : (rest.map fun v => v.category).sum + 82 ≤ R.locals) (hRcells : cells + 1 ≤ R.cells) (hRslots : slots + 6 ≤ R.slots)
    (is it : List Nat) (x : SX) (hp : px cls x) (hw : is.map (fun i => ws[i]?) = (xb x).map some) (hn : va_nd is = true) (ht : it.filterMap (fun i => tys[i]?) = tys') (hc : cells + 1 ≤ mc) (hs : slots + 6 ≤ ms) :
    W p l e R s m args below meth c H locs cells slots (vx_MQ below Qc (vx_X (fun _ : SX => True) (fun E x t => px E x ∧ We D tys' (xb x) A t) A) args s mc ms A) (F0 m pc ls rest) := by
  obtain ⟨sa, hsa⟩ := hXE.2.2.1 _ htx
  refine vx_throwS F.1 F.2.1 hl0 F.2.2.2.1 hcls (by decide) hk hini hsa (vx_hat hat hng (xB_ok hcc hXE.2.2)) hgood hXE.1 hXE.2.1 hS (hsize.trans F.2.2.1.symm) d0 d3 d4 d6 d9 (fun x hx => (hno x hx).elim) hRframes hRlocals hRcells hRslots hlocks (fun t h2 h3 h4 => x_xc hK hP hD hS is it x hp hw hn ht h2 h3 h4) hS.2.2 hc hs
theorem uxQ {Q0 Q : State → Prop} {g : JFrame} {q : Addr} (hQ : ∀ t, Q0 t → Q t) (k : vx_W p l e R s m args below meth c H locs cells slots Q0 g q) : vx_W p l e R s m args below meth c H locs cells slots Q g q := fun T hT X => by
  obtain ⟨t, h1, h2⟩ := k T hT X
  exact ⟨t, h1, hQ t h2⟩
end XENDS
section XCALLS
variable {p : Program} {l : Launch} {e : Env} {R : Room} {s : State} {m : MethodId} {args : Array Value} {below : List Frame} {meth : Method} {c : Code} {H : Heap} {locs : List Loc} {cells slots : Nat} {Q : State → Prop} {cc : ByteArray} {pc nL : Nat} {ls : Array Slot} {D : va_G} {A : Nat → Prop} {ws wc wr : va_W} {tys tysC : List (ClassId × FieldType)} {mc ms : Nat} {S SX : Type} {w1 : S → va_W} {xb : SX → va_W} {px : String → SX → Prop} {Ts : List Cond} {own C : String}
variable {index : Nat} {y : MethodName} {bytes : ByteArray} {maxL : Nat} {ret : Option FieldType} {wsY : List Cond} {rm : Room} {n : Nat} {b : Addr} {As stk rest : List Value} {XC : String → State → State → Prop}
theorem xRunV {Qc : Array Value → State → Outcome → State → Prop} {ci : Nat} {q : vw_C} (F : CallFix p m c cc nL s args Ts own)
    (hM : vx_Met l y wsY rm (va_Pc (.ref b :: As) (Wx D tysC wc H.size)) Qc XC mc ms (va_A wc H.size))
    (cw : CallW R s args own q.1 index y bytes maxL ret wsY rm mc ms n) (hK : va_K D vwCl tys s) (hP : va_P D vwCl ws H) (hD : va_D A ws) (hS : va_S A s.heap H locs) (hA : ∀ q, s.heap.size ≤ q → A q) (hXE : XE A s s.heap) {isC isR isT : List Nat} (hX : Cut D A ws wc wr tys tysC isC isR isT)
    (q0 : Nat) {fs : List Value} (hc0 : vwCl[ci]? = some q) (he0 : ws[q0]? = some (b, .inr (ci, fs)))
    (hn : As.length = n) (hsize : ls.size = nL) (hstk : stk = As.reverse ++ .ref b :: rest) (hW : (rest.map fun v => v.category).sum ≤ 8) (hdg : decode cc pc = .ok (.invokevirtual index, 3)) (hf : cells + mc ≤ R.cells ∧ slots + ms ≤ R.slots) :
    vx_Run p l e R s m args below meth c H locs cells slots mc ms (F0 m pc ls stk) rest (Qc (Value.ref b :: As).toArray) XC (va_A wc H.size) := by
  obtain ⟨hC, hR, hnC, hnR, hdis, hT⟩ := hX
  refine vx_runV F hM cw ⟨Wx_blind, va_recv hK hP hc0 he0, fun U hU hW => ⟨rfl, ⟨by rw [hU], by rw [hU]; exact hP.sub isC (map_fm hC), va_K.moved hW.alike (hK.sub isT hT), (hD.sub isC hnC hC).weaken (fun _ _ _ _ => trivial)⟩, ?_⟩⟩ rfl hn hsize hstk (lv_room hW) hdg hf
  rw [hU]
  exact ((hXE.kept hS.2.1).narrow (va_free hD hS hA isC hC)).warm hW
theorem xRunS {Qc : Array Value → State → Outcome → State → Prop} (F : CallFix p m c cc nL s args Ts own)
    (hM : vx_Met l y wsY rm (va_Pc As (Wx D tysC wc H.size)) Qc XC mc ms (va_A wc H.size))
    (cw : CallB R s args own index y bytes maxL ret wsY rm mc ms n ∧ (Cond.static y).before args s = true) (hK : va_K D vwCl tys s) (hP : va_P D vwCl ws H) (hD : va_D A ws) (hS : va_S A s.heap H locs) (hA : ∀ q, s.heap.size ≤ q → A q) (hXE : XE A s s.heap) {isC isR isT : List Nat} (hX : Cut D A ws wc wr tys tysC isC isR isT)
    (hn : As.length = n) (hsize : ls.size = nL) (hstk : stk = As.reverse ++ rest) (hW : (rest.map fun v => v.category).sum ≤ 8) (hdg : decode cc pc = .ok (.invokestatic index, 3)) (hf : cells + mc ≤ R.cells ∧ slots + ms ≤ R.slots) :
    vx_Run p l e R s m args below meth c H locs cells slots mc ms (F0 m pc ls stk) rest (Qc As.toArray) XC (va_A wc H.size) := by
  obtain ⟨hC, hR, hnC, hnR, hdis, hT⟩ := hX
  refine vx_runS F hM cw ⟨Wx_blind, fun U hU hW => ⟨rfl, ⟨by rw [hU], by rw [hU]; exact hP.sub isC (map_fm hC), va_K.moved hW.alike (hK.sub isT hT), (hD.sub isC hnC hC).weaken (fun _ _ _ _ => trivial)⟩, ?_⟩⟩ rfl hn hsize hstk (lv_room hW) hdg hf
  rw [hU]
  exact ((hXE.kept hS.2.1).narrow (va_free hD hS hA isC hC)).warm hW
theorem xi {post : Int32 → S → Prop} {av : Array Value} {isC isR isT : List Nat} (hX : Cut D A ws wc wr tys tysC isC isR isT) (hP : va_P D vwCl ws H) (hD : va_D A ws) (hS : va_S A s.heap H locs) (hA : ∀ q, s.heap.size ≤ q → A q)
    (hr : vx_Run p l e R s m args below meth c H locs cells slots mc ms (F0 m pc ls stk) rest (va_Qi post (fun u t => We D tysC (w1 u) (va_A wc H.size) t) (va_A wc H.size) av) (vx_X (fun _ : SX => True) (fun E x t => px E x ∧ We D tysC (xb x) (va_A wc H.size) t) (va_A wc H.size)) (va_A wc H.size))
    (kx : ∀ (E : String) (ce : Cell) (q9 : Addr) (x : SX) (H1 : Heap) (locs1 : List Loc), px E x → va_P D vwCl (wr ++ xb x) H1 → va_D A (wr ++ xb x) → va_S A s.heap H1 locs1 → H1[q9]? = some ce → ce.vm = .none → s.vm.findClass E = some ce.cls → vx_W p l e R s m args below meth c H1 locs1 (cells + mc) (slots + ms) Q (F0 m pc ls rest) q9)
    (kk : ∀ (r : Int32) (u : S) (H1 : Heap) (locs1 : List Loc), post r u → va_P D vwCl (wr ++ w1 u) H1 → va_D A (wr ++ w1 u) → va_S A s.heap H1 locs1 → W p l e R s m args below meth c H1 locs1 (cells + mc) (slots + ms) Q (F0 m (pc + 3) ls (.int r :: rest))) : W p l e R s m args below meth c H locs cells slots Q (F0 m pc ls stk) := by
  have hF := va_free hD hS hA isC hX.1
  refine vx_calli hr hS (fun q _ h => hF q h) hF (fun q _ h => hF q h) (fun E ce q9 x t H1 locs1 ht hvm hw hB hz hk hS1 hc hv hcl => ?_) (fun r u t H1 locs1 ht hvm hw hB hz hk hS1 => ?_)
  · obtain ⟨h1, h2⟩ := kBack hP hD hS hA hX ht hB.2 hk
    exact kx E ce q9 x H1 locs1 hB.1 h1 h2 hS1 hc hv hcl
  · obtain ⟨h1, h2⟩ := kBack hP hD hS hA hX ht hB hk
    exact kk r u H1 locs1 hw h1 h2 hS1
theorem xl {post : Int64 → S → Prop} {av : Array Value} {isC isR isT : List Nat} (hX : Cut D A ws wc wr tys tysC isC isR isT) (hP : va_P D vwCl ws H) (hD : va_D A ws) (hS : va_S A s.heap H locs) (hA : ∀ q, s.heap.size ≤ q → A q)
    (hr : vx_Run p l e R s m args below meth c H locs cells slots mc ms (F0 m pc ls stk) rest (va_Ql post (fun u t => We D tysC (w1 u) (va_A wc H.size) t) (va_A wc H.size) av) (vx_X (fun _ : SX => True) (fun E x t => px E x ∧ We D tysC (xb x) (va_A wc H.size) t) (va_A wc H.size)) (va_A wc H.size))
    (kx : ∀ (E : String) (ce : Cell) (q9 : Addr) (x : SX) (H1 : Heap) (locs1 : List Loc), px E x → va_P D vwCl (wr ++ xb x) H1 → va_D A (wr ++ xb x) → va_S A s.heap H1 locs1 → H1[q9]? = some ce → ce.vm = .none → s.vm.findClass E = some ce.cls → vx_W p l e R s m args below meth c H1 locs1 (cells + mc) (slots + ms) Q (F0 m pc ls rest) q9)
    (kk : ∀ (r : Int64) (u : S) (H1 : Heap) (locs1 : List Loc), post r u → va_P D vwCl (wr ++ w1 u) H1 → va_D A (wr ++ w1 u) → va_S A s.heap H1 locs1 → W p l e R s m args below meth c H1 locs1 (cells + mc) (slots + ms) Q (F0 m (pc + 3) ls (.long r :: rest))) : W p l e R s m args below meth c H locs cells slots Q (F0 m pc ls stk) := by
  have hF := va_free hD hS hA isC hX.1
  refine vx_calll hr hS (fun q _ h => hF q h) hF (fun q _ h => hF q h) (fun E ce q9 x t H1 locs1 ht hvm hw hB hz hk hS1 hc hv hcl => ?_) (fun r u t H1 locs1 ht hvm hw hB hz hk hS1 => ?_)
  · obtain ⟨h1, h2⟩ := kBack hP hD hS hA hX ht hB.2 hk
    exact kx E ce q9 x H1 locs1 hB.1 h1 h2 hS1 hc hv hcl
  · obtain ⟨h1, h2⟩ := kBack hP hD hS hA hX ht hB hk
    exact kk r u H1 locs1 hw h1 h2 hS1
theorem xv {post : S → Prop} {av : Array Value} {isC isR isT : List Nat} (hX : Cut D A ws wc wr tys tysC isC isR isT) (hP : va_P D vwCl ws H) (hD : va_D A ws) (hS : va_S A s.heap H locs) (hA : ∀ q, s.heap.size ≤ q → A q)
    (hr : vx_Run p l e R s m args below meth c H locs cells slots mc ms (F0 m pc ls stk) rest (va_Qv post (fun u t => We D tysC (w1 u) (va_A wc H.size) t) (va_A wc H.size) av) (vx_X (fun _ : SX => True) (fun E x t => px E x ∧ We D tysC (xb x) (va_A wc H.size) t) (va_A wc H.size)) (va_A wc H.size))
    (kx : ∀ (E : String) (ce : Cell) (q9 : Addr) (x : SX) (H1 : Heap) (locs1 : List Loc), px E x → va_P D vwCl (wr ++ xb x) H1 → va_D A (wr ++ xb x) → va_S A s.heap H1 locs1 → H1[q9]? = some ce → ce.vm = .none → s.vm.findClass E = some ce.cls → vx_W p l e R s m args below meth c H1 locs1 (cells + mc) (slots + ms) Q (F0 m pc ls rest) q9)
    (kk : ∀ (u : S) (H1 : Heap) (locs1 : List Loc), post u → va_P D vwCl (wr ++ w1 u) H1 → va_D A (wr ++ w1 u) → va_S A s.heap H1 locs1 → W p l e R s m args below meth c H1 locs1 (cells + mc) (slots + ms) Q (F0 m (pc + 3) ls rest)) : W p l e R s m args below meth c H locs cells slots Q (F0 m pc ls stk) := by
  have hF := va_free hD hS hA isC hX.1
  refine vx_callv hr hS (fun q _ h => hF q h) hF (fun q _ h => hF q h) (fun E ce q9 x t H1 locs1 ht hvm hw hB hz hk hS1 hc hv hcl => ?_) (fun u t H1 locs1 ht hvm hw hB hz hk hS1 => ?_)
  · obtain ⟨h1, h2⟩ := kBack hP hD hS hA hX ht hB.2 hk
    exact kx E ce q9 x H1 locs1 hB.1 h1 h2 hS1 hc hv hcl
  · obtain ⟨h1, h2⟩ := kBack hP hD hS hA hX ht hB hk
    exact kk u H1 locs1 hw h1 h2 hS1
end XCALLS
/-- the exceptions' words -/
theorem xg_ise : ∀ w ∈ (vx_atS RX1 60 "java/lang/IllegalStateException" ["java/lang/RuntimeException", "java/lang/Exception"]).filter (fun w => !goodWord w), w ∈ xB "java/lang/IllegalStateException" := by decide +kernel
theorem xg_iob : ∀ w ∈ (vx_atS RX1 236 "java/lang/IndexOutOfBoundsException" ["java/lang/RuntimeException", "java/lang/Exception"]).filter (fun w => !goodWord w), w ∈ xB "java/lang/IndexOutOfBoundsException" := by decide +kernel
theorem xg_iae : ∀ w ∈ (vx_atS RX1 89 "java/lang/IllegalArgumentException" ["java/lang/RuntimeException", "java/lang/Exception"]).filter (fun w => !goodWord w), w ∈ xB "java/lang/IllegalArgumentException" := by decide +kernel
theorem xo_ise : ∀ w ∈ Cond.classLink RX1 56 "java/lang/IllegalStateException" :: Cond.initialized "java/lang/IllegalStateException" :: vx_atS RX1 60 "java/lang/IllegalStateException" ["java/lang/RuntimeException", "java/lang/Exception"], vx_ot w = true := by decide +kernel
theorem xo_iob : ∀ w ∈ Cond.classLink RX1 232 "java/lang/IndexOutOfBoundsException" :: Cond.initialized "java/lang/IndexOutOfBoundsException" :: vx_atS RX1 236 "java/lang/IndexOutOfBoundsException" ["java/lang/RuntimeException", "java/lang/Exception"], vx_ot w = true := by decide +kernel
theorem xo_iae : ∀ w ∈ Cond.classLink RX1 85 "java/lang/IllegalArgumentException" :: Cond.initialized "java/lang/IllegalArgumentException" :: vx_atS RX1 89 "java/lang/IllegalArgumentException" ["java/lang/RuntimeException", "java/lang/Exception"], vx_ot w = true := by decide +kernel
/-! ===== the method that calls a nest mate ===== -/
def Wn (D : va_G) (tys : List (ClassId × FieldType)) (ws : va_W) (sz : Nat) : State → Prop := fun U => Wd D tys ws sz U ∧ va_Nw xNe U
theorem Wn_blind {D : va_G} {tys : List (ClassId × FieldType)} {ws : va_W} {sz : Nat} {av : List Value} : FrameBlind (va_Pc av (Wn D tys ws sz)) := fun a U g mk q => by
  obtain ⟨q0, ⟨q1, qP, qK, qD⟩, z1⟩ := q
  exact ⟨q0, ⟨q1, qP, va_K.moved (u := U) (U := U.calling g mk a) (Vm.Alike.refl U.vm) qK, qD⟩, va_Nw.same (u := U) (U := U.calling g mk a) rfl rfl z1⟩
theorem mk_nest {l : Launch} {y : MethodName} {ws ws' : List Cond} {rm : Room} {D : va_G} {tys : List (ClassId × FieldType)} {wc : va_W} {sz : Nat} (av : List Value) (Qc : (Nat → Prop) → Array Value → State → Outcome → State → Prop) {mc ms : Nat} {cc : ByteArray} {maxL : Nat} {ret : Option FieldType}
    (hy : plainName y.cls = true) (hw : ws = Cond.code y cc maxL ret :: ws') (hlen : (lg_sl av).length ≤ maxL)
    (body : ∀ p e s m args below meth c (A : Nat → Prop) (ls : Array Slot), CallFix p m c cc maxL s args ws y.cls → meth.sig.returnType = ret → meth.locks = false → meth.name = y.name → va_P D vwCl wc s.heap → va_K D vwCl tys s → va_D A wc → va_Nw xNe s → (∀ q : Nat, s.heap.size ≤ q → A q) → lv_has ls maxL (lv_args 0 av) →
      W p l e rm s m args below meth c s.heap [] 0 0 (MQ below (Qc A) args s mc ms A) (F0 m 0 ls [])) :
    Met l y ws rm (va_Pc av (Wn D tys wc sz)) (Qc (va_A wc sz)) mc ms (va_A wc sz) := by
  refine Met.ofW (cc := cc) (maxL := maxL) (ret := ret) hy hw ?_
  intro p e s m args below meth c s₁ B hml hv
  obtain ⟨rfl, ⟨hsz, hP, hK, hD0⟩, hNe⟩ := hv
  subst hsz
  have hl := lv_entry av (n := maxL) hlen
  rw [lg_entry_eq]
  exact body p e s m _ below meth c _ _ ⟨B.exec, B.bytes, hml, findClass_of_methodNamed B.named, atoms_spec (ws := ws) B.pre⟩ B.returns B.notSynchronized (name_of_methodNamed B.named B.method).1 hP hK hD0.self hNe (fun q h => Or.inr h) hl
section NCALLS
variable {p : Program} {l : Launch} {e : Env} {R : Room} {s : State} {m : MethodId} {args : Array Value} {below : List Frame} {meth : Method} {c : Code} {H H0 : Heap} {locs : List Loc} {cells slots : Nat} {Q : State → Prop} {cc : ByteArray} {pc nL : Nat} {ls : Array Slot} {D : va_G} {A : Nat → Prop} {ws wc wr : va_W} {tys tysC : List (ClassId × FieldType)} {mc ms : Nat} {Ts : List Cond} {own host : String}
variable {index : Nat} {y : MethodName} {bytes : ByteArray} {maxL : Nat} {ret : Option FieldType} {wsY : List Cond} {rm : Room} {n : Nat} {b : Addr} {As stk rest : List Value}
theorem nRunV {Qc : Array Value → State → Outcome → State → Prop} {ci : Nat} {q : vw_C} (F : CallFix p m c cc nL s args Ts own)
    (hM : Met l y wsY rm (va_Pc (.ref b :: As) (Wn D tysC wc H.size)) Qc mc ms (va_A wc H.size))
    (cw : CallW R s args own q.1 index y bytes maxL ret wsY rm mc ms n) (hK : va_K D vwCl tys s) (hP : va_P D vwCl ws H) (hD : va_D A ws) (hNe : va_Nw xNe s) {isC isR isT : List Nat} (hX : Cut D A ws wc wr tys tysC isC isR isT)
    (q0 : Nat) {fs : List Value} (hc0 : vwCl[ci]? = some q) (he0 : ws[q0]? = some (b, .inr (ci, fs)))
    (hn : As.length = n) (hsize : ls.size = nL) (hstk : stk = As.reverse ++ .ref b :: rest) (hW : (rest.map fun v => v.category).sum ≤ 8) (hdg : decode cc pc = .ok (.invokevirtual index, 3)) (hf : cells + mc ≤ R.cells ∧ slots + ms ≤ R.slots) :
    va_Run p l e R s m args below meth c H locs cells slots mc ms (F0 m pc ls stk) rest (Qc (Value.ref b :: As).toArray) (va_A wc H.size) := by
  obtain ⟨hC, hR, hnC, hnR, hdis, hT⟩ := hX
  exact va_runV F hM cw ⟨Wn_blind, va_recv hK hP hc0 he0, fun U hU hW => ⟨rfl, ⟨by rw [hU], by rw [hU]; exact hP.sub isC (map_fm hC), va_K.moved hW.alike (hK.sub isT hT), (hD.sub isC hnC hC).weaken (fun _ _ _ _ => trivial)⟩, va_Nw.warmM hW hNe⟩⟩ rfl hn hsize hstk (lv_room hW) hdg hf
/-- a static call of a nest mate -/
theorem kRunSN {Qc : Array Value → State → Outcome → State → Prop} (F : CallFix p m c cc nL s args Ts own)
    (hM : Met l y wsY rm (va_Pc As (Wd D tysC wc H.size)) Qc mc ms (va_A wc H.size))
    (cw : va_CN R s args own index y host bytes maxL ret wsY rm mc ms n ∧ (Cond.static y).before args s = true ∧ True) (hK : va_K D vwCl tys s) (hP : va_P D vwCl ws H) (hD : va_D A ws) {isC isR isT : List Nat} (hX : Cut D A ws wc wr tys tysC isC isR isT)
    (hn : As.length = n) (hsize : ls.size = nL) (hstk : stk = As.reverse ++ rest) (hW : (rest.map fun v => v.category).sum ≤ 8) (hdg : decode cc pc = .ok (.invokestatic index, 3)) (hf : cells + mc ≤ R.cells ∧ slots + ms ≤ R.slots) :
    va_Run p l e R s m args below meth c H locs cells slots mc ms (F0 m pc ls stk) rest (Qc As.toArray) (va_A wc H.size) := by
  obtain ⟨hC, hR, hnC, hnR, hdis, hT⟩ := hX
  exact va_runSN F hM cw ⟨Wd_blind, fun U hU hW => ⟨rfl, by rw [hU], by rw [hU]; exact hP.sub isC (map_fm hC), va_K.moved hW.alike (hK.sub isT hT), (hD.sub isC hnC hC).weaken (fun _ _ _ _ => trivial)⟩⟩ rfl hn hsize hstk (lv_room hW) hdg hf
end NCALLS
theorem xstr_58 : (58, "there are 12 delegates") ∈ xStr := by decide
theorem xstr_67 : (67, "there is no room on that plank") ∈ xStr := by decide
theorem xstr_80 : (80, "this one is not willing to stand there") ∈ xStr := by decide
theorem xstr_87 : (87, "the strength is not 1 to 12") ∈ xStr := by decide
theorem xstr_121 : (121, "the village has no delegates") ∈ xStr := by decide
theorem xstr_130 : (130, "there are no other delegates") ∈ xStr := by decide
theorem xstr_234 : (234, "there is no such delegate") ∈ xStr := by decide
theorem xstr_237 : (237, "the village is not 0 to 4") ∈ xStr := by decide
theorem xstr_239 : (239, "the plank is not 0 to 40") ∈ xStr := by decide
theorem xstr_241 : (241, "both planks are the same") ∈ xStr := by decide
theorem xstr_243 : (243, "the reach is not 0 to 20") ∈ xStr := by decide
theorem xstr_245 : (245, "the pace is not 1 to 5") ∈ xStr := by decide
theorem xstr_247 : (247, "the rounds are not 1 to 50") ∈ xStr := by decide
theorem xstr_249 : (249, "there are no delegates") ∈ xStr := by decide
end
section
/-! ===== new objects and rows of numbers ===== -/
/-- the class of the rows of a plain type, out of the tables -/
theorem tys_of {ty : FieldType} {args : Array Value} {s : State} (hp : ∀ C, ty ≠ .object C) (h : (Cond.arrayClass ty).before args s = true) : ∃ cA : ClassId, ArrOfT s cA ty ∧ va_RA s cA ty := by
  obtain ⟨cA, kA, comp, h1, h2, h3⟩ := Cond.arrayClass_spec h
  refine ⟨cA, fun n z => ⟨fun k h => (by cases h), kA, h2, comp, h3⟩, ?_⟩
  cases ty with
  | object C => exact absurd rfl (hp C)
  | _ => exact h1
section NEWS
variable {p : Program} {l : Launch} {e : Env} {R : Room} {s : State} {m : MethodId} {args : Array Value} {below : List Frame} {meth : Method} {c : Code} {H : Heap} {locs : List Loc} {cells slots : Nat} {Q : State → Prop}
variable {cc : ByteArray} {pc : Nat} {ls : Array Slot} {rest : List Value} {D : va_G} {A : Nat → Prop} {a : Nat} {tys : List (ClassId × FieldType)} {ws : va_W} {H0 : Heap}
theorem a_new (hexec : p.tables.exec = Jvm.exec) (hb : c.code = cc) (harr : (Cond.arrayClass .int).before args s = true) (hK : va_K D vwCl tys s) (hP : va_P D vwCl ws H) (hD : va_D A ws) (hS : va_S A H0 H locs) (hA : ∀ q, H0.size ≤ q → A q) (t0 : Nat) {cA : ClassId} (ht : tys[t0]? = some (cA, .int))
    {n : Int32} {N : Nat} (hn : ¬ n < 0) (hN : n.toNatClampNeg = N) (hb4 : N ≤ 1000) (hcells : cells + 1 ≤ R.cells) (hslots : slots + N ≤ R.slots) (hdg : decode cc pc = .ok (.newarray .int, 2))
    (kk : ∀ (q : Nat) (H1 : Heap), va_P D vwCl (ws ++ [(q, .inl (cA, N, .inl (fun _ => 0)))]) H1 → va_D A (ws ++ [(q, .inl (cA, N, .inl (fun _ => 0)))]) → va_S A H0 H1 locs → W p l e R s m args below meth c H1 locs (cells + 1) (slots + N) Q (F0 m (pc + 2) ls (.ref q :: rest))) : W p l e R s m args below meth c H locs cells slots Q (F0 m pc ls (.int n :: rest)) := by
  refine va_newa (atype := .int) (ty := .int) (a0 := (N, .inl (fun _ => 0))) (N' := N) hexec hb harr rfl hK hP hD hS hA (fun _ => rfl) hn hN ?_ hcells hslots hdg ?_
  · show N * 4 ≤ 536870912
    omega
  · intro q cB H1 hK1 hP1 hD1 hS1
    have h1 : va_RA s cB .int := (hK1.2 tys.length (cB, .int) (by rw [List.getElem?_append_right (Nat.le_refl _), Nat.sub_self]; rfl)).2
    have h2 : va_RA s cA .int := (hK.2 t0 _ ht).2
    have e : cB = cA := Option.some.inj (Eq.trans (Eq.symm h1) h2)
    subst e
    exact kk q H1 hP1 hD1 hS1
end NEWS
/-- the nest mate's link of the constructor -/
def xNe2 : Cond := .methodLinkNest RX1 40 yX0_init RX1
def Wm (D : va_G) (tys : List (ClassId × FieldType)) (ws : va_W) (sz : Nat) : State → Prop := fun U => Wd D tys ws sz U ∧ va_Nw xNe2 U
theorem Wm_blind {D : va_G} {tys : List (ClassId × FieldType)} {ws : va_W} {sz : Nat} {av : List Value} : FrameBlind (va_Pc av (Wm D tys ws sz)) := fun a U g mk q => by
  obtain ⟨q0, ⟨q1, qP, qK, qD⟩, z1⟩ := q
  exact ⟨q0, ⟨q1, qP, va_K.moved (u := U) (U := U.calling g mk a) (Vm.Alike.refl U.vm) qK, qD⟩, va_Nw.same (u := U) (U := U.calling g mk a) rfl rfl z1⟩
theorem mk_nest2 {l : Launch} {y : MethodName} {ws ws' : List Cond} {rm : Room} {D : va_G} {tys : List (ClassId × FieldType)} {wc : va_W} {sz : Nat} (av : List Value) (Qc : (Nat → Prop) → Array Value → State → Outcome → State → Prop) {mc ms : Nat} {cc : ByteArray} {maxL : Nat} {ret : Option FieldType}
    (hy : plainName y.cls = true) (hw : ws = Cond.code y cc maxL ret :: ws') (hlen : (lg_sl av).length ≤ maxL)
    (body : ∀ p e s m args below meth c (A : Nat → Prop) (ls : Array Slot), CallFix p m c cc maxL s args ws y.cls → meth.sig.returnType = ret → meth.locks = false → meth.name = y.name → va_P D vwCl wc s.heap → va_K D vwCl tys s → va_D A wc → va_Nw xNe2 s → (∀ q : Nat, s.heap.size ≤ q → A q) → lv_has ls maxL (lv_args 0 av) →
      W p l e rm s m args below meth c s.heap [] 0 0 (MQ below (Qc A) args s mc ms A) (F0 m 0 ls [])) :
    Met l y ws rm (va_Pc av (Wm D tys wc sz)) (Qc (va_A wc sz)) mc ms (va_A wc sz) := by
  refine Met.ofW (cc := cc) (maxL := maxL) (ret := ret) hy hw ?_
  intro p e s m args below meth c s₁ B hml hv
  obtain ⟨rfl, ⟨hsz, hP, hK, hD0⟩, hNe⟩ := hv
  subst hsz
  have hl := lv_entry av (n := maxL) hlen
  rw [lg_entry_eq]
  exact body p e s m _ below meth c _ _ ⟨B.exec, B.bytes, hml, findClass_of_methodNamed B.named, atoms_spec (ws := ws) B.pre⟩ B.returns B.notSynchronized (name_of_methodNamed B.named B.method).1 hP hK hD0.self hNe (fun q h => Or.inr h) hl
section ICALLS
variable {p : Program} {l : Launch} {e : Env} {R : Room} {s : State} {m : MethodId} {args : Array Value} {below : List Frame} {meth : Method} {c : Code} {H H0 : Heap} {locs : List Loc} {cells slots : Nat} {Q : State → Prop} {cc : ByteArray} {pc nL : Nat} {ls : Array Slot} {D : va_G} {A : Nat → Prop} {ws wc wr : va_W} {tys tysC : List (ClassId × FieldType)} {mc ms : Nat} {Ts : List Cond} {own host : String}
variable {index : Nat} {y : MethodName} {bytes : ByteArray} {maxL : Nat} {wsY : List Cond} {rm : Room} {n : Nat} {b : Addr} {As stk rest : List Value}
theorem kRunIN {Qc : Array Value → State → Outcome → State → Prop} (F : CallFix p m c cc nL s args Ts own)
    (hM : Met l y wsY rm (va_Pc (.ref b :: As) (Wd D tysC wc H.size)) Qc mc ms (va_A wc H.size))
    (cw : va_CN R s args own index y host bytes maxL none wsY rm mc ms n ∧ y.name = "<init>" ∧ (Cond.instanceMethod y).before args s = true) (hK : va_K D vwCl tys s) (hP : va_P D vwCl ws H) (hD : va_D A ws) {isC isR isT : List Nat} (hX : Cut D A ws wc wr tys tysC isC isR isT)
    (hn : As.length = n) (hsize : ls.size = nL) (hstk : stk = As.reverse ++ .ref b :: rest) (hW : (rest.map fun v => v.category).sum ≤ 8) (hdg : decode cc pc = .ok (.invokespecial index, 3)) (hf : cells + mc ≤ R.cells ∧ slots + ms ≤ R.slots) :
    va_Run p l e R s m args below meth c H locs cells slots mc ms (F0 m pc ls stk) rest (Qc (Value.ref b :: As).toArray) (va_A wc H.size) := by
  obtain ⟨hC, hR, hnC, hnR, hdis, hT⟩ := hX
  exact va_runIN F hM cw ⟨Wd_blind, fun U hU hW => ⟨rfl, by rw [hU], by rw [hU]; exact hP.sub isC (map_fm hC), va_K.moved hW.alike (hK.sub isT hT), (hD.sub isC hnC hC).weaken (fun _ _ _ _ => trivial)⟩⟩ rfl hn hsize hstk (lv_room hW) hdg hf
theorem kRunI {Qc : Array Value → State → Outcome → State → Prop} (F : CallFix p m c cc nL s args Ts own)
    (hM : Met l y wsY rm (va_Pc (.ref b :: As) (Wd D tysC wc H.size)) Qc mc ms (va_A wc H.size))
    (cw : CallB R s args own index y bytes maxL none wsY rm mc ms n ∧ y.name = "<init>" ∧ (Cond.instanceMethod y).before args s = true) (hK : va_K D vwCl tys s) (hP : va_P D vwCl ws H) (hD : va_D A ws) {isC isR isT : List Nat} (hX : Cut D A ws wc wr tys tysC isC isR isT)
    (hn : As.length = n) (hsize : ls.size = nL) (hstk : stk = As.reverse ++ .ref b :: rest) (hW : (rest.map fun v => v.category).sum ≤ 8) (hdg : decode cc pc = .ok (.invokespecial index, 3)) (hf : cells + mc ≤ R.cells ∧ slots + ms ≤ R.slots) :
    va_Run p l e R s m args below meth c H locs cells slots mc ms (F0 m pc ls stk) rest (Qc (Value.ref b :: As).toArray) (va_A wc H.size) := by
  obtain ⟨hC, hR, hnC, hnR, hdis, hT⟩ := hX
  exact va_runI F hM cw ⟨Wd_blind, fun U hU hW => ⟨rfl, by rw [hU], by rw [hU]; exact hP.sub isC (map_fm hC), va_K.moved hW.alike (hK.sub isT hT), (hD.sub isC hnC hC).weaken (fun _ _ _ _ => trivial)⟩⟩ rfl hn hsize hstk (lv_room hW) hdg hf
theorem mRunI {Qc : Array Value → State → Outcome → State → Prop} (F : CallFix p m c cc nL s args Ts own)
    (hM : Met l y wsY rm (va_Pc (.ref b :: As) (Wm D tysC wc H.size)) Qc mc ms (va_A wc H.size))
    (cw : CallB R s args own index y bytes maxL none wsY rm mc ms n ∧ y.name = "<init>" ∧ (Cond.instanceMethod y).before args s = true) (hK : va_K D vwCl tys s) (hP : va_P D vwCl ws H) (hD : va_D A ws) (hNe : va_Nw xNe2 s) {isC isR isT : List Nat} (hX : Cut D A ws wc wr tys tysC isC isR isT)
    (hn : As.length = n) (hsize : ls.size = nL) (hstk : stk = As.reverse ++ .ref b :: rest) (hW : (rest.map fun v => v.category).sum ≤ 8) (hdg : decode cc pc = .ok (.invokespecial index, 3)) (hf : cells + mc ≤ R.cells ∧ slots + ms ≤ R.slots) :
    va_Run p l e R s m args below meth c H locs cells slots mc ms (F0 m pc ls stk) rest (Qc (Value.ref b :: As).toArray) (va_A wc H.size) := by
  obtain ⟨hC, hR, hnC, hnR, hdis, hT⟩ := hX
  exact va_runI F hM cw ⟨Wm_blind, fun U hU hW => ⟨rfl, ⟨by rw [hU], by rw [hU]; exact hP.sub isC (map_fm hC), va_K.moved hW.alike (hK.sub isT hT), (hD.sub isC hnC hC).weaken (fun _ _ _ _ => trivial)⟩, va_Nw.warmM hW hNe⟩⟩ rfl hn hsize hstk (lv_room hW) hdg hf
end ICALLS
end
section
/-! ===== plain mathematics of what the methods answer ===== -/
def jabs (x : Int32) : Int32 := if 0 ≤ x then x else 0 - x
def jmax (x y : Int32) : Int32 := if x < y then y else x
def jmin (x y : Int32) : Int32 := if y < x then y else x
def cutTo (x lo hi : Int32) : Int32 := jmax lo (jmin x hi)
def b2i (b : Bool) : Int32 := if b then 1 else 0
theorem b2i_t {p : Prop} (d : Decidable p) (h : p) : (1 : Int32) = b2i (@decide p d) := by simp [b2i, h]
theorem b2i_f {p : Prop} (d : Decidable p) (h : ¬ p) : (0 : Int32) = b2i (@decide p d) := by simp [b2i, h]
theorem b2i_ne {p : Prop} {d : Decidable p} (h : ¬ b2i (@decide p d) = 0) : p := by
  by_cases hp : p
  · exact hp
  · simp [b2i, hp] at h
theorem b2i_eq {p : Prop} {d : Decidable p} (h : b2i (@decide p d) = 0) : ¬ p := by
  intro hp
  simp [b2i, hp] at h
theorem nI_m1 {k : Nat} (h : 0 < k) : nI k - 1 = nI (k - 1) := by
  obtain ⟨j, rfl⟩ : ∃ j, k = j + 1 := ⟨k - 1, by omega⟩
  rw [nI_pred]; rfl
theorem nI_inc_m1 {k : Nat} (h : 0 < k) : nI k + Int32.ofInt (-1) = nI (k - 1) := by
  rw [← nI_m1 h]
  rw [Int32.sub_eq_add_neg]
  congr 1
theorem nI_div2 : ∀ k, k < 50 → nI k / 2 = nI (k / 2) := by decide +kernel
def foldN {α : Type} (f : Nat → α → α) (a : α) : Nat → α
  | 0 => a
  | i + 1 => f i (foldN f a i)
/-- how many of the first n stand on p -/
def crowd (f : Nat → Int32) (p : Int32) (n : Nat) : Int32 := foldN (fun i c => if f i = p then c + 1 else c) 0 n
theorem crowd_s (f : Nat → Int32) (p : Int32) (i : Nat) : crowd f p (i + 1) = if f i = p then crowd f p i + 1 else crowd f p i := rfl
/-- the two ends of where the first n stand -/
def loEnd (f : Nat → Int32) (a : Int32) (n : Nat) : Int32 := foldN (fun i c => jmin c (f i)) a n
def hiEnd (f : Nat → Int32) (n : Nat) : Int32 := foldN (fun i c => jmax c (f i)) 0 n
theorem loEnd_s (f : Nat → Int32) (a : Int32) (i : Nat) : loEnd f a (i + 1) = jmin (loEnd f a i) (f i) := rfl
theorem hiEnd_s (f : Nat → Int32) (i : Nat) : hiEnd f (i + 1) = jmax (hiEnd f i) (f i) := rfl
def wide (f : Nat → Int32) (n : Nat) : Int32 := jmax 0 (hiEnd f n - loEnd f 40 n)
/-- two of the first n are of two villages -/
def twoV (f : Nat → Int32) (n : Nat) : Prop := ∃ i, 1 ≤ i ∧ i < n ∧ f i ≠ f (i - 1)
def agreeP (fV f : Nat → Int32) (n : Nat) : Prop := twoV fV n ∧ wide f n ≤ 2
noncomputable def bP (p : Prop) : Int32 := @ite _ p (Classical.propDecidable p) 1 0
theorem bP_t {p : Prop} (h : p) : (1 : Int32) = bP p := by simp [bP, h]
theorem bP_f {p : Prop} (h : ¬ p) : (0 : Int32) = bP p := by simp [bP, h]
theorem bP_ne {p : Prop} (h : ¬ bP p = 0) : p := by
  by_cases hp : p
  · exact hp
  · simp [bP, hp] at h
theorem bP_eq {p : Prop} (h : bP p = 0) : ¬ p := by
  intro hp
  simp [bP, hp] at h
/-- discontents added; votes -/
def disAll (fW : Nat → Int32) (p : Int32) (n : Nat) : Int32 := foldN (fun i c => c + jabs (p - fW i)) 0 n
theorem disAll_s (fW : Nat → Int32) (p : Int32) (i : Nat) : disAll fW p (i + 1) = disAll fW p i + jabs (p - fW i) := rfl
def votes (fW : Nat → Int32) (p q : Int32) (n : Nat) : Int32 := foldN (fun i c => if jabs (p - fW i) < jabs (q - fW i) then c + 1 else c) 0 n
theorem votes_s (fW : Nat → Int32) (p q : Int32) (i : Nat) : votes fW p q (i + 1) = if jabs (p - fW i) < jabs (q - fW i) then votes fW p q i + 1 else votes fW p q i := rfl
/-- a gap closed in a row of n -/
def closeF (f : Nat → Int32) (g n : Nat) : Nat → Int32 := fun i => if g ≤ i ∧ i < n - 1 then f (i + 1) else f i
/-- the first n taken over -/
def copyF (f g : Nat → Int32) (n : Nat) : Nat → Int32 := fun i => if i < n then f i else g i
/-- sorted rows -/
def Srt (f : Nat → Int32) (n : Nat) : Prop := ∀ i j, i ≤ j → j < n → f i ≤ f j
/-- how many of the chosen of the first n stand at q or below; how many are chosen -/
def cle (f : Nat → Int32) (sel : Nat → Bool) (q : Int32) : Nat → Nat
  | 0 => 0
  | i + 1 => cle f sel q i + (if sel i = true ∧ f i ≤ q then 1 else 0)
def tot (sel : Nat → Bool) : Nat → Nat
  | 0 => 0
  | i + 1 => tot sel i + (if sel i = true then 1 else 0)
def allS : Nat → Bool := fun _ => true
/-- a row put in, place by place -/
def Ins (f : Nat → Int32) (n : Nat) (x : Int32) (g : Nat → Int32) : Prop :=
  ∃ p, p ≤ n ∧ (∀ i, i < p → g i = f i) ∧ g p = x ∧ (∀ i, p < i → i ≤ n → g i = f (i - 1)) ∧ (∀ i, p ≤ i → i < n → x < f i) ∧ (0 < p → f (p - 1) ≤ x)
theorem tot_le (sel : Nat → Bool) : ∀ n, tot sel n ≤ n
  | 0 => Nat.le_refl _
  | n + 1 => by
    have := tot_le sel n
    simp only [tot]
    split <;> omega
theorem tot_all : ∀ n, tot allS n = n
  | 0 => rfl
  | n + 1 => by simp [tot, tot_all n, allS]
theorem cle_congr {f g : Nat → Int32} {sel : Nat → Bool} {q : Int32} : ∀ n, (∀ i, i < n → f i = g i) → cle f sel q n = cle g sel q n
  | 0, _ => rfl
  | n + 1, h => by
    simp only [cle]
    rw [cle_congr n (fun i hi => h i (Nat.lt_succ_of_lt hi)), h n (Nat.lt_succ_self n)]
theorem cle_le (f : Nat → Int32) (sel : Nat → Bool) (q : Int32) : ∀ n, cle f sel q n ≤ n
  | 0 => Nat.le_refl _
  | n + 1 => by
    have := cle_le f sel q n
    simp only [cle]
    split <;> omega
theorem cle_mono (f : Nat → Int32) (sel : Nat → Bool) (q : Int32) {a b : Nat} (h : a ≤ b) : cle f sel q a ≤ cle f sel q b := by
  induction b with
  | zero => rw [Nat.le_zero.mp h]; exact Nat.le_refl _
  | succ b ih =>
    rcases Nat.lt_or_ge a (b + 1) with h1 | h1
    · exact Nat.le_trans (ih (by omega)) (by simp only [cle]; omega)
    · rw [show a = b + 1 by omega]; exact Nat.le_refl _
theorem cle_all (f : Nat → Int32) (q : Int32) : ∀ n, (∀ i, i < n → f i ≤ q) → cle f allS q n = n
  | 0, _ => rfl
  | n + 1, h => by
    simp only [cle]
    rw [cle_all f q n (fun i hi => h i (Nat.lt_succ_of_lt hi)), if_pos ⟨rfl, h n (Nat.lt_succ_self n)⟩]
theorem cle_none (f : Nat → Int32) (sel : Nat → Bool) (q : Int32) {a : Nat} : ∀ n, a ≤ n → (∀ i, a ≤ i → i < n → ¬ f i ≤ q) → cle f sel q n = cle f sel q a
  | 0, h, _ => by rw [Nat.le_zero.mp h]
  | n + 1, h, h1 => by
    rcases Nat.lt_or_ge a (n + 1) with h2 | h2
    · simp only [cle]
      rw [cle_none f sel q n (by omega) (fun i h3 h4 => h1 i h3 (by omega)), if_neg (fun z => h1 n (by omega) (by omega) z.2)]
      rfl
    · rw [show a = n + 1 by omega]
theorem ins_srt {f g : Nat → Int32} {n : Nat} {x : Int32} (hs : Srt f n) (h : Ins f n x g) : Srt g (n + 1) := by
  obtain ⟨p, hp, h1, h2, h3, h4, h5⟩ := h
  intro i j hij hj
  rcases Nat.lt_trichotomy i p with a | a | a <;> rcases Nat.lt_trichotomy j p with b | b | b
  · rw [h1 i a, h1 j b]; exact hs i j hij (by omega)
  · subst b
    rw [h1 i a, h2]
    exact Int32.le_trans (hs i (j - 1) (by omega) (by omega)) (h5 (by omega))
  · rw [h1 i a, h3 j b (by omega)]; exact hs i (j - 1) (by omega) (by omega)
  · omega
  · rw [a, b]; exact Int32.le_refl _
  · subst a
    rw [h2, h3 j b (by omega)]
    exact Int32.le_of_lt (h4 (j - 1) (by omega) (by omega))
  · omega
  · omega
  · rw [h3 i a (by omega), h3 j b (by omega)]; exact hs (i - 1) (j - 1) (by omega) (by omega)
theorem ins_cle {f g : Nat → Int32} {n : Nat} {x : Int32} (h : Ins f n x g) (q : Int32) : cle g allS q (n + 1) = cle f allS q n + (if x ≤ q then 1 else 0) := by
  obtain ⟨p, hp, h1, h2, h3, -, -⟩ := h
  have key : ∀ j, p + j ≤ n → cle g allS q (p + 1 + j) = cle f allS q (p + j) + (if x ≤ q then 1 else 0) := by
    intro j
    induction j with
    | zero =>
      intro _
      show cle g allS q p + (if allS p = true ∧ g p ≤ q then 1 else 0) = cle f allS q p + (if x ≤ q then 1 else 0)
      rw [cle_congr p h1, h2]
      simp [allS]
    | succ j ih =>
      intro hj
      show cle g allS q (p + 1 + j) + (if allS (p + 1 + j) = true ∧ g (p + 1 + j) ≤ q then 1 else 0) = cle f allS q (p + j) + (if allS (p + j) = true ∧ f (p + j) ≤ q then 1 else 0) + (if x ≤ q then 1 else 0)
      rw [ih (by omega), h3 (p + 1 + j) (by omega) (by omega), show p + 1 + j - 1 = p + j by omega]
      simp only [allS]
      omega
  have := key (n - p) (by omega)
  rw [show p + 1 + (n - p) = n + 1 by omega, show p + (n - p) = n by omega] at this
  exact this
theorem srt_cle {g : Nat → Int32} {k j : Nat} (hs : Srt g k) (hj : j < k) (q : Int32) : g j ≤ q ↔ j < cle g allS q k := by
  constructor
  · intro h
    have h1 : cle g allS q (j + 1) = j + 1 := cle_all g q (j + 1) (fun i hi => Int32.le_trans (hs i j (by omega) hj) h)
    have h2 := cle_mono g allS q (show j + 1 ≤ k by omega)
    omega
  · intro h
    by_cases h0 : g j ≤ q
    · exact h0
    · have h1 := cle_none g allS q k (show j ≤ k by omega) (fun i h3 h4 z => h0 (Int32.le_trans (hs j i h3 h4) z))
      have h2 := cle_le g allS q j
      omega
/-- the median of the chosen of the first n -/
def IsMed (f : Nat → Int32) (sel : Nat → Bool) (n : Nat) (r : Int32) : Prop := ∀ q : Int32, r ≤ q ↔ (tot sel n - 1) / 2 < cle f sel q n
theorem isMed_uniq {f : Nat → Int32} {sel : Nat → Bool} {n : Nat} {r r' : Int32} (h : IsMed f sel n r) (h' : IsMed f sel n r') : r = r' :=
  Int32.le_antisymm ((h r').mpr ((h' r').mp (Int32.le_refl _))) ((h' r).mpr ((h r).mp (Int32.le_refl _)))
noncomputable def medF (f : Nat → Int32) (sel : Nat → Bool) (n : Nat) : Int32 := @dite _ (∃ r, IsMed f sel n r) (Classical.propDecidable _) (fun h => h.choose) (fun _ => 0)
theorem medF_eq {f : Nat → Int32} {sel : Nat → Bool} {n : Nat} {r : Int32} (h : IsMed f sel n r) : medF f sel n = r := by
  have h1 : ∃ r, IsMed f sel n r := ⟨r, h⟩
  unfold medF
  rw [dif_pos h1]
  exact isMed_uniq h1.choose_spec h
/-- a row that holds the chosen: sorted, as many, as many at each plank or below -/
def RowOf (g : Nat → Int32) (k : Nat) (f : Nat → Int32) (sel : Nat → Bool) (n : Nat) : Prop := Srt g k ∧ k = tot sel n ∧ ∀ q : Int32, cle g allS q k = cle f sel q n
theorem rowOf_0 (g f : Nat → Int32) (sel : Nat → Bool) : RowOf g 0 f sel 0 := ⟨fun i j _ h => absurd h (Nat.not_lt_zero _), rfl, fun _ => rfl⟩
theorem rowOf_put {g g' f : Nat → Int32} {k n : Nat} {sel : Nat → Bool} (h : RowOf g k f sel n) (hs : sel n = true) (hi : Ins g k (f n) g') : RowOf g' (k + 1) f sel (n + 1) := by
  refine ⟨ins_srt h.1 hi, by simp [tot, hs, h.2.1], fun q => ?_⟩
  rw [ins_cle hi q, h.2.2 q]
  simp [cle, hs]
theorem rowOf_not {g f : Nat → Int32} {k n : Nat} {sel : Nat → Bool} (h : RowOf g k f sel n) (hs : sel n = false) : RowOf g k f sel (n + 1) := by
  refine ⟨h.1, by simp [tot, hs, h.2.1], fun q => ?_⟩
  rw [h.2.2 q]
  simp [cle, hs]
theorem rowOf_med {g f : Nat → Int32} {k n : Nat} {sel : Nat → Bool} (h : RowOf g k f sel n) (hk : 0 < k) : IsMed f sel n (g ((k - 1) / 2)) := by
  intro q
  rw [← h.2.1, ← h.2.2 q]
  exact srt_cle h.1 (by omega) q
/-- the class's compromise of all on f -/
noncomputable def midF (f : Nat → Int32) (n : Nat) : Int32 := if n = 0 then 0 else medF f allS n
def nearW (w r mid : Int32) : Int32 := cutTo mid (w - r) (w + r)
def stepC (w r pc fr mid : Int32) : Int32 := cutTo (nearW w r mid) (fr - pc) (fr + pc)
/-- one delegate's turn in a round -/
noncomputable def turnF (fW fR fP : Nat → Int32) (n : Nat) (st mid : Int32) (i : Nat) (q : (Nat → Int32) × Int32) : (Nat → Int32) × Int32 :=
  @ite _ (stepC (fW i) (fR i) (fP i) (q.1 i) mid ≠ q.1 i ∧ crowd q.1 (stepC (fW i) (fR i) (fP i) (q.1 i) mid) n < st) (Classical.propDecidable _) (upd q.1 i (stepC (fW i) (fR i) (fP i) (q.1 i) mid), q.2 + 1) q
noncomputable def turns (fW fR fP : Nat → Int32) (n : Nat) (st : Int32) (f : Nat → Int32) (k : Nat) : (Nat → Int32) × Int32 := foldN (turnF fW fR fP n st (midF f n)) (f, 0) k
theorem turns_s (fW fR fP : Nat → Int32) (n : Nat) (st : Int32) (f : Nat → Int32) (k : Nat) : turns fW fR fP n st f (k + 1) = turnF fW fR fP n st (midF f n) k (turns fW fR fP n st f k) := rfl
theorem turn_go {fW fR fP : Nat → Int32} {n : Nat} {st mid : Int32} {i : Nat} {q : (Nat → Int32) × Int32} {x : Int32} (hx : x = stepC (fW i) (fR i) (fP i) (q.1 i) mid) (h1 : ¬ x = q.1 i) (h2 : crowd q.1 x n < st) : turnF fW fR fP n st mid i q = (upd q.1 i x, q.2 + 1) := by
  subst hx
  unfold turnF
  exact if_pos ⟨h1, h2⟩
theorem turn_stay {fW fR fP : Nat → Int32} {n : Nat} {st mid : Int32} {i : Nat} {q : (Nat → Int32) × Int32} {x : Int32} (hx : x = stepC (fW i) (fR i) (fP i) (q.1 i) mid) (h : x = q.1 i ∨ ¬ crowd q.1 x n < st) : turnF fW fR fP n st mid i q = q := by
  subst hx
  unfold turnF
  exact if_neg (fun z => h.elim z.1 (fun y => y z.2))
/-- rounds, one after the other: where all stand, and how often one went -/
noncomputable def rndF (fW fR fP : Nat → Int32) (n : Nat) (st : Int32) (f : Nat → Int32) : Nat → Int32 := (turns fW fR fP n st f n).1
noncomputable def rndM (fW fR fP : Nat → Int32) (n : Nat) (st : Int32) (f : Nat → Int32) : Int32 := (turns fW fR fP n st f n).2
noncomputable def rnds (fW fR fP : Nat → Int32) (n : Nat) (st : Int32) (f : Nat → Int32) (k : Nat) : (Nat → Int32) × Int32 := foldN (fun _ q => (rndF fW fR fP n st q.1, q.2 + rndM fW fR fP n st q.1)) (f, 0) k
theorem rnds_s (fW fR fP : Nat → Int32) (n : Nat) (st : Int32) (f : Nat → Int32) (k : Nat) : rnds fW fR fP n st f (k + 1) = (rndF fW fR fP n st (rnds fW fR fP n st f k).1, (rnds fW fR fP n st f k).2 + rndM fW fR fP n st (rnds fW fR fP n st f k).1) := rfl
/-- the insertion's loop -/
def InsL (f : Nat → Int32) (n : Nat) (x : Int32) (p : Nat) (g : Nat → Int32) : Prop := p ≤ n ∧ (∀ i, i < p → g i = f i) ∧ (∀ i, p < i → i ≤ n → g i = f (i - 1)) ∧ (∀ i, p ≤ i → i < n → x < f i)
theorem insL_0 (f : Nat → Int32) (n : Nat) (x : Int32) : InsL f n x n f := ⟨Nat.le_refl _, fun _ _ => rfl, fun i a b => absurd a (by omega), fun i a b => absurd a (by omega)⟩
theorem insL_s {f : Nat → Int32} {n : Nat} {x : Int32} {p : Nat} {g : Nat → Int32} (h : InsL f n x p g) (hp : 0 < p) (hx : ¬ g (p - 1) ≤ x) : InsL f n x (p - 1) (upd g p (g (p - 1))) := by
  obtain ⟨h0, h1, h2, h3⟩ := h
  refine ⟨by omega, fun i hi => ?_, fun i a b => ?_, fun i a b => ?_⟩
  · rw [pk_un (by omega)]; exact h1 i (by omega)
  · by_cases e : i = p
    · subst e
      rw [pk_us, h1 (i - 1) (by omega)]
    · rw [pk_un e]; exact h2 i (by omega) b
  · by_cases e : i = p - 1
    · subst e
      rw [h1 (p - 1) (by omega)] at hx
      exact Int32.not_le.mp hx
    · exact h3 i (by omega) b
theorem insL_end {f : Nat → Int32} {n : Nat} {x : Int32} {p : Nat} {g : Nat → Int32} (h : InsL f n x p g) (hx : p ≤ 0 ∨ g (p - 1) ≤ x) : Ins f n x (upd g p x) := by
  obtain ⟨h0, h1, h2, h3⟩ := h
  refine ⟨p, h0, fun i hi => ?_, pk_us, fun i a b => ?_, h3, fun hp => ?_⟩
  · rw [pk_un (by omega)]; exact h1 i hi
  · rw [pk_un (by omega)]; exact h2 i a b
  · rw [← h1 (p - 1) (by omega)]
    exact hx.resolve_left (by omega)
def midRow (g : Nat → Int32) (k : Nat) : Int32 := if k = 0 then 0 else g ((k - 1) / 2)
theorem midRow_0 {g : Nat → Int32} {k : Nat} (h : k = 0) : (0 : Int32) = midRow g k := by simp [midRow, h]
theorem midRow_s {g : Nat → Int32} {k : Nat} (h : k ≠ 0) : g ((k - 1) / 2) = midRow g k := by simp [midRow, h]
theorem mid_of {g f : Nat → Int32} {i n : Nat} (h : RowOf g i f allS i) (e : i = n) : midRow g i = midF f n := by
  subst e
  unfold midRow midF
  split
  · rfl
  · exact (medF_eq (rowOf_med h (by omega))).symm
/-- the median of a row with one more, by the row's two middle places -/
def mwF (g : Nat → Int32) (k : Nat) (x : Int32) : Int32 := cutTo x (if 0 < k / 2 then g (k / 2 - 1) else 0) (if k / 2 < k then g (k / 2) else 40)
/-- the first n of a gap's closing -/
def closeL (f : Nat → Int32) (gp i : Nat) : Nat → Int32 := fun j => if gp ≤ j ∧ j < i then f (j + 1) else f j
theorem closeL_0 (f : Nat → Int32) (gp : Nat) : f = closeL f gp gp := by
  funext j
  simp only [closeL]
  rw [if_neg (by omega)]
theorem closeL_s {f g : Nat → Int32} {gp i : Nat} (h : g = closeL f gp i) (hi : gp ≤ i) : upd g i (g (i + 1)) = closeL f gp (i + 1) := by
  subst h
  funext j
  by_cases e : j = i
  · subst e
    rw [pk_us]
    simp only [closeL]
    rw [if_neg (by omega), if_pos (by omega)]
  · rw [pk_un e]
    simp only [closeL]
    by_cases c : gp ≤ j ∧ j < i
    · rw [if_pos c, if_pos (by omega)]
    · rw [if_neg c, if_neg (by omega)]
theorem closeL_end {f g : Nat → Int32} {gp i n : Nat} (h : g = closeL f gp i) (h1 : n ≤ i + 1) (h2 : i ≤ n - 1) : g = closeF f gp n := by
  subst h
  funext j
  simp only [closeL, closeF]
  rw [show i = n - 1 by omega]
theorem copyF_0 (f g : Nat → Int32) : g = copyF f g 0 := by
  funext j
  simp [copyF]
theorem copyF_s {f g g' : Nat → Int32} {i : Nat} (h : g' = copyF f g i) : upd g' i (f i) = copyF f g (i + 1) := by
  subst h
  funext j
  by_cases e : j = i
  · subst e
    rw [pk_us]
    simp [copyF]
  · rw [pk_un e]
    simp only [copyF]
    by_cases c : j < i
    · rw [if_pos c, if_pos (by omega)]
    · rw [if_neg c, if_neg (by omega)]
def selV (fV : Nat → Int32) (v : Int32) : Nat → Bool := fun i => decide (fV i = v)
def selX (d : Nat) : Nat → Bool := fun i => decide (i ≠ d)
theorem turns_stay {fW fR fP : Nat → Int32} {n : Nat} {st v : Int32} {f g : Nat → Int32} {i : Nat} (hT : (g, v) = turns fW fR fP n st f i) (h : stepC (fW i) (fR i) (fP i) (g i) (midF f n) = g i ∨ ¬ crowd g (stepC (fW i) (fR i) (fP i) (g i) (midF f n)) n < st) : (g, v) = turns fW fR fP n st f (i + 1) := by
  rw [turns_s, ← hT]
  unfold turnF
  rw [if_neg (fun z => h.elim z.1 (fun y => y z.2))]
theorem turns_go {fW fR fP : Nat → Int32} {n : Nat} {st v : Int32} {f g : Nat → Int32} {i : Nat} (hT : (g, v) = turns fW fR fP n st f i) (h1 : ¬ stepC (fW i) (fR i) (fP i) (g i) (midF f n) = g i) (h2 : crowd g (stepC (fW i) (fR i) (fP i) (g i) (midF f n)) n < st) : (upd g i (stepC (fW i) (fR i) (fP i) (g i) (midF f n)), v + 1) = turns fW fR fP n st f (i + 1) := by
  rw [turns_s, ← hT]
  unfold turnF
  rw [if_pos ⟨h1, h2⟩]
/-! ===== what calls refuse ===== -/
def okD (n : Nat) (d : Int32) : Prop := ∃ j, j < n ∧ d = nI j
def okB (lo hi : Nat) (x : Int32) : Prop := ∃ j, lo ≤ j ∧ j ≤ hi ∧ x = nI j
theorem okD_of {n : Nat} {d : Int32} (hn : n ≤ 1000) (h0 : ¬ d < 0) (h1 : d < nI n) : okD n d := by
  obtain ⟨j, hj, rfl⟩ := nI_of h0
  exact ⟨j, (nI_ltI hj (by omega)).mp h1, rfl⟩
theorem okD_neg {n : Nat} {d : Int32} (hn : n ≤ 1000) (h : d < 0) : ¬ okD n d := by
  rintro ⟨j, hj, rfl⟩
  exact nI_pos (show j < 2 ^ 31 by omega) h
theorem okD_big {n : Nat} {d : Int32} (hn : n ≤ 1000) (h : ¬ d < nI n) : ¬ okD n d := by
  rintro ⟨j, hj, rfl⟩
  exact h ((nI_ltI (show j < 2 ^ 31 by omega) (by omega)).mpr hj)
theorem okB_of {lo hi : Nat} {x : Int32} (hh : hi ≤ 1000) (hl : lo ≤ hi) (h1 : ¬ x < nI lo) (h2 : ¬ nI hi < x) : okB lo hi x := by
  have h0 : ¬ x < 0 := fun z => h1 (Int32.lt_of_lt_of_le z (nI_pos' (show lo < 2 ^ 31 by omega)))
  obtain ⟨j, hj, rfl⟩ := nI_of h0
  exact ⟨j, nf_lt_f hj (by omega) h1, nf_lt_f (by omega) hj h2, rfl⟩
theorem okB_lo {lo hi : Nat} {x : Int32} (hh : hi ≤ 1000) (h : x < nI lo) : ¬ okB lo hi x := by
  rintro ⟨j, h1, h2, rfl⟩
  rcases Nat.lt_or_ge lo (2 ^ 31) with a | a
  · exact absurd ((nI_ltI (show j < 2 ^ 31 by omega) a).mp h) (by omega)
  · omega
theorem okB_hi {lo hi : Nat} {x : Int32} (hh : hi ≤ 1000) (h : nI hi < x) : ¬ okB lo hi x := by
  rintro ⟨j, h1, h2, rfl⟩
  exact absurd ((nI_ltI (show hi < 2 ^ 31 by omega) (show j < 2 ^ 31 by omega)).mp h) (by omega)
noncomputable def ifp (p : Prop) (a b : Int32) : Int32 := @ite _ p (Classical.propDecidable p) a b
theorem ifp_t {p : Prop} {a b : Int32} (h : p) : ifp p a b = a := by unfold ifp; exact if_pos h
theorem ifp_f {p : Prop} {a b : Int32} (h : ¬ p) : ifp p a b = b := by unfold ifp; exact if_neg h
/-- the number of the first ground to refuse, 0 without any -/
noncomputable def cd1 (p : Prop) : Int32 := ifp p 1 0
noncomputable def cd2 (p q : Prop) : Int32 := ifp p 1 (ifp q 2 0)
noncomputable def cd3 (p q r : Prop) : Int32 := ifp p 1 (ifp q 2 (ifp r 3 0))
theorem cd1_1 {p : Prop} (h : p) : cd1 p = 1 := ifp_t h
theorem cd1_0 {p : Prop} (h : ¬ p) : cd1 p = 0 := ifp_f h
theorem cd2_1 {p q : Prop} (h : p) : cd2 p q = 1 := ifp_t h
theorem cd2_2 {p q : Prop} (h : ¬ p) (h1 : q) : cd2 p q = 2 := (ifp_f h).trans (ifp_t h1)
theorem cd2_0 {p q : Prop} (h : ¬ p) (h1 : ¬ q) : cd2 p q = 0 := (ifp_f h).trans (ifp_f h1)
theorem cd3_1 {p q r : Prop} (h : p) : cd3 p q r = 1 := ifp_t h
theorem cd3_2 {p q r : Prop} (h : ¬ p) (h1 : q) : cd3 p q r = 2 := (ifp_f h).trans (ifp_t h1)
theorem cd3_3 {p q r : Prop} (h : ¬ p) (h1 : ¬ q) (h2 : r) : cd3 p q r = 3 := (ifp_f h).trans ((ifp_f h1).trans (ifp_t h2))
theorem cd3_0 {p q r : Prop} (h : ¬ p) (h1 : ¬ q) (h2 : ¬ r) : cd3 p q r = 0 := (ifp_f h).trans ((ifp_f h1).trans (ifp_f h2))
end
section
/-! ===== more of what the methods answer ===== -/
def dN (d : Int32) : Nat := d.toNatClampNeg
theorem dN_nI {j : Nat} (h : j < 2 ^ 31) : dN (nI j) = j := nI_clamp h
/-- this one can be led there -/
def canP (fW fR fK : Nat → Int32) (n : Nat) (st : Int32) (j : Nat) (x : Int32) : Prop := jabs (x - fW j) ≤ fR j ∧ (fK j = x ∨ crowd fK x n < st)
theorem tot_selX {j : Nat} : ∀ n, tot (selX j) n = if j < n then n - 1 else n
  | 0 => by simp [tot]
  | n + 1 => by
    simp only [tot, tot_selX n]
    by_cases h : n = j
    · subst h
      simp [selX]
    · have h1 : selX j n = true := by simp [selX, h]
      rw [if_pos h1]
      by_cases h2 : j < n
      · rw [if_pos h2, if_pos (by omega)]; omega
      · rw [if_neg h2, if_neg (by omega)]
/-- the biggest of those that are r at most -/
theorem max_le {f : Nat → Int32} {sel : Nat → Bool} {r : Int32} : ∀ n, 0 < cle f sel r n → ∃ i, i < n ∧ sel i = true ∧ f i ≤ r ∧ ∀ j, j < n → sel j = true → f j ≤ r → f j ≤ f i
  | 0, h => absurd h (Nat.lt_irrefl _)
  | n + 1, h => by
    by_cases h1 : sel n = true ∧ f n ≤ r
    · by_cases h2 : 0 < cle f sel r n
      · obtain ⟨i, a, b, c, d⟩ := max_le n h2
        rcases Int32.le_total (f n) (f i) with e | e
        · refine ⟨i, by omega, b, c, fun j hj s1 s2 => ?_⟩
          by_cases z : j = n
          · rw [z]; exact e
          · exact d j (by omega) s1 s2
        · refine ⟨n, by omega, h1.1, h1.2, fun j hj s1 s2 => ?_⟩
          by_cases z : j = n
          · rw [z]; exact Int32.le_refl _
          · exact Int32.le_trans (d j (by omega) s1 s2) e
      · refine ⟨n, by omega, h1.1, h1.2, fun j hj s1 s2 => ?_⟩
        by_cases z : j = n
        · rw [z]; exact Int32.le_refl _
        · exfalso
          apply h2
          have h3 : cle f sel r (j + 1) ≤ cle f sel r n := cle_mono f sel r (by omega)
          have h4 : cle f sel r (j + 1) = cle f sel r j + 1 := by simp [cle, s1, s2]
          omega
    · have h2 : 0 < cle f sel r n := by
        simp only [cle] at h
        rw [if_neg h1] at h
        exact h
      obtain ⟨i, a, b, c, d⟩ := max_le n h2
      refine ⟨i, by omega, b, c, fun j hj s1 s2 => ?_⟩
      by_cases z : j = n
      · rw [z] at s1 s2
        exact absurd ⟨s1, s2⟩ h1
      · exact d j (by omega) s1 s2
theorem cle_same {f : Nat → Int32} {sel : Nat → Bool} {q r : Int32} : ∀ n, (∀ j, j < n → sel j = true → (f j ≤ q ↔ f j ≤ r)) → cle f sel q n = cle f sel r n
  | 0, _ => rfl
  | n + 1, h => by
    simp only [cle]
    rw [cle_same n (fun j hj => h j (by omega))]
    by_cases s : sel n = true
    · have := h n (by omega) s
      by_cases z : f n ≤ r
      · rw [if_pos ⟨s, this.mpr z⟩, if_pos ⟨s, z⟩]
      · rw [if_neg (fun y => z (this.mp y.2)), if_neg (fun y => z y.2)]
    · rw [if_neg (fun y => s y.1), if_neg (fun y => s y.1)]
theorem isMed_mem {f : Nat → Int32} {sel : Nat → Bool} {n : Nat} {r : Int32} (h : IsMed f sel n r) : ∃ i, i < n ∧ sel i = true ∧ f i = r := by
  have h1 := (h r).mp (Int32.le_refl _)
  obtain ⟨i, a, b, c, d⟩ := max_le n (show 0 < cle f sel r n by omega)
  have h2 : cle f sel (f i) n = cle f sel r n := cle_same n (fun j hj s => ⟨fun z => Int32.le_trans z c, fun z => d j hj s z⟩)
  have h3 := (h (f i)).mpr (by rw [h2]; exact h1)
  exact ⟨i, a, b, Int32.le_antisymm c h3⟩
/-- the median is there: a row that holds the chosen can be made -/
theorem row_ex (f : Nat → Int32) (sel : Nat → Bool) : ∀ n, ∃ g k, RowOf g k f sel n
  | 0 => ⟨f, 0, rowOf_0 _ _ _⟩
  | n + 1 => by
    obtain ⟨g, k, h⟩ := row_ex f sel n
    cases hs : sel n with
    | false => exact ⟨g, k, rowOf_not h hs⟩
    | true =>
      -- the place: how many of the row are f n at most
      have key : ∃ g', Ins g k (f n) g' := by
        have h1 := h.1
        have hp := cle_le g allS (f n) k
        refine ⟨fun i => if i < cle g allS (f n) k then g i else if i = cle g allS (f n) k then f n else g (i - 1), cle g allS (f n) k, hp, fun i hi => ?_, ?_, fun i a b => ?_, fun i a b => ?_, fun a => ?_⟩
        · simp only [if_pos hi]
        · simp
        · simp only [if_neg (show ¬ i < cle g allS (f n) k by omega), if_neg (show ¬ i = cle g allS (f n) k by omega)]
        · exact Int32.not_le.mp (fun z => absurd ((srt_cle h1 b (f n)).mp z) (by omega))
        · exact (srt_cle h1 (by omega) (f n)).mpr (by omega)
      obtain ⟨g', hg⟩ := key
      exact ⟨g', k + 1, rowOf_put h hs hg⟩
theorem med_is {f : Nat → Int32} {sel : Nat → Bool} {n : Nat} (h : 0 < tot sel n) : IsMed f sel n (medF f sel n) := by
  obtain ⟨g, k, hr⟩ := row_ex f sel n
  have := rowOf_med hr (by rw [hr.2.1]; exact h)
  rw [medF_eq this]
  exact this
theorem mid_is {f : Nat → Int32} {n : Nat} (h : n ≠ 0) : IsMed f allS n (midF f n) := by
  unfold midF
  rw [if_neg h]
  exact med_is (by rw [tot_all]; omega)
/-- the first who stands on the compromise -/
def IsDec (f : Nat → Int32) (n : Nat) (r : Int32) : Prop := ∃ k, k < n ∧ r = nI k ∧ f k = midF f n ∧ ∀ j, j < k → f j ≠ midF f n
theorem isDec_uniq {f : Nat → Int32} {n : Nat} {r r' : Int32} (h : IsDec f n r) (h' : IsDec f n r') : r = r' := by
  obtain ⟨k, a, rfl, b, c⟩ := h
  obtain ⟨k', a', rfl, b', c'⟩ := h'
  rcases Nat.lt_trichotomy k k' with z | z | z
  · exact absurd b (c' k z)
  · rw [z]
  · exact absurd b' (c k' z)
noncomputable def decF (f : Nat → Int32) (n : Nat) : Int32 := @dite _ (∃ r, IsDec f n r) (Classical.propDecidable _) (fun h => h.choose) (fun _ => 0)
theorem decF_eq {f : Nat → Int32} {n : Nat} {r : Int32} (h : IsDec f n r) : r = decF f n := by
  have h1 : ∃ r, IsDec f n r := ⟨r, h⟩
  unfold decF
  rw [dif_pos h1]
  exact isDec_uniq h h1.choose_spec
theorem mid_mem {f : Nat → Int32} {n : Nat} (h : n ≠ 0) : ∃ i, i < n ∧ f i = midF f n := by
  obtain ⟨i, a, -, b⟩ := isMed_mem (mid_is (f := f) h)
  exact ⟨i, a, b⟩
theorem dec_end {f : Nat → Int32} {n k : Nat} (hn : n ≠ 0) (hk : k < n) (h : f k = midF f n ∨ n ≤ k + 1) (hb : ∀ j, j < k → f j ≠ midF f n) : nI k = decF f n := by
  refine decF_eq ⟨k, hk, rfl, ?_, hb⟩
  rcases h with h | h
  · exact h
  · obtain ⟨i, a, b⟩ := mid_mem (f := f) hn
    by_cases z : i = k
    · rw [← z]; exact b
    · exact absurd b (hb i (by omega))
/-- the smallest place where a row is the least -/
def amin (g : Nat → Int32) (k : Nat) : Int32 × Int32 := foldN (fun p q => if g (p + 1) < q.2 then (nI (p + 1), g (p + 1)) else q) (0, g 0) k
theorem amin_lt {g : Nat → Int32} {k : Nat} {b v : Int32} (h : (b, v) = amin g k) (h1 : g (k + 1) < v) : (nI (k + 1), g (k + 1)) = amin g (k + 1) := by
  show _ = (if g (k + 1) < (amin g k).2 then (nI (k + 1), g (k + 1)) else amin g k)
  rw [← h, if_pos h1]
theorem amin_ge {g : Nat → Int32} {k : Nat} {b v : Int32} (h : (b, v) = amin g k) (h1 : ¬ g (k + 1) < v) : (b, v) = amin g (k + 1) := by
  show _ = (if g (k + 1) < (amin g k).2 then (nI (k + 1), g (k + 1)) else amin g k)
  rw [← h, if_neg h1]
def bestPl (fW : Nat → Int32) (n : Nat) : Int32 := (amin (fun p => disAll fW (nI p) n) 40).1
def winF (va vb a b : Int32) : Int32 := if va = vb then jmin a b else if vb < va then a else b
/-- equal for the first n -/
def EqN (n : Nat) (f g : Nat → Int32) : Prop := ∀ i, i < n → f i = g i
theorem crowd_congr {f g : Nat → Int32} {x : Int32} : ∀ {n : Nat}, EqN n f g → crowd f x n = crowd g x n
  | 0, _ => rfl
  | n + 1, h => by
    rw [crowd_s, crowd_s, crowd_congr (fun i hi => h i (Nat.lt_succ_of_lt hi)), h n (Nat.lt_succ_self n)]
theorem isMed_congr {f g : Nat → Int32} {sel : Nat → Bool} {n : Nat} {r : Int32} (h : EqN n f g) (hm : IsMed f sel n r) : IsMed g sel n r := fun q => by
  rw [hm q, cle_congr n h]
theorem medF_congr {f g : Nat → Int32} {sel : Nat → Bool} {n : Nat} (h : EqN n f g) : medF f sel n = medF g sel n := by
  by_cases h0 : 0 < tot sel n
  · exact (medF_eq (isMed_congr (fun i hi => (h i hi).symm) (med_is h0)))
  · unfold medF
    have e : (∃ r, IsMed f sel n r) = (∃ r, IsMed g sel n r) := by
      apply propext
      constructor
      · rintro ⟨r, hr⟩; exact ⟨r, isMed_congr h hr⟩
      · rintro ⟨r, hr⟩; exact ⟨r, isMed_congr (fun i hi => (h i hi).symm) hr⟩
    by_cases hx : ∃ r, IsMed f sel n r
    · have hy : ∃ r, IsMed g sel n r := e ▸ hx
      rw [dif_pos hx, dif_pos hy]
      exact isMed_uniq hx.choose_spec (isMed_congr (fun i hi => (h i hi).symm) hy.choose_spec)
    · have hy : ¬ ∃ r, IsMed g sel n r := e ▸ hx
      rw [dif_neg hx, dif_neg hy]
theorem midF_congr {f g : Nat → Int32} {n : Nat} (h : EqN n f g) : midF f n = midF g n := by
  unfold midF
  rw [medF_congr h]
theorem turns_0 (fW fR fP : Nat → Int32) (n : Nat) (st : Int32) (f : Nat → Int32) : turns fW fR fP n st f 0 = (f, 0) := rfl
theorem rnds_0 (fW fR fP : Nat → Int32) (n : Nat) (st : Int32) (f : Nat → Int32) : rnds fW fR fP n st f 0 = (f, 0) := rfl
theorem loEnd_0 (f : Nat → Int32) (a : Int32) : loEnd f a 0 = a := rfl
theorem hiEnd_0 (f : Nat → Int32) : hiEnd f 0 = 0 := rfl
theorem turns_congr {fW fR fP : Nat → Int32} {n : Nat} {st : Int32} {f g : Nat → Int32} (h : EqN n f g) : ∀ k, k ≤ n → EqN n (turns fW fR fP n st f k).1 (turns fW fR fP n st g k).1 ∧ (turns fW fR fP n st f k).2 = (turns fW fR fP n st g k).2
  | 0, _ => by rw [turns_0, turns_0]; exact ⟨h, rfl⟩
  | k + 1, hk => by
    obtain ⟨h1, h2⟩ := turns_congr (fW := fW) (fR := fR) (fP := fP) (st := st) h k (by omega)
    rw [turns_s, turns_s, midF_congr h]
    generalize turns fW fR fP n st f k = a at h1 h2 ⊢
    generalize turns fW fR fP n st g k = b at h1 h2 ⊢
    unfold turnF
    rw [h1 k (by omega), crowd_congr h1]
    by_cases c : stepC (fW k) (fR k) (fP k) (b.1 k) (midF g n) ≠ b.1 k ∧ crowd b.1 (stepC (fW k) (fR k) (fP k) (b.1 k) (midF g n)) n < st
    · rw [if_pos c, if_pos c]
      refine ⟨fun i hi => ?_, by rw [h2]⟩
      simp only [upd]
      rw [h1 i hi]
    · rw [if_neg c, if_neg c]
      exact ⟨h1, h2⟩
theorem rnds_congr {fW fR fP : Nat → Int32} {n : Nat} {st : Int32} {f g : Nat → Int32} (h : EqN n f g) : ∀ k, EqN n (rnds fW fR fP n st f k).1 (rnds fW fR fP n st g k).1 ∧ (rnds fW fR fP n st f k).2 = (rnds fW fR fP n st g k).2
  | 0 => by rw [rnds_0, rnds_0]; exact ⟨h, rfl⟩
  | k + 1 => by
    obtain ⟨h1, h2⟩ := rnds_congr (fW := fW) (fR := fR) (fP := fP) (st := st) h k
    have h3 := turns_congr (fW := fW) (fR := fR) (fP := fP) (st := st) h1 n (Nat.le_refl _)
    rw [rnds_s, rnds_s]
    refine ⟨h3.1, ?_⟩
    show _ + _ = _ + _
    rw [h2]
    exact congrArg (fun z => (rnds fW fR fP n st g k).2 + z) h3.2
theorem rndM_congr {fW fR fP : Nat → Int32} {n : Nat} {st : Int32} {f g : Nat → Int32} (h : EqN n f g) : rndM fW fR fP n st f = rndM fW fR fP n st g := (turns_congr h n (Nat.le_refl _)).2
theorem copyF_eq (f g : Nat → Int32) (n : Nat) : EqN n (copyF f g n) f := fun i hi => by simp [copyF, hi]
theorem end_congr {f g : Nat → Int32} (a : Int32) (n : Nat) (h : EqN n f g) : loEnd f a n = loEnd g a n ∧ hiEnd f n = hiEnd g n := by
  induction n with
  | zero => rw [loEnd_0, loEnd_0, hiEnd_0, hiEnd_0]; exact ⟨rfl, rfl⟩
  | succ n ih =>
    obtain ⟨h1, h2⟩ := ih (fun i hi => h i (Nat.lt_succ_of_lt hi))
    rw [loEnd_s, loEnd_s, hiEnd_s, hiEnd_s, h1, h2, h n (Nat.lt_succ_self n)]
    exact ⟨rfl, rfl⟩
theorem wide_congr {f g : Nat → Int32} {n : Nat} (h : EqN n f g) : wide f n = wide g n := by
  unfold wide
  rw [(end_congr 40 n h).1, (end_congr 40 n h).2]
theorem agree_congr {fV f g : Nat → Int32} {n : Nat} (h : EqN n f g) : agreeP fV f n ↔ agreeP fV g n := by
  unfold agreeP
  rw [wide_congr h]
/-- the first of 0 to 100 for which something holds, -1 without any -/
def IsFst (P : Nat → Prop) (r : Int32) : Prop := (∃ k, k ≤ 100 ∧ r = nI k ∧ P k ∧ ∀ j, j < k → ¬ P j) ∨ (r = -1 ∧ ∀ k, k ≤ 100 → ¬ P k)
theorem isFst_uniq {P P' : Nat → Prop} (hPP : ∀ k, P k ↔ P' k) {r r' : Int32} (h : IsFst P r) (h' : IsFst P' r') : r = r' := by
  rcases h with ⟨k, a, rfl, b, c⟩ | ⟨rfl, c⟩ <;> rcases h' with ⟨k', a', rfl, b', c'⟩ | ⟨rfl, c'⟩
  · rcases Nat.lt_trichotomy k k' with z | z | z
    · exact absurd ((hPP k).mp b) (c' k z)
    · rw [z]
    · exact absurd ((hPP k').mpr b') (c k' z)
  · exact absurd ((hPP k).mp b) (c' k a)
  · exact absurd ((hPP k').mpr b') (c k' a')
  · rfl
noncomputable def fstF (P : Nat → Prop) : Int32 := @dite _ (∃ r, IsFst P r) (Classical.propDecidable _) (fun h => h.choose) (fun _ => 0)
theorem fstF_eq {P P' : Nat → Prop} (hPP : ∀ k, P' k ↔ P k) {r : Int32} (h : IsFst P' r) : r = fstF P := by
  have h0 : IsFst P r := by
    have e : P' = P := funext fun k => propext (hPP k)
    rw [← e]; exact h
  have h1 : ∃ r, IsFst P r := ⟨r, h0⟩
  unfold fstF
  rw [dif_pos h1]
  exact isFst_uniq (fun _ => Iff.rfl) h0 h1.choose_spec
noncomputable def untilT (fV fW fR fP : Nat → Int32) (n : Nat) (st : Int32) (f : Nat → Int32) : Int32 := fstF (fun k => agreeP fV (rnds fW fR fP n st f k).1 n)
noncomputable def untilS (fW fR fP : Nat → Int32) (n : Nat) (st : Int32) (f : Nat → Int32) : Int32 := fstF (fun k => rndM fW fR fP n st (rnds fW fR fP n st f k).1 = 0)
noncomputable def bestSt (fW fK : Nat → Int32) (n j : Nat) : Int32 := (amin (fun p => jabs (medF (upd fK j (nI p)) allS n - fW j)) 40).1
end
section
theorem bP_01 (p : Prop) : bP p = 0 ∨ bP p = 1 := by
  by_cases h : p
  · exact Or.inr (bP_t h).symm
  · exact Or.inl (bP_f h).symm
theorem med_of {g f : Nat → Int32} {k n : Nat} {sel : Nat → Bool} (h : RowOf g k f sel n) (hk : k ≠ 0) : midRow g k = medF f sel n := by
  rw [← midRow_s hk]
  exact (medF_eq (rowOf_med h (by omega))).symm
theorem winF_eq {va vb a b : Int32} (h : va = vb) : jmin a b = winF va vb a b := by simp [winF, h]
theorem winF_gt {va vb a b : Int32} (h : ¬ va = vb) (h1 : vb < va) : a = winF va vb a b := by simp [winF, h, h1]
theorem winF_lt {va vb a b : Int32} (h : ¬ va = vb) (h1 : ¬ vb < va) : b = winF va vb a b := by simp [winF, h, h1]
theorem rnds_step {fW fR fP : Nat → Int32} {n : Nat} {st : Int32} {f g : Nat → Int32} {i : Nat} (h : EqN n g (rnds fW fR fP n st f i).1) : EqN n (rndF fW fR fP n st g) (rnds fW fR fP n st f (i + 1)).1 := by
  rw [rnds_s]
  exact (turns_congr h n (Nat.le_refl _)).1
theorem jmax_le (a b q : Int32) : jmax a b ≤ q ↔ a ≤ q ∧ b ≤ q := by
  unfold jmax
  split <;> simp only [Int32.le_iff_toInt_le, Int32.lt_iff_toInt_lt] at * <;> omega
theorem jmin_le (a b q : Int32) : jmin a b ≤ q ↔ a ≤ q ∨ b ≤ q := by
  unfold jmin
  split <;> simp only [Int32.le_iff_toInt_le, Int32.lt_iff_toInt_lt] at * <;> omega
theorem cle_upd {f : Nat → Int32} {j : Nat} {x q : Int32} : ∀ n, cle (upd f j x) allS q n = cle f (selX j) q n + (if j < n ∧ x ≤ q then 1 else 0)
  | 0 => by simp [cle]
  | n + 1 => by
    simp only [cle, cle_upd n]
    by_cases h : n = j
    · subst h
      have h1 : upd f n x n = x := pk_us
      rw [h1]
      simp [selX, allS]
    · have h1 : upd f j x n = f n := pk_un h
      rw [h1]
      have h2 : selX j n = true := by simp [selX, h]
      have h3 : allS n = true := rfl
      rw [h2, h3]
      by_cases h4 : j < n
      · have h5 : j < n + 1 := by omega
        simp only [h4, h5]
        omega
      · have h5 : ¬ j < n + 1 := by omega
        simp only [h4, h5]
        simp
theorem mw_med {f g : Nat → Int32} {k n j p : Nat} (h : RowOf g k f (selX j) n) (hj : j < n) (hI : ∀ i, i < n → okD 41 (f i)) (hp : p ≤ 40) : mwF g k (nI p) = medF (upd f j (nI p)) allS n := by
  have hk : k = n - 1 := by rw [h.2.1, tot_selX, if_pos hj]
  refine (medF_eq fun q => ?_).symm
  rw [cle_upd n, ← h.2.2 q, tot_all]
  have hx0 : (0 : Int32) ≤ nI p := nI_pos' (by omega)
  have hx1 : nI p ≤ 40 := (nI_leI (a := p) (b := 40) (by omega) (by omega)).mpr hp
  have hq : 0 < cle g allS q k → (0 : Int32) ≤ q := fun z => by
    rw [h.2.2 q] at z
    obtain ⟨i, a, -, b, -⟩ := max_le n z
    obtain ⟨y, hy, e⟩ := hI i a
    rw [e] at b
    exact Int32.le_trans (nI_pos' (by omega)) b
  have hc : cle g allS q k ≤ k := cle_le _ _ _ _
  rw [show (n - 1) / 2 = k / 2 by rw [hk]]
  unfold mwF cutTo
  rw [jmax_le, jmin_le]
  have hjn : (j < n ∧ nI p ≤ q) ↔ nI p ≤ q := ⟨fun z => z.2, fun z => ⟨hj, z⟩⟩
  by_cases hx : nI p ≤ q
  · rw [if_pos (hjn.mpr hx)]
    by_cases a : 0 < k / 2
    · rw [if_pos a]
      have e := srt_cle h.1 (show k / 2 - 1 < k by omega) q
      constructor
      · intro z
        have := e.mp z.1
        omega
      · intro z
        exact ⟨e.mpr (by omega), Or.inl hx⟩
    · rw [if_neg a]
      constructor
      · intro _; omega
      · intro _
        exact ⟨Int32.le_trans hx0 hx, Or.inl hx⟩
  · rw [if_neg (fun z => hx (hjn.mp z))]
    by_cases b : k / 2 < k
    · rw [if_pos b]
      have e2 := srt_cle h.1 b q
      by_cases a : 0 < k / 2
      · rw [if_pos a]
        have e := srt_cle h.1 (show k / 2 - 1 < k by omega) q
        constructor
        · intro z
          have := e2.mp (z.2.resolve_left hx)
          omega
        · intro z
          exact ⟨e.mpr (by omega), Or.inr (e2.mpr (by omega))⟩
      · rw [if_neg a]
        constructor
        · intro z
          have := e2.mp (z.2.resolve_left hx)
          omega
        · intro z
          exact ⟨hq (by omega), Or.inr (e2.mpr (by omega))⟩
    · have hk0 : k = 0 := by omega
      rw [if_neg b]
      constructor
      · intro z
        exact absurd (Int32.le_trans hx1 (z.2.resolve_left hx)) hx
      · intro z
        exact absurd hc (by omega)
/-! ===== the mean, the checksum ===== -/
def sumF (f : Nat → Int32) (n : Nat) : Int32 := foldN (fun i c => c + f i) 0 n
theorem sumF_s (f : Nat → Int32) (i : Nat) : sumF f (i + 1) = sumF f i + f i := rfl
theorem sumF_0 (f : Nat → Int32) : sumF f 0 = 0 := rfl
theorem sumF_le {f : Nat → Int32} : ∀ n, (∀ i, i < n → okD 41 (f i)) → ∃ x, x ≤ 40 * n ∧ sumF f n = nI x
  | 0, _ => ⟨0, Nat.le_refl _, by rw [sumF_0]; rfl⟩
  | n + 1, h => by
    obtain ⟨x, hx, e⟩ := sumF_le n (fun i hi => h i (Nat.lt_succ_of_lt hi))
    obtain ⟨y, hy, e2⟩ := h n (Nat.lt_succ_self n)
    exact ⟨x + y, by omega, by rw [sumF_s, e, e2, nI_add]⟩
set_option maxRecDepth 100000 in
theorem fp_a : ∀ n, n < 13 → ∀ x, x < 481 → n ≠ 0 → FP.ddiv (FP.i2d (nI x)) (FP.i2d (nI n)) &&& 0x7fffffffffffffff ≤ 0x7ff0000000000000 := by decide +kernel
def meanD (f : Nat → Int32) (n : Nat) : UInt64 := if n = 0 then FP.dconst0 else FP.ddiv (FP.i2d (sumF f n)) (FP.i2d (nI n))
theorem mean_n {f : Nat → Int32} {n : Nat} (hn : n ≤ 12) (h0 : n ≠ 0) (h : ∀ i, i < n → okD 41 (f i)) : vf_n64 (FP.ddiv (FP.i2d (sumF f n)) (FP.i2d (nI n))) := by
  obtain ⟨x, hx, e⟩ := sumF_le n h
  rw [e]
  exact fp_a n (by omega) x (by omega) h0
theorem mean_0 {f : Nat → Int32} {n : Nat} (h : n = 0) : FP.dconst0 = meanD f n := by simp [meanD, h]
theorem mean_s {f : Nat → Int32} {n : Nat} (h : n ≠ 0) : FP.ddiv (FP.i2d (sumF f n)) (FP.i2d (nI n)) = meanD f n := by simp [meanD, h]
def foldI (d : Int64) (x : Int32) : Int64 := d * 31 + x.toInt64
/-- the checksum: its head, without and with delegates, and one delegate's part -/
noncomputable def digA (fV fW fR fP fK : Nat → Int32) (n : Nat) (rg st : Int32) : Int64 := foldI (foldI (foldI (foldI (foldI (foldI 1933 (nI n)) rg) st) (wide fK n)) (bP (agreeP fV fK n))) (bP (rndM fW fR fP n st fK = 0))
noncomputable def digB (fW fK : Nat → Int32) (n : Nat) (d : Int64) : Int64 := if n = 0 then d else foldI (foldI (foldI d (midF fK n)) (decF fK n)) (bestPl fW n)
theorem digB_0 {fW fK : Nat → Int32} {n : Nat} {d : Int64} (h : n = 0) : d = digB fW fK n d := by simp [digB, h]
theorem digB_s {fW fK : Nat → Int32} {n : Nat} {d : Int64} (h : n ≠ 0) : foldI (foldI (foldI d (midF fK n)) (decF fK n)) (bestPl fW n) = digB fW fK n d := by simp [digB, h]
noncomputable def digD (fV fW fR fP fK : Nat → Int32) (n j : Nat) (d : Int64) : Int64 := foldI (foldI (foldI (foldI (foldI (foldI (foldI (foldI d (fV j)) (fW j)) (fR j)) (fP j)) (fK j)) (stepC (fW j) (fR j) (fP j) (fK j) (midF fK n))) (bestSt fW fK n j)) (jabs (midF fK n - fW j))
noncomputable def digC (fV fW fR fP fK : Nat → Int32) (n : Nat) (d : Int64) (k : Nat) : Int64 := foldN (fun j z => digD fV fW fR fP fK n j z) d k
theorem digC_s (fV fW fR fP fK : Nat → Int32) (n : Nat) (d : Int64) (k : Nat) : digC fV fW fR fP fK n d (k + 1) = digD fV fW fR fP fK n k (digC fV fW fR fP fK n d k) := rfl
noncomputable def digH (fV fW fR fP fK : Nat → Int32) (n : Nat) (rg st : Int32) : Int64 := foldI (foldI (digB fW fK n (digA fV fW fR fP fK n rg st)) (disAll fW (midF fK n) n)) (untilS fW fR fP n st fK)
noncomputable def digF (fV fW fR fP fK : Nat → Int32) (n : Nat) (rg st : Int32) : Int64 := digC fV fW fR fP fK n (digH fV fW fR fP fK n rg st) n
end
section
/-! ===== what the reference's methods answer, in the same words ===== -/
theorem bP_congr {p q : Prop} (h : p ↔ q) : bP p = bP q := by rw [propext h]
theorem cd1_inv {p : Prop} (h : cd1 p = 0) : ¬ p := fun z => by rw [cd1_1 z] at h; exact absurd h (by decide)
theorem cd2_inv {p q : Prop} (h : cd2 p q = 0) : ¬ p ∧ ¬ q := by
  by_cases hp : p
  · rw [cd2_1 hp] at h; exact absurd h (by decide)
  · by_cases hq : q
    · rw [cd2_2 hp hq] at h; exact absurd h (by decide)
    · exact ⟨hp, hq⟩
theorem cd3_inv {p q r : Prop} (h : cd3 p q r = 0) : ¬ p ∧ ¬ q ∧ ¬ r := by
  by_cases hp : p
  · rw [cd3_1 hp] at h; exact absurd h (by decide)
  · by_cases hq : q
    · rw [cd3_2 hp hq] at h; exact absurd h (by decide)
    · by_cases hr : r
      · rw [cd3_3 hp hq hr] at h; exact absurd h (by decide)
      · exact ⟨hp, hq, hr⟩
theorem nn {p : Prop} (h : ¬ ¬ p) : p := Classical.byContradiction h
/-- small numbers as integers -/
theorem sub_small {a b : Int32} (h1 : -1000 ≤ a.toInt) (h2 : a.toInt ≤ 1000) (h3 : -1000 ≤ b.toInt) (h4 : b.toInt ≤ 1000) : (a - b).toInt = a.toInt - b.toInt := by
  rw [Int32.toInt_sub]
  exact Int.bmod_eq_of_le (by omega) (by omega)
theorem add_small {a b : Int32} (h1 : -1000 ≤ a.toInt) (h2 : a.toInt ≤ 1000) (h3 : -1000 ≤ b.toInt) (h4 : b.toInt ≤ 1000) : (a + b).toInt = a.toInt + b.toInt := by
  rw [Int32.toInt_add]
  exact Int.bmod_eq_of_le (by omega) (by omega)
theorem neg_small {a : Int32} (h1 : -1000 ≤ a.toInt) (h2 : a.toInt ≤ 1000) : (-a).toInt = -a.toInt := by
  rw [Int32.toInt_neg]
  exact Int.bmod_eq_of_le (by omega) (by omega)
theorem okD_int {n : Nat} {x : Int32} (hn : n ≤ 1000) (h : okD n x) : 0 ≤ x.toInt ∧ x.toInt < n := by
  obtain ⟨j, hj, rfl⟩ := h
  rw [nI_toInt (by omega)]
  omega
theorem okB_int {lo hi : Nat} {x : Int32} (hh : hi ≤ 1000) (h : okB lo hi x) : (lo : Int) ≤ x.toInt ∧ x.toInt ≤ hi := by
  obtain ⟨j, h1, h2, rfl⟩ := h
  rw [nI_toInt (by omega)]
  omega
theorem okD_ofInt {n : Nat} {x : Int32} (h0 : 0 ≤ x.toInt) (h1 : x.toInt < n) (hn : n ≤ 1000) : okD n x := by
  refine okD_of hn (fun z => ?_) ?_
  · have := Int32.lt_iff_toInt_lt.mp z
    rw [show (0 : Int32).toInt = 0 from rfl] at this
    omega
  · rw [Int32.lt_iff_toInt_lt, nI_toInt (by omega)]
    exact h1
theorem jabs_sym {a b : Int32} (ha : okD 41 a) (hb : okD 41 b) : jabs (a - b) = jabs (b - a) := by
  have h1 := okD_int (by omega) ha
  have h2 := okD_int (by omega) hb
  have e1 := sub_small (a := a) (b := b) (by omega) (by omega) (by omega) (by omega)
  have e2 := sub_small (a := b) (b := a) (by omega) (by omega) (by omega) (by omega)
  have z : (0 : Int32).toInt = 0 := rfl
  have e3 := sub_small (a := 0) (b := a - b) (by rw [z]; omega) (by rw [z]; omega) (by omega) (by omega)
  have e4 := sub_small (a := 0) (b := b - a) (by rw [z]; omega) (by rw [z]; omega) (by omega) (by omega)
  apply Int32.toInt_inj.mp
  unfold jabs
  simp only [Int32.le_iff_toInt_le]
  split <;> split <;> omega
theorem jabs_le {a b : Int32} (ha : okD 41 a) (hb : okD 41 b) : jabs (a - b) < 41 := by
  have h1 := okD_int (by omega) ha
  have h2 := okD_int (by omega) hb
  have e1 := sub_small (a := a) (b := b) (by omega) (by omega) (by omega) (by omega)
  have z : (0 : Int32).toInt = 0 := rfl
  have e3 := sub_small (a := 0) (b := a - b) (by rw [z]; omega) (by rw [z]; omega) (by omega) (by omega)
  have z2 : (41 : Int32).toInt = 41 := rfl
  rw [Int32.lt_iff_toInt_lt]
  unfold jabs
  simp only [Int32.le_iff_toInt_le]
  split <;> omega
theorem jmaxI (a b : Int32) : (jmax a b).toInt = max a.toInt b.toInt := by
  unfold jmax
  simp only [Int32.lt_iff_toInt_lt]
  split <;> omega
theorem jminI (a b : Int32) : (jmin a b).toInt = min a.toInt b.toInt := by
  unfold jmin
  simp only [Int32.lt_iff_toInt_lt]
  split <;> omega
/-- the reference's step -/
def stepM (w r pc fr mid : Int32) : Int32 := fr + jmax (-pc) (jmin pc (jmax (w - r) (jmin (w + r) mid) - fr))
theorem step_eq {w r pc fr mid : Int32} (hw : okD 41 w) (hr : okB 0 20 r) (hp : okB 1 5 pc) (hf : okD 41 fr) (hm : okD 41 mid) : stepM w r pc fr mid = stepC w r pc fr mid ∧ okD 41 (stepC w r pc fr mid) := by
  have h1 := okD_int (by omega) hw
  have h2 := okB_int (by omega) hr
  have h3 := okB_int (by omega) hp
  have h4 := okD_int (by omega) hf
  have h5 := okD_int (by omega) hm
  have e1 := sub_small (a := w) (b := r) (by omega) (by omega) (by omega) (by omega)
  have e2 := add_small (a := w) (b := r) (by omega) (by omega) (by omega) (by omega)
  have e3 := neg_small (a := pc) (by omega) (by omega)
  have e4 := sub_small (a := fr) (b := pc) (by omega) (by omega) (by omega) (by omega)
  have e5 := add_small (a := fr) (b := pc) (by omega) (by omega) (by omega) (by omega)
  have g1 : (jmax (w - r) (jmin (w + r) mid)).toInt = max (w.toInt - r.toInt) (min (w.toInt + r.toInt) mid.toInt) := by rw [jmaxI, jminI, e1, e2]
  have e6 := sub_small (a := jmax (w - r) (jmin (w + r) mid)) (b := fr) (by omega) (by omega) (by omega) (by omega)
  have g2 : (jmax (-pc) (jmin pc (jmax (w - r) (jmin (w + r) mid) - fr))).toInt = max (-pc.toInt) (min pc.toInt (max (w.toInt - r.toInt) (min (w.toInt + r.toInt) mid.toInt) - fr.toInt)) := by rw [jmaxI, jminI, e6, g1, e3]
  have e7 := add_small (a := fr) (b := jmax (-pc) (jmin pc (jmax (w - r) (jmin (w + r) mid) - fr))) (by omega) (by omega) (by omega) (by omega)
  have g3 : (stepC w r pc fr mid).toInt = max (fr.toInt - pc.toInt) (min (max (w.toInt - r.toInt) (min mid.toInt (w.toInt + r.toInt))) (fr.toInt + pc.toInt)) := by
    unfold stepC nearW cutTo
    rw [jmaxI, jminI, jmaxI, jminI, e1, e2, e4, e5]
  constructor
  · apply Int32.toInt_inj.mp
    show (fr + jmax (-pc) (jmin pc (jmax (w - r) (jmin (w + r) mid) - fr))).toInt = _
    rw [e7, g2, g3]
    omega
  · exact okD_ofInt (by omega) (by omega) (by omega)
/-- the reference's compromise: -1 without any -/
noncomputable def medM (f : Nat → Int32) (sel : Nat → Bool) (n : Nat) : Int32 := if tot sel n = 0 then -1 else medF f sel n
noncomputable def midM (f : Nat → Int32) (n : Nat) : Int32 := if n = 0 then -1 else midF f n
theorem midM_ne {f : Nat → Int32} {n : Nat} (h : n ≠ 0) : midM f n = midF f n := by simp [midM, h]
def selM (fV : Nat → Int32) (of but : Int32) : Nat → Bool := fun i => decide (¬ nI i = but ∧ (of = -1 ∨ fV i = of))
theorem tot_cs {s s' : Nat → Bool} : ∀ n, (∀ i, i < n → s i = s' i) → tot s n = tot s' n
  | 0, _ => rfl
  | n + 1, h => by
    simp only [tot]
    rw [tot_cs n (fun i hi => h i (by omega)), h n (by omega)]
theorem cle_cs {f : Nat → Int32} {s s' : Nat → Bool} {q : Int32} : ∀ n, (∀ i, i < n → s i = s' i) → cle f s q n = cle f s' q n
  | 0, _ => rfl
  | n + 1, h => by
    simp only [cle]
    rw [cle_cs n (fun i hi => h i (by omega)), h n (by omega)]
theorem medF_cs {f : Nat → Int32} {s s' : Nat → Bool} {n : Nat} (h : ∀ i, i < n → s i = s' i) (h0 : 0 < tot s n) : medF f s n = medF f s' n := by
  have h1 := med_is (f := f) h0
  have h2 : IsMed f s' n (medF f s n) := fun q => by
    rw [h1 q, tot_cs n h, cle_cs n h]
  exact (medF_eq h2).symm
theorem medM_cs {f : Nat → Int32} {s s' : Nat → Bool} {n : Nat} (h : ∀ i, i < n → s i = s' i) : medM f s n = medM f s' n := by
  unfold medM
  rw [tot_cs n h]
  split
  · rfl
  · exact medF_cs h (by rw [tot_cs n h]; omega)
theorem nI_m1ne {i : Nat} (h : i < 2 ^ 31) : ¬ nI i = -1 := fun z => by
  have := congrArg Int32.toInt z
  rw [nI_toInt h, show (-1 : Int32).toInt = -1 from rfl] at this
  omega
theorem medM_all {fV f : Nat → Int32} {n : Nat} (hn : n ≤ 12) : medM f (selM fV (-1) (-1)) n = midM f n := by
  rw [medM_cs (s' := allS) (fun i hi => by simp [selM, allS, nI_m1ne (show i < 2 ^ 31 by omega)])]
  unfold medM midM
  rw [tot_all]
  split
  · rfl
  · rename_i h
    simp [midF, h]
theorem medM_V {fV f : Nat → Int32} {v : Int32} {n : Nat} (hn : n ≤ 12) (hv : okD 5 v) : medM f (selM fV v (-1)) n = medM f (selV fV v) n := by
  obtain ⟨j, hj, rfl⟩ := hv
  exact medM_cs (fun i hi => by simp [selM, selV, nI_m1ne (show i < 2 ^ 31 by omega), nI_m1ne (show j < 2 ^ 31 by omega)])
theorem medM_X {fV f : Nat → Int32} {j : Nat} {n : Nat} (hn : n ≤ 12) (hj : j < n) : medM f (selM fV (-1) (nI j)) n = medM f (selX j) n :=
  medM_cs (fun i hi => by simp [selM, selX, nI_eq (show i < 2 ^ 31 by omega) (show j < 2 ^ 31 by omega)])
theorem med_ok {f : Nat → Int32} {sel : Nat → Bool} {n : Nat} (hI : ∀ i, i < n → okD 41 (f i)) (h : 0 < tot sel n) : okD 41 (medF f sel n) := by
  obtain ⟨i, a, -, b⟩ := isMed_mem (med_is (f := f) h)
  rw [← b]
  exact hI i a
theorem mid_ok {f : Nat → Int32} {n : Nat} (hI : ∀ i, i < n → okD 41 (f i)) (h : n ≠ 0) : okD 41 (midF f n) := by
  obtain ⟨i, a, b⟩ := mid_mem (f := f) h
  rw [← b]
  exact hI i a
theorem okD_ne {n : Nat} {x : Int32} (hn : n ≤ 1000) (h : okD n x) : ¬ x = -1 := by
  obtain ⟨j, hj, rfl⟩ := h
  exact nI_m1ne (by omega)
/-- counting: how many of the chosen stand on q; how many below p -/
def ceq (f : Nat → Int32) (sel : Nat → Bool) (q : Int32) : Nat → Nat
  | 0 => 0
  | i + 1 => ceq f sel q i + (if sel i = true ∧ f i = q then 1 else 0)
def clt (f : Nat → Int32) (sel : Nat → Bool) (q : Int32) : Nat → Nat
  | 0 => 0
  | i + 1 => clt f sel q i + (if sel i = true ∧ f i < q then 1 else 0)
theorem clt_s {f : Nat → Int32} {sel : Nat → Bool} {p : Nat} (hp : p < 100) : ∀ n, (∀ i, i < n → okD 41 (f i)) → clt f sel (nI (p + 1)) n = clt f sel (nI p) n + ceq f sel (nI p) n
  | 0, _ => rfl
  | n + 1, h => by
    simp only [clt, ceq]
    rw [clt_s hp n (fun i hi => h i (by omega))]
    obtain ⟨y, hy, e⟩ := h n (by omega)
    rw [e]
    simp only [nI_ltI (show y < 2 ^ 31 by omega) (show p + 1 < 2 ^ 31 by omega), nI_ltI (show y < 2 ^ 31 by omega) (show p < 2 ^ 31 by omega), nI_eq (show y < 2 ^ 31 by omega) (show p < 2 ^ 31 by omega)]
    by_cases s : sel n = true
    · simp only [s, true_and]
      split <;> split <;> split <;> omega
    · simp only [Bool.not_eq_true] at s
      simp only [s, Bool.false_eq_true, false_and, if_false]
      omega
theorem clt_0 {f : Nat → Int32} {sel : Nat → Bool} : ∀ n, (∀ i, i < n → okD 41 (f i)) → clt f sel (nI 0) n = 0
  | 0, _ => rfl
  | n + 1, h => by
    simp only [clt]
    rw [clt_0 n (fun i hi => h i (by omega))]
    obtain ⟨y, hy, e⟩ := h n (by omega)
    rw [e, if_neg (fun z => absurd ((nI_ltI (show y < 2 ^ 31 by omega) (show (0 : Nat) < 2 ^ 31 by omega)).mp z.2) (by omega))]
theorem clt_41 {f : Nat → Int32} {sel : Nat → Bool} {p : Nat} (hp : 41 ≤ p) (hp2 : p < 100) : ∀ n, (∀ i, i < n → okD 41 (f i)) → clt f sel (nI p) n = tot sel n
  | 0, _ => rfl
  | n + 1, h => by
    simp only [clt, tot]
    rw [clt_41 hp hp2 n (fun i hi => h i (by omega))]
    obtain ⟨y, hy, e⟩ := h n (by omega)
    rw [e]
    have : nI y < nI p := (nI_ltI (by omega) (by omega)).mpr (by omega)
    simp [this]
theorem cle_clt {f : Nat → Int32} {sel : Nat → Bool} {q r : Int32} : ∀ n, (q < r → cle f sel q n ≤ clt f sel r n) ∧ (r ≤ q → clt f sel r n + ceq f sel r n ≤ cle f sel q n)
  | 0 => ⟨fun _ => Nat.le_refl _, fun _ => Nat.le_refl _⟩
  | n + 1 => by
    obtain ⟨h1, h2⟩ := cle_clt (f := f) (sel := sel) (q := q) (r := r) n
    simp only [cle, clt, ceq]
    by_cases s : sel n = true
    · simp only [s, true_and]
      refine ⟨fun z => ?_, fun z => ?_⟩
      · have := h1 z
        by_cases a : f n ≤ q
        · rw [if_pos a, if_pos (Int32.lt_of_le_of_lt a z)]; omega
        · rw [if_neg a]; omega
      · have := h2 z
        by_cases a : f n < r
        · rw [if_pos a, if_neg (fun y => by rw [y] at a; exact Int32.lt_irrefl a), if_pos (Int32.le_trans (Int32.le_of_lt a) z)]; omega
        · by_cases b : f n = r
          · rw [if_neg a, if_pos b, if_pos (by rw [b]; exact z)]; omega
          · rw [if_neg a, if_neg b]; omega
    · simp only [Bool.not_eq_true] at s
      simp only [s, Bool.false_eq_true, false_and, if_false]
      exact ⟨fun z => by have := h1 z; omega, fun z => by have := h2 z; omega⟩
theorem med_at {f : Nat → Int32} {sel : Nat → Bool} {n p x : Nat} (h1 : x + clt f sel (nI p) n = (tot sel n - 1) / 2) (h2 : x < ceq f sel (nI p) n) (h0 : tot sel n ≠ 0) : nI p = medM f sel n := by
  unfold medM
  rw [if_neg h0]
  refine (medF_eq fun q => ?_).symm
  obtain ⟨a, b⟩ := cle_clt (f := f) (sel := sel) (q := q) (r := nI p) n
  constructor
  · intro z
    have := b z
    omega
  · intro z
    by_cases c : nI p ≤ q
    · exact c
    · have := a (Int32.not_le.mp c)
      omega
theorem ceq_le (f : Nat → Int32) (sel : Nat → Bool) (q : Int32) : ∀ n, ceq f sel q n ≤ n
  | 0 => Nat.le_refl _
  | n + 1 => by
    have := ceq_le f sel q n
    simp only [ceq]
    split <;> omega
theorem nI_subn {x k : Nat} (h : k ≤ x) : nI x - nI k = nI (x - k) := by
  have e : nI (x - k) + nI k = nI x := by rw [nI_add]; congr 1; omega
  rw [← e, Int32.add_sub_cancel]
theorem nI_subneg {x k : Nat} (hx : x < 500) (hk : k < 500) : nI x - nI k < 0 ↔ x < k := by
  have a := nI_toInt (show x < 2 ^ 31 by omega)
  have b := nI_toInt (show k < 2 ^ 31 by omega)
  have := sub_small (a := nI x) (b := nI k) (by omega) (by omega) (by omega) (by omega)
  rw [Int32.lt_iff_toInt_lt, this, a, b, show (0 : Int32).toInt = 0 from rfl]
  omega
/-- the reference's widths -/
theorem end_in {f : Nat → Int32} {a : Int32} : ∀ n i, i < n → loEnd f a n ≤ f i ∧ f i ≤ hiEnd f n
  | 0, _, h => absurd h (Nat.not_lt_zero _)
  | n + 1, i, h => by
    rw [loEnd_s, hiEnd_s]
    have e1 : ∀ x y : Int32, jmin x y ≤ x ∧ jmin x y ≤ y := fun x y => ⟨(jmin_le x y x).mpr (Or.inl (Int32.le_refl _)), (jmin_le x y y).mpr (Or.inr (Int32.le_refl _))⟩
    have e2 : ∀ x y : Int32, x ≤ jmax x y ∧ y ≤ jmax x y := fun x y => (jmax_le x y (jmax x y)).mp (Int32.le_refl _)
    rcases Nat.lt_or_ge i n with c | c
    · obtain ⟨h1, h2⟩ := end_in (f := f) (a := a) n i c
      exact ⟨Int32.le_trans (e1 _ _).1 h1, Int32.le_trans h2 (e2 _ _).1⟩
    · rw [show i = n by omega]
      exact ⟨(e1 _ _).2, (e2 _ _).2⟩
theorem end_rg {f : Nat → Int32} {a : Int32} (ha : 0 ≤ a.toInt ∧ a.toInt ≤ 41) : ∀ n, (∀ i, i < n → okD 41 (f i)) → 0 ≤ (loEnd f a n).toInt ∧ (loEnd f a n).toInt ≤ 41 ∧ 0 ≤ (hiEnd f n).toInt ∧ (hiEnd f n).toInt ≤ 40
  | 0, _ => by
    rw [loEnd_0, hiEnd_0, show (0 : Int32).toInt = 0 from rfl]
    omega
  | n + 1, h => by
    have h1 := end_rg ha n (fun i hi => h i (by omega))
    have h2 := okD_int (by omega) (h n (by omega))
    rw [loEnd_s, hiEnd_s, jminI, jmaxI]
    omega
theorem lo_41 {f : Nat → Int32} : ∀ n, (∀ i, i < n + 1 → okD 41 (f i)) → loEnd f 41 (n + 1) = loEnd f 40 (n + 1)
  | 0, h => by
    have h2 := okD_int (by omega) (h 0 (by omega))
    rw [loEnd_s, loEnd_s, loEnd_0, loEnd_0]
    apply Int32.toInt_inj.mp
    rw [jminI, jminI, show (41 : Int32).toInt = 41 from rfl, show (40 : Int32).toInt = 40 from rfl]
    omega
  | n + 1, h => by
    rw [loEnd_s, loEnd_s f 40, lo_41 n (fun i hi => h i (by omega))]
theorem wide_M {f : Nat → Int32} {n : Nat} (hI : ∀ i, i < n → okD 41 (f i)) (h : 2 ≤ n) : hiEnd f n - loEnd f 41 n = wide f n := by
  obtain ⟨k, rfl⟩ : ∃ k, n = k + 1 := ⟨n - 1, by omega⟩
  rw [lo_41 k hI]
  unfold wide
  have h1 := end_rg (f := f) (a := 40) (by decide) (k + 1) hI
  obtain ⟨h2, h3⟩ := end_in (f := f) (a := 40) (k + 1) 0 (by omega)
  have h4 := Int32.le_iff_toInt_le.mp (Int32.le_trans h2 h3)
  have e := sub_small (a := hiEnd f (k + 1)) (b := loEnd f 40 (k + 1)) (by omega) (by omega) (by omega) (by omega)
  apply Int32.toInt_inj.mp
  rw [jmaxI, e, show (0 : Int32).toInt = 0 from rfl]
  omega
theorem wide_few {f : Nat → Int32} {n : Nat} (hI : ∀ i, i < n → okD 41 (f i)) (h : n < 2) : (0 : Int32) = wide f n := by
  unfold wide
  match n, h with
  | 0, _ => rfl
  | 1, _ =>
    have h2 := okD_int (by omega) (hI 0 (by omega))
    rw [loEnd_s, hiEnd_s, loEnd_0, hiEnd_0]
    apply Int32.toInt_inj.mp
    have e1 := jminI 40 (f 0)
    have e2 := jmaxI 0 (f 0)
    rw [show (40 : Int32).toInt = 40 from rfl] at e1
    rw [show (0 : Int32).toInt = 0 from rfl] at e2
    have e := sub_small (a := jmax 0 (f 0)) (b := jmin 40 (f 0)) (by omega) (by omega) (by omega) (by omega)
    rw [jmaxI, e, e1, e2, show (0 : Int32).toInt = 0 from rfl]
    omega
def twoM (f : Nat → Int32) (n : Nat) : Prop := ∃ i, 1 ≤ i ∧ i < n ∧ f i ≠ f 0
theorem two_eq {f : Nat → Int32} {n : Nat} : twoM f n ↔ twoV f n := by
  constructor
  · rintro ⟨i, h1, h2, h3⟩
    refine nn fun h => h3 ?_
    have key : ∀ j, j < n → f j = f 0 := by
      intro j
      induction j with
      | zero => intro _; rfl
      | succ j ih =>
        intro hj
        rw [← ih (by omega)]
        exact nn fun z => h ⟨j + 1, by omega, hj, z⟩
    exact key i h2
  · rintro ⟨i, h1, h2, h3⟩
    refine nn fun h => h3 ?_
    have e : ∀ j, 1 ≤ j → j < n → f j = f 0 := fun j a b => nn fun z => h ⟨j, a, b, z⟩
    rw [e i h1 h2]
    by_cases c : i = 1
    · rw [c]
    · rw [e (i - 1) (by omega) (by omega)]
/-- all delegates' numbers as they must be -/
def Inv (fW fR fP fK : Nat → Int32) (n : Nat) : Prop := ∀ i, i < n → okD 41 (fW i) ∧ okB 0 20 (fR i) ∧ okB 1 5 (fP i) ∧ okD 41 (fK i)
theorem Inv.K {fW fR fP fK : Nat → Int32} {n : Nat} (h : Inv fW fR fP fK n) : ∀ i, i < n → okD 41 (fK i) := fun i hi => (h i hi).2.2.2
theorem turn_ok {fW fR fP f : Nat → Int32} {n : Nat} {st : Int32} (h : Inv fW fR fP f n) : ∀ k, k ≤ n → Inv fW fR fP (turns fW fR fP n st f k).1 n
  | 0, _ => by rw [turns_0]; exact h
  | k + 1, hk => by
    have ih := turn_ok (st := st) h k (by omega)
    rw [turns_s]
    generalize turns fW fR fP n st f k = q at ih ⊢
    unfold turnF
    split
    · intro i hi
      by_cases c : i = k
      · subst c
        have := ih i hi
        refine ⟨this.1, this.2.1, this.2.2.1, ?_⟩
        show okD 41 (upd q.1 i _ i)
        rw [pk_us]
        exact (step_eq this.1 this.2.1 this.2.2.1 this.2.2.2 (mid_ok h.K (by omega))).2
      · have := ih i hi
        refine ⟨this.1, this.2.1, this.2.2.1, ?_⟩
        show okD 41 (upd q.1 k _ i)
        rw [pk_un c]
        exact this.2.2.2
    · exact ih
theorem rndF_ok {fW fR fP f : Nat → Int32} {n : Nat} {st : Int32} (h : Inv fW fR fP f n) : Inv fW fR fP (rndF fW fR fP n st f) n := turn_ok h n (Nat.le_refl _)
theorem rnds_ok {fW fR fP f : Nat → Int32} {n : Nat} {st : Int32} (h : Inv fW fR fP f n) : ∀ k, Inv fW fR fP (rnds fW fR fP n st f k).1 n
  | 0 => by rw [rnds_0]; exact h
  | k + 1 => by rw [rnds_s]; exact rndF_ok (rnds_ok h k)
/-- how often one goes in a round: 0 to n -/
theorem moves_in {fW fR fP f : Nat → Int32} {n : Nat} {st : Int32} : ∀ k, ∃ x, x ≤ k ∧ (turns fW fR fP n st f k).2 = nI x
  | 0 => ⟨0, Nat.le_refl _, by rw [turns_0]; rfl⟩
  | k + 1 => by
    obtain ⟨x, hx, e⟩ := moves_in (fW := fW) (fR := fR) (fP := fP) (f := f) (n := n) (st := st) k
    rw [turns_s]
    generalize turns fW fR fP n st f k = q at e ⊢
    unfold turnF
    split
    · exact ⟨x + 1, by omega, by show q.2 + 1 = _; rw [e, nI_1]⟩
    · exact ⟨x, by omega, e⟩
theorem moves_0 {fW fR fP f : Nat → Int32} {n : Nat} {st : Int32} (hn : n ≤ 12) : rndM fW fR fP n st f ≤ 0 ↔ rndM fW fR fP n st f = 0 := by
  obtain ⟨x, hx, e⟩ := moves_in (fW := fW) (fR := fR) (fP := fP) (f := f) (n := n) (st := st) n
  have e' : rndM fW fR fP n st f = nI x := e
  rw [e', show (0 : Int32) = nI 0 from rfl, nI_leI (by omega) (by omega), nI_eq (by omega) (by omega)]
  omega
theorem nI_m1m {n : Nat} {x : Int32} (hn : n ≤ 12) : (0 ≤ x ∧ x ≤ nI n - 1) ↔ okD n x := by
  have e := sub_small (a := nI n) (b := 1) (by rw [nI_toInt (by omega)]; omega) (by rw [nI_toInt (by omega)]; omega) (by decide) (by decide)
  rw [nI_toInt (by omega), show (1 : Int32).toInt = 1 from rfl] at e
  constructor
  · rintro ⟨a, b⟩
    rw [Int32.le_iff_toInt_le] at a b
    rw [show (0 : Int32).toInt = 0 from rfl] at a
    exact okD_ofInt a (by omega) (by omega)
  · intro h
    have := okD_int (by omega) h
    rw [Int32.le_iff_toInt_le, Int32.le_iff_toInt_le, show (0 : Int32).toInt = 0 from rfl]
    omega
theorem isIn_D {k : Nat} {x : Int32} (hk : k < 1000) : (0 ≤ x ∧ x ≤ nI k) ↔ okD (k + 1) x := by
  constructor
  · rintro ⟨a, b⟩
    rw [Int32.le_iff_toInt_le] at a b
    rw [show (0 : Int32).toInt = 0 from rfl] at a
    rw [nI_toInt (by omega)] at b
    exact okD_ofInt a (by omega) (by omega)
  · intro h
    have := okD_int (by omega) h
    rw [Int32.le_iff_toInt_le, Int32.le_iff_toInt_le, show (0 : Int32).toInt = 0 from rfl, nI_toInt (by omega)]
    omega
theorem isIn_B {lo hi : Nat} {x : Int32} (hh : hi ≤ 1000) (hl : lo ≤ hi) : (nI lo ≤ x ∧ x ≤ nI hi) ↔ okB lo hi x := by
  constructor
  · rintro ⟨a, b⟩
    exact okB_of hh hl (Int32.not_lt.mpr a) (Int32.not_lt.mpr b)
  · rintro ⟨j, a, b, rfl⟩
    exact ⟨(nI_leI (by omega) (by omega)).mpr a, (nI_leI (by omega) (by omega)).mpr b⟩
/-- equal rows in a cell -/
theorem w_cg {D : va_G} {A : Nat → Prop} {ws : va_W} {H : Heap} {a n : Nat} {cA : ClassId} {f g : Nat → Int32} (hP : va_P D vwCl ws H) (hD : va_D A ws) (k : Nat) (hk : ws[k]? = some (a, .inl (cA, n, .inl f))) (h : ∀ i, i < n → f i = g i) : va_P D vwCl (ws.set k (a, .inl (cA, n, .inl g))) H ∧ va_D A (ws.set k (a, .inl (cA, n, .inl g))) := by
  refine ⟨hP.set hD hk ?_ (fun _ _ => rfl), hD.set hk⟩
  have h1 := hP k _ hk
  show H[a]? = some (vp_cell cA (n, .inl g))
  have h2 : H[a]? = some (vp_cell cA (n, .inl f)) := h1
  rw [h2, vp_cell_i, vp_cell_i]
  apply congrArg some
  unfold arrV
  congr 1
  apply Array.ext
  · simp
  · intro i hi1 hi2
    simp only [Array.getElem_ofFn]
    rw [h i (by simpa using hi1)]
section COPY
variable {p : Program} {l : Launch} {e : Env} {R : Room} {s : State} {m : MethodId} {args : Array Value} {below : List Frame} {meth : Method} {c : Code} {H : Heap} {locs : List Loc} {cells slots : Nat} {Q : State → Prop}
variable {cc : ByteArray} {pc : Nat} {ls : Array Slot} {rest : List Value} {D : va_G} {A : Nat → Prop} {a a0 : Nat} {tys : List (ClassId × FieldType)} {ws : va_W} {H0 : Heap}
theorem a_copy {own : String} {index : Nat} (hexec : p.tables.exec = Jvm.exec) (hb : c.code = cc) (hml : c.maxLocals = ls.size) (hown : s.vm.findClass own = some m.cls) (hlink : (Cond.methodLink own index arraycopyName).before args s = true) (hnat : (Cond.native arraycopyName).before args s = true) (hstat : (Cond.static arraycopyName).before args s = true) (hini : (Cond.initialized "java/lang/System").before args s = true)
    (hK : va_K D vwCl tys s) (hP : va_P D vwCl ws H) (hD : va_D A ws) (hS : va_S A H0 H locs) (q0 q1 t0 : Nat) {cA : ClassId} {f g : Nat → Int32} (ha0 : ws[q0]? = some (a0, .inl (cA, 12, .inl f))) (ha1 : ws[q1]? = some (a, .inl (cA, 12, .inl g))) (ht0 : tys[t0]? = some (cA, .int))
    (hframes : 1 ≤ R.frames) (hlocals : (rest.map fun v => v.category).sum + (nativeFrameWords "java/lang/System" "arraycopy" 5 + 11) ≤ R.locals) (hdg : decode cc pc = .ok (.invokestatic index, 3))
    (kk : ∀ (H1 : Heap) (locs1 : List Loc), va_P D vwCl (ws.set q1 (a, .inl (cA, 12, .inl (copyF f g 12)))) H1 → va_D A (ws.set q1 (a, .inl (cA, 12, .inl (copyF f g 12)))) → va_S A H0 H1 locs1 → W p l e R s m args below meth c H1 locs1 cells slots Q (F0 m (pc + 3) ls rest)) : W p l e R s m args below meth c H locs cells slots Q (F0 m pc ls (.int 12 :: .int 0 :: .ref a :: .int 0 :: .ref a0 :: rest)) := by
  have e : va_cpy f g (0 : Int32).toNatClampNeg (0 : Int32).toNatClampNeg (12 : Int32).toNatClampNeg = copyF f g 12 := by
    funext k
    show (if 0 ≤ k ∧ k < 0 + 12 then f (0 + (k - 0)) else g k) = if k < 12 then f k else g k
    simp
  refine va_copyi hexec hb hml hown hlink hnat hstat hini hK hP hD hS q0 q1 t0 t0 ha0 ha1 ht0 ht0 rfl (by decide) (by decide) (by decide) (by decide) (by decide) (fun _ _ => rfl) hframes hlocals hdg ?_
  rw [e]
  exact kk
end COPY
theorem cx1 {c : Int32} {P : Prop} (h : c = 1) (z : c = 0) : P := absurd (h.symm.trans z) (by decide)
theorem cx2 {c : Int32} {P : Prop} (h : c = 2) (z : c = 0) : P := absurd (h.symm.trans z) (by decide)
theorem cx3 {c : Int32} {P : Prop} (h : c = 3) (z : c = 0) : P := absurd (h.symm.trans z) (by decide)
theorem or_1 (p : Prop) : bP p ||| 1 = 1 := by
  rcases bP_01 p with h | h <;> rw [h] <;> rfl
theorem or_0 (p : Prop) : bP p ||| 0 = bP p := by
  rcases bP_01 p with h | h <;> rw [h] <;> rfl
theorem two_1 (f : Nat → Int32) : (0 : Int32) = bP (twoM f 1) := bP_f (fun ⟨i, a, b, _⟩ => by omega)
theorem two_or1 {f : Nat → Int32} {i : Nat} {v : Int32} (hv : v = bP (twoM f i)) (h1 : 1 ≤ i) (h : ¬ f i = f 0) : v ||| 1 = bP (twoM f (i + 1)) := by
  rw [hv, or_1]
  exact bP_t ⟨i, h1, by omega, h⟩
theorem two_or0 {f : Nat → Int32} {i : Nat} {v : Int32} (hv : v = bP (twoM f i)) (h : f i = f 0) : v ||| 0 = bP (twoM f (i + 1)) := by
  rw [hv, or_0]
  refine bP_congr ⟨fun ⟨j, a, b, c⟩ => ⟨j, a, by omega, c⟩, fun ⟨j, a, b, c⟩ => ⟨j, a, ?_, c⟩⟩
  rcases Nat.lt_or_ge j i with z | z
  · exact z
  · exact absurd (by rw [show j = i by omega]; exact h) c
theorem two_ex {f : Nat → Int32} {i n : Nat} (h : n ≤ i) (h2 : i ≤ n ∨ i = 1) : twoM f i ↔ twoM f n := by
  rcases h2 with h2 | h2
  · rw [show i = n by omega]
  · exact ⟨fun ⟨j, a, b, _⟩ => by omega, fun ⟨j, a, b, _⟩ => by omega⟩
theorem disAll_0 (fW : Nat → Int32) (p : Int32) : disAll fW p 0 = 0 := rfl
theorem disAll_M {fW fK : Nat → Int32} {n : Nat} : disAll fW (midM fK n) n = disAll fW (midF fK n) n := by
  by_cases h : n = 0
  · rw [h, disAll_0, disAll_0]
  · rw [midM_ne h]
theorem medM_one {f : Nat → Int32} {sel : Nat → Bool} {n : Nat} (hI : ∀ i, i < n → okD 41 (f i)) (h : medM f sel n = -1) : tot sel n = 0 := by
  refine nn fun z => ?_
  unfold medM at h
  rw [if_neg z] at h
  exact okD_ne (by omega) (med_ok hI (by omega)) h
theorem medM_not {f : Nat → Int32} {sel : Nat → Bool} {n : Nat} (h : ¬ medM f sel n = -1) : ¬ tot sel n = 0 := fun z => h (by simp [medM, z])
theorem medM_F {f : Nat → Int32} {sel : Nat → Bool} {n : Nat} (h : ¬ tot sel n = 0) : medM f sel n = medF f sel n := by simp [medM, h]
theorem votes_in (fW : Nat → Int32) (x y : Int32) : ∀ n, ∃ k, k ≤ n ∧ votes fW x y n = nI k
  | 0 => ⟨0, Nat.le_refl _, rfl⟩
  | n + 1 => by
    obtain ⟨k, hk, e⟩ := votes_in fW x y n
    rw [votes_s, e]
    split
    · exact ⟨k + 1, by omega, nI_1 k⟩
    · exact ⟨k, by omega, rfl⟩
/-- the winner, by the difference -/
theorem win_M {va vb : Int32} {n : Nat} (hn : n ≤ 12) (ha : ∃ k, k ≤ n ∧ va = nI k) (hb : ∃ k, k ≤ n ∧ vb = nI k) : (0 < va - vb ↔ vb < va) ∧ (va - vb < 0 ↔ va < vb) := by
  obtain ⟨x, hx, rfl⟩ := ha
  obtain ⟨y, hy, rfl⟩ := hb
  have a := nI_toInt (show x < 2 ^ 31 by omega)
  have b := nI_toInt (show y < 2 ^ 31 by omega)
  have := sub_small (a := nI x) (b := nI y) (by omega) (by omega) (by omega) (by omega)
  rw [Int32.lt_iff_toInt_lt, Int32.lt_iff_toInt_lt, Int32.lt_iff_toInt_lt, Int32.lt_iff_toInt_lt, this, a, b, show (0 : Int32).toInt = 0 from rfl]
  omega
theorem ceq_s (f : Nat → Int32) (sel : Nat → Bool) (q : Int32) (i : Nat) : ceq f sel q (i + 1) = ceq f sel q i + (if sel i = true ∧ f i = q then 1 else 0) := rfl
/-- the counting's loop: what is counted -/
def Cnt (f : Nat → Int32) (sel : Nat → Bool) (i : Nat) (g : Nat → Int32) : Prop := ∀ q, q < 41 → g q = nI (ceq f sel (nI q) i)
theorem cnt_skip {f g : Nat → Int32} {sel : Nat → Bool} {i : Nat} (h : Cnt f sel i g) (hs : ¬ sel i = true) : Cnt f sel (i + 1) g := fun q hq => by
  rw [ceq_s, if_neg (fun z => hs z.1), h q hq]
  rfl
theorem cnt_put {f g : Nat → Int32} {sel : Nat → Bool} {i y : Nat} (h : Cnt f sel i g) (hs : sel i = true) (hy : y < 41) (e : f i = nI y) : Cnt f sel (i + 1) (upd g y (g y + 1)) := fun q hq => by
  rw [ceq_s]
  by_cases c : q = y
  · subst c
    rw [pk_us, if_pos ⟨hs, e⟩, h q hq, nI_1]
  · rw [pk_un c, if_neg (fun z => c ((nI_eq (by omega) (by omega)).mp (e.symm.trans z.2)).symm), h q hq]
    rfl
theorem tot_s (sel : Nat → Bool) (i : Nat) : tot sel (i + 1) = tot sel i + (if sel i = true then 1 else 0) := rfl
theorem selM_t {fV : Nat → Int32} {of but : Int32} {i : Nat} (h : ¬ nI i = but) (h2 : of = -1 ∨ fV i = of) : selM fV of but i = true := by simp [selM, h, h2]
theorem selM_f1 {fV : Nat → Int32} {of but : Int32} {i : Nat} (h : nI i = but) : ¬ selM fV of but i = true := by simp [selM, h]
theorem selM_f2 {fV : Nat → Int32} {of but : Int32} {i : Nat} (h : ¬ of = -1) (h2 : ¬ fV i = of) : ¬ selM fV of but i = true := by simp [selM, h, h2]
/-- what is left: half of them, less those below -/
def Left (f : Nat → Int32) (sel : Nat → Bool) (n p : Nat) (l : Int32) : Prop := tot sel n ≠ 0 → ∃ x, x ≤ 12 ∧ l = nI x ∧ x + clt f sel (nI p) n = (tot sel n - 1) / 2
theorem left_0 {f : Nat → Int32} {sel : Nat → Bool} {n : Nat} (hn : n ≤ 12) (hI : ∀ i, i < n → okD 41 (f i)) : Left f sel n 0 ((nI (tot sel n) - 1) / 2) := fun h => by
  have := tot_le sel n
  refine ⟨(tot sel n - 1) / 2, by omega, ?_, by rw [clt_0 n hI]; rfl⟩
  rw [nI_m1 (by omega), nI_div2 _ (by omega)]
theorem left_s {f g : Nat → Int32} {sel : Nat → Bool} {n p : Nat} {l : Int32} (hn : n ≤ 12) (hI : ∀ i, i < n → okD 41 (f i)) (hC : Cnt f sel n g) (h : Left f sel n p l) (hp : p < 41) (h0 : ¬ l - g p < 0) : Left f sel n (p + 1) (l - g p) := fun z => by
  obtain ⟨x, hx, e, hs⟩ := h z
  have hk := ceq_le f sel (nI p) n
  rw [hC p hp, e] at h0 ⊢
  have : ¬ x < ceq f sel (nI p) n := fun w => h0 ((nI_subneg (x := x) (k := ceq f sel (nI p) n) (by omega) (by omega)).mpr w)
  exact ⟨x - ceq f sel (nI p) n, by omega, nI_subn (by omega), by rw [clt_s (by omega) n hI]; omega⟩
theorem left_end {f g : Nat → Int32} {sel : Nat → Bool} {n p : Nat} {l : Int32} (hn : n ≤ 12) (hC : Cnt f sel n g) (h : Left f sel n p l) (hp : p < 41) (h0 : l - g p < 0) (hz : tot sel n ≠ 0) : nI p = medM f sel n := by
  obtain ⟨x, hx, e, hs⟩ := h hz
  have hk := ceq_le f sel (nI p) n
  rw [hC p hp, e] at h0
  exact med_at hs ((nI_subneg (x := x) (k := ceq f sel (nI p) n) (by omega) (by omega)).mp h0) hz
theorem left_41 {f : Nat → Int32} {sel : Nat → Bool} {n p : Nat} {l : Int32} (hI : ∀ i, i < n → okD 41 (f i)) (h : Left f sel n p l) (hp : p = 41) : tot sel n = 0 := nn fun z => by
  obtain ⟨x, hx, e, hs⟩ := h z
  rw [clt_41 (by omega) (by omega) n hI] at hs
  omega
theorem medM_none {f : Nat → Int32} {sel : Nat → Bool} {n : Nat} (h : tot sel n = 0) : (-1 : Int32) = medM f sel n := by simp [medM, h]
/-- a delegate's own best place: the rows that are tried -/
theorem upd_upd {g f : Nat → Int32} {j : Nat} {x : Int32} (h : ∀ i, i ≠ j → g i = f i) : upd g j x = upd f j x := by
  funext i
  by_cases c : i = j
  · rw [c, pk_us, pk_us]
  · rw [pk_un c, pk_un c, h i c]
theorem upd_id {g f : Nat → Int32} {j : Nat} (h : ∀ i, i ≠ j → g i = f i) : upd g j (f j) = f := by
  funext i
  by_cases c : i = j
  · rw [c, pk_us]
  · rw [pk_un c, h i c]
theorem upd_ok {f : Nat → Int32} {n j p : Nat} (hI : ∀ i, i < n → okD 41 (f i)) (hp : p < 41) : ∀ i, i < n → okD 41 (upd f j (nI p) i) := fun i hi => by
  by_cases c : i = j
  · rw [c, pk_us]; exact ⟨p, hp, rfl⟩
  · rw [pk_un c]; exact hI i hi
end
